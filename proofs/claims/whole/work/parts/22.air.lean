theorem k_X0_setKind_0 : Cond.fieldLink RX0 9 "FeatherHall$Air" "speeds" "[I" ∈ wsX0_setKind := (List.mem_cons_of_mem _ (List.mem_append_left _ (List.mem_of_getElem? (i := 0) rfl)))
theorem ki_X0_setKind_X0 : ∀ w ∈ u_ws RX0 TX0 5, w ∈ wsX0_setKind := fun _ hh => (List.mem_cons_of_mem _ (List.mem_append_right _ hh))
theorem k_X0_setKind_1 : Cond.fieldLink RX0 15 "FeatherHall$Air" "drags" "[I" ∈ wsX0_setKind := (List.mem_cons_of_mem _ (List.mem_append_left _ (List.mem_of_getElem? (i := 1) rfl)))
theorem k_X0_setKind_2 : Cond.fieldLink RX0 18 "FeatherHall$Air" "meets" "[I" ∈ wsX0_setKind := (List.mem_cons_of_mem _ (List.mem_append_left _ (List.mem_of_getElem? (i := 2) rfl)))
theorem k_X0_setKind_3 : Cond.fieldLink RX0 21 "FeatherHall$Air" "paths" "[J" ∈ wsX0_setKind := (List.mem_cons_of_mem _ (List.mem_append_left _ (List.mem_of_getElem? (i := 3) rfl)))
theorem hd_X0_setKind : yX0_setKind.cls = RX0 ∧ yX0_setKind.cls ≠ "java/lang/invoke/MethodHandle" ∧ yX0_setKind.cls ≠ "java/lang/invoke/VarHandle" ∧ (parseMethodDescriptor yX0_setKind.desc).map (fun d => d.parameters.length) = some 4 := by decide +kernel
set_option maxHeartbeats 4000000 in
set_option maxRecDepth 100000 in
theorem w_X0_setKind_25 {p : Program} {l : Launch} {e : Env} {s : State} {m : MethodId} {below : List Frame} {meth : Method} {c : Code} {args : Array Value} {D : va_G} {cy : Nat → ClassId} {g : Nat → Nat} {A : Nat → Prop} {ua' : St} (C0 : Cx p s m meth c args cX0_setKind 6 none wsX0_setKind RX0 D cy A) : ∀ (nn : Nat) (l1 : Int32) (l5 : Int32) (ua : St), f_X0_setKind_25 nn l1 l5 ua = some ua' → ∀ (H : Heap) (locs : List Loc) (ls : Array Slot), va_P D vwCl (wX0 cy g ua) H → va_D A (wX0 cy g ua) → va_S A s.heap H locs → lv_has ls 6 [(0, .ref (g 99)), (1, .int l1), (5, .int l5)] → W p l e (rmH 0) s m args below meth c H locs 0 0 (QV below args s A D cy (wX0 cy g ua')) (F0 m 25 ls []) := by
  obtain ⟨hx, hb, hr, hml, hown, hts, hlocks, hK, hA⟩ := id C0
  intro nn
  induction nn with
  | zero => intro l1 l5 ua h; rw [f_X0_setKind_25] at h; cases h
  | succ nn ih =>
    intro l1 l5 ua h H locs ls hP hD hS hl
    rw [f_X0_setKind_25] at h
    refine lv_iload hx hb dX0_setKind_25 (lv_at hl 2 rfl) ?_
    refine lv_sipush (v := 256) hx hb dX0_setKind_27 (by decide) ?_
    refine x_icmp_ge (tgt := 55) hx hb dX0_setKind_30 (by decide) h (fun _ h => ?_) (fun _ h => ?_)
    · cases h
      exact x_vret hx hb hr hlocks hK hP hD hS dX0_setKind_55 rfl
    · refine lv_aload_n hx hb dX0_setKind_33 rfl (lv_at hl 0 rfl) ?_
      refine va_get (D := D) (ci := 0) (v := .ref (g 3)) (C := RX0) (T := TX0) (N := 5) hx hb hts ki_X0_setKind_X0 hown hK hP 0 rfl rfl 3 (by decide) (hts _ k_X0_setKind_3) (fun _ h9 => h9) rfl dX0_setKind_34 ?_
      refine lv_iload_n hx hb dX0_setKind_37 rfl (lv_at hl 1 rfl) ?_
      refine lv_bipush (v := 16) hx hb dX0_setKind_38 (by decide) ?_
      refine lv_imul hx hb dX0_setKind_40 ?_
      refine lv_bipush (v := 16) hx hb dX0_setKind_41 (by decide) ?_
      refine lv_imul hx hb dX0_setKind_43 ?_
      refine lv_iload hx hb dX0_setKind_44 (lv_at hl 2 rfl) ?_
      refine lv_iadd hx hb dX0_setKind_46 ?_
      refine lv_lconst (v := 0) hx hb dX0_setKind_47 (by decide) ?_
      refine x_last (Wd := (fun uz => wX0 cy g uz)) (u := ua) hx hb hK hP hD hS 4 rfl rfl (fun _ => rfl) h dX0_setKind_48 (fun ua4 H locs h hP hD hS => ?_)
      obtain ⟨v5, ev5, h⟩ := nm_ex h
      refine lv_iinc (v := v5) (lv' := [(5, .int v5), (0, .ref (g 99)), (1, .int l1)]) hx hb dX0_setKind_49 hl (k := 2) rfl (by rw [ev5]; rfl) (by decide) rfl (fun ls hl => ?_)
      clear ev5
      refine lv_goto (tgt := 25) hx hb dX0_setKind_52 (by decide) ?_
      exact ih l1 v5 ua4 h _ _ ls hP hD hS (lv_sub hl [1, 2, 0] rfl)
set_option maxHeartbeats 4000000 in
set_option maxRecDepth 100000 in
theorem c_X0_setKind (l : Launch) (D : va_G) (cy : Nat → ClassId) (g : Nat → Nat) (ua : St) (p0 : Int32) (p1 : Int32) (p2 : Int32) (p3 : Int32) (ua' : St) (h : f_X0_setKind p0 p1 p2 p3 ua = some ua') : CtV l yX0_setKind wsX0_setKind (rmH 0) [.ref (g 99), .int p0, .int p1, .int p2, .int p3] D cy (wX0 cy g ua) (wX0 cy g ua') := by
  refine ct_enter (D := D) (cy := cy) (cc := cX0_setKind) (maxL := 6) (ret := none) (w := wX0 cy g ua) (Qc := fun sz => va_Qv (fun (_ : Unit) => True) (Bw D cy (va_A (wX0 cy g ua) sz) (wX0 cy g ua')) (va_A (wX0 cy g ua) sz)) (by decide) rfl (Nat.le_of_ble_eq_true rfl) ?_
  intro p e s m below meth c A C0 hAe ls hl hP hD hS
  have e1 : MQ below ((fun sz => va_Qv (fun (_ : Unit) => True) (Bw D cy (va_A (wX0 cy g ua) sz) (wX0 cy g ua')) (va_A (wX0 cy g ua) sz)) s.heap.size) [.ref (g 99), .int p0, .int p1, .int p2, .int p3].toArray s 0 0 A = QV below [.ref (g 99), .int p0, .int p1, .int p2, .int p3].toArray s A D cy (wX0 cy g ua') := by rw [hAe]; rfl
  rw [e1]
  clear e1 hAe
  obtain ⟨hx, hb, hr, hml, hown, hts, hlocks, hK, hA⟩ := id C0
  have hl : lv_has ls 6 [(0, .ref (g 99)), (1, .int p0), (2, .int p1), (3, .int p2), (4, .int p3)] := hl
  rw [f_X0_setKind] at h
  refine lv_aload_n hx hb dX0_setKind_0 rfl (lv_at hl 0 rfl) ?_
  refine va_get (D := D) (ci := 0) (v := .ref (g 0)) (C := RX0) (T := TX0) (N := 5) hx hb hts ki_X0_setKind_X0 hown hK hP 0 rfl rfl 0 (by decide) (hts _ k_X0_setKind_0) (fun _ h9 => h9) rfl dX0_setKind_1 ?_
  refine lv_iload_n hx hb dX0_setKind_4 rfl (lv_at hl 1 rfl) ?_
  refine lv_iload_n hx hb dX0_setKind_5 rfl (lv_at hl 2 rfl) ?_
  refine x_iast (Wd := (fun uz => wX0 cy g uz)) (u := ua) (k := 0) hx hb hK hP hD hS 1 rfl rfl (fun _ => rfl) h dX0_setKind_6 (fun ua1 H locs h hP hD hS => ?_)
  refine lv_aload_n hx hb dX0_setKind_7 rfl (lv_at hl 0 rfl) ?_
  refine va_get (D := D) (ci := 0) (v := .ref (g 1)) (C := RX0) (T := TX0) (N := 5) hx hb hts ki_X0_setKind_X0 hown hK hP 0 rfl rfl 1 (by decide) (hts _ k_X0_setKind_1) (fun _ h9 => h9) rfl dX0_setKind_8 ?_
  refine lv_iload_n hx hb dX0_setKind_11 rfl (lv_at hl 1 rfl) ?_
  refine lv_iload_n hx hb dX0_setKind_12 rfl (lv_at hl 3 rfl) ?_
  refine x_iast (Wd := (fun uz => wX0 cy g uz)) (u := ua1) (k := 1) hx hb hK hP hD hS 2 rfl rfl (fun _ => rfl) h dX0_setKind_13 (fun ua2 H locs h hP hD hS => ?_)
  refine lv_aload_n hx hb dX0_setKind_14 rfl (lv_at hl 0 rfl) ?_
  refine va_get (D := D) (ci := 0) (v := .ref (g 2)) (C := RX0) (T := TX0) (N := 5) hx hb hts ki_X0_setKind_X0 hown hK hP 0 rfl rfl 2 (by decide) (hts _ k_X0_setKind_2) (fun _ h9 => h9) rfl dX0_setKind_15 ?_
  refine lv_iload_n hx hb dX0_setKind_18 rfl (lv_at hl 1 rfl) ?_
  refine lv_iload hx hb dX0_setKind_19 (lv_at hl 4 rfl) ?_
  refine x_iast (Wd := (fun uz => wX0 cy g uz)) (u := ua2) (k := 2) hx hb hK hP hD hS 3 rfl rfl (fun _ => rfl) h dX0_setKind_21 (fun ua3 H locs h hP hD hS => ?_)
  refine lv_iconst (v := 0) hx hb dX0_setKind_22 (by decide) ?_
  refine lv_istore (lv' := [(5, .int (0 : Int32)), (0, .ref (g 99)), (1, .int p0), (2, .int p1), (3, .int p2), (4, .int p3)]) hx hb dX0_setKind_23 hl (by decide) rfl (fun ls hl => ?_)
  exact w_X0_setKind_25 C0 FU p0 (0 : Int32) ua3 h _ _ ls hP hD hS (lv_sub hl [1, 2, 0] rfl)
theorem k_X0_setBroken_0 : Cond.fieldLink RX0 25 "FeatherHall$Air" "brokenOnes" "I" ∈ wsX0_setBroken := (List.mem_cons_of_mem _ (List.mem_append_left _ (List.mem_of_getElem? (i := 0) rfl)))
theorem ki_X0_setBroken_X0 : ∀ w ∈ u_ws RX0 TX0 5, w ∈ wsX0_setBroken := fun _ hh => (List.mem_cons_of_mem _ (List.mem_append_right _ hh))
theorem k_X0_setBroken_1 : Cond.fieldLink RX0 21 "FeatherHall$Air" "paths" "[J" ∈ wsX0_setBroken := (List.mem_cons_of_mem _ (List.mem_append_left _ (List.mem_of_getElem? (i := 1) rfl)))
theorem hd_X0_setBroken : yX0_setBroken.cls = RX0 ∧ yX0_setBroken.cls ≠ "java/lang/invoke/MethodHandle" ∧ yX0_setBroken.cls ≠ "java/lang/invoke/VarHandle" ∧ (parseMethodDescriptor yX0_setBroken.desc).map (fun d => d.parameters.length) = some 1 := by decide +kernel
set_option maxHeartbeats 4000000 in
set_option maxRecDepth 100000 in
theorem c_X0_setBroken (l : Launch) (D : va_G) (cy : Nat → ClassId) (g : Nat → Nat) (ua : St) (p0 : Int32) (r : Int32) (ua' : St) (h : f_X0_setBroken p0 ua = some (r, ua')) : CtI l yX0_setBroken wsX0_setBroken (rmH 1) [.ref (g 99), .int p0] D cy (wX0 cy g ua) (wX0 cy g ua') r := by
  refine ct_enter (D := D) (cy := cy) (cc := cX0_setBroken) (maxL := 3) (ret := (some .int)) (w := wX0 cy g ua) (Qc := fun sz => va_Qi (fun r' (_ : Unit) => r' = r) (Bw D cy (va_A (wX0 cy g ua) sz) (wX0 cy g ua')) (va_A (wX0 cy g ua) sz)) (by decide) rfl (Nat.le_of_ble_eq_true rfl) ?_
  intro p e s m below meth c A C0 hAe ls hl hP hD hS
  have e1 : MQ below ((fun sz => va_Qi (fun r' (_ : Unit) => r' = r) (Bw D cy (va_A (wX0 cy g ua) sz) (wX0 cy g ua')) (va_A (wX0 cy g ua) sz)) s.heap.size) [.ref (g 99), .int p0].toArray s 0 0 A = QI below [.ref (g 99), .int p0].toArray s A D cy (wX0 cy g ua') r := by rw [hAe]; rfl
  rw [e1]
  clear e1 hAe
  obtain ⟨hx, hb, hr, hml, hown, hts, hlocks, hK, hA⟩ := id C0
  have hl : lv_has ls 3 [(0, .ref (g 99)), (1, .int p0)] := hl
  rw [f_X0_setBroken] at h
  refine lv_aload_n hx hb dX0_setBroken_0 rfl (lv_at hl 0 rfl) ?_
  refine va_get (D := D) (ci := 0) (v := .int (ua.1 4)) (C := RX0) (T := TX0) (N := 5) hx hb hts ki_X0_setBroken_X0 hown hK hP 0 rfl rfl 4 (by decide) (hts _ k_X0_setBroken_0) (fun _ h9 => h9) rfl dX0_setBroken_1 ?_
  refine lv_istore_n (lv' := [(2, .int (ua.1 4)), (0, .ref (g 99)), (1, .int p0)]) hx hb dX0_setBroken_4 rfl hl (by decide) rfl (fun ls hl => ?_)
  refine lv_aload_n hx hb dX0_setBroken_5 rfl (lv_at hl 1 rfl) ?_
  refine lv_iload_n hx hb dX0_setBroken_6 rfl (lv_at hl 2 rfl) ?_
  refine x_put (D := D) (ci := 0) (Wd := (fun uz => wX0 cy g uz)) (u := ua) (C := RX0) (T := TX0) (N := 5) hx hb hts ki_X0_setBroken_X0 tyX0 tyX0_ok nmX0 hown hK hP hD hS 0 rfl rfl 4 (by decide) (hts _ k_X0_setBroken_0) (fun _ h9 => h9) rfl (tyX0_ok 4 (by decide)) rfl rfl (Nat.le_of_ble_eq_true rfl) (fun _ => rfl) h dX0_setBroken_7 (fun ua1 H locs h hP hD hS => ?_)
  refine lv_aload_n hx hb dX0_setBroken_10 rfl (lv_at hl 1 rfl) ?_
  refine va_get (D := D) (ci := 0) (v := .ref (g 3)) (C := RX0) (T := TX0) (N := 5) hx hb hts ki_X0_setBroken_X0 hown hK hP 0 rfl rfl 3 (by decide) (hts _ k_X0_setBroken_1) (fun _ h9 => h9) rfl dX0_setBroken_11 ?_
  refine lv_lconst (v := 0) hx hb dX0_setBroken_14 (by decide) ?_
  refine x_callSV (As := [.ref (g 3), .long (0 : Int64)]) (rest := []) (n := 2) ⟨hx, hb, hml, hown, hts⟩ (c_fillL l D cy (g 3) 1024 ua1.2.2 (0 : Int64) (by decide)) gX0_setBroken_J7_fill_d0a16 rfl hd_J7_fill_d0a16 ⟨Nat.le_of_ble_eq_true rfl, Nat.le_of_ble_eq_true rfl⟩ ⟨rfl, rfl⟩ hK (spf_3 cy g ua1) (spg_3 cy g ua1 (fillL 1024 ua1.2.2 (0 : Int64))) hP hD hS hA rfl hl.1 rfl (Nat.le_of_ble_eq_true rfl) dX0_setBroken_15 ⟨Nat.zero_le _, Nat.zero_le _⟩ (fun H locs hP hD hS => ?_)
  obtain ⟨ua2, eua2, h⟩ := nm_ex h
  rw [← eua2] at hP hD
  clear eua2
  refine lv_iload_n hx hb dX0_setBroken_18 rfl (lv_at hl 0 rfl) ?_
  cases h
  exact x_iret hx hb hr hlocks hK hP hD hS dX0_setBroken_19 rfl rfl
theorem k_X0_landingOf_0 : Cond.constantLong RX0 35 (63) ∈ wsX0_landingOf := (List.mem_cons_of_mem _ (List.mem_of_getElem? (i := 0) rfl))
theorem hd_X0_landingOf : yX0_landingOf.cls ≠ "java/lang/invoke/MethodHandle" ∧ yX0_landingOf.cls ≠ "java/lang/invoke/VarHandle" ∧ (parseMethodDescriptor yX0_landingOf.desc).map (fun d => d.parameters.length) = some 1 := by decide +kernel
set_option maxHeartbeats 4000000 in
set_option maxRecDepth 100000 in
theorem c_X0_landingOf (l : Launch) (D : va_G) (cy : Nat → ClassId) (p0 : Int64) (r : Int32) (h : f_X0_landingOf p0 = some r) : CtI l yX0_landingOf wsX0_landingOf (rmH 0) [.long p0] D cy (([] : va_W)) (([] : va_W)) r := by
  refine ct_enter (D := D) (cy := cy) (cc := cX0_landingOf) (maxL := 2) (ret := (some .int)) (w := ([] : va_W)) (Qc := fun sz => va_Qi (fun r' (_ : Unit) => r' = r) (Bw D cy (va_A (([] : va_W)) sz) (([] : va_W))) (va_A (([] : va_W)) sz)) (by decide) rfl (Nat.le_of_ble_eq_true rfl) ?_
  intro p e s m below meth c A C0 hAe ls hl hP hD hS
  have e1 : MQ below ((fun sz => va_Qi (fun r' (_ : Unit) => r' = r) (Bw D cy (va_A (([] : va_W)) sz) (([] : va_W))) (va_A (([] : va_W)) sz)) s.heap.size) [.long p0].toArray s 0 0 A = QI below [.long p0].toArray s A D cy (([] : va_W)) r := by rw [hAe]; rfl
  rw [e1]
  clear e1 hAe
  obtain ⟨hx, hb, hr, hml, hown, hts, hlocks, hK, hA⟩ := id C0
  have hl : lv_has ls 2 [(0, .long p0)] := hl
  rw [f_X0_landingOf] at h
  refine lv_lload_n hx hb dX0_landingOf_0 rfl (lv_at hl 0 rfl) ?_
  refine lv_ldc2 hx hb hown (hts _ k_X0_landingOf_0) dX0_landingOf_1 ?_
  refine lv_land hx hb dX0_landingOf_4 ?_
  refine lv_l2i hx hb dX0_landingOf_5 rfl ?_
  cases h
  exact x_iret hx hb hr hlocks hK hP hD hS dX0_landingOf_6 rfl rfl
theorem k_X0_firstMetOf_0 : Cond.constantLong RX0 35 (63) ∈ wsX0_firstMetOf := (List.mem_cons_of_mem _ (List.mem_of_getElem? (i := 0) rfl))
theorem hd_X0_firstMetOf : yX0_firstMetOf.cls ≠ "java/lang/invoke/MethodHandle" ∧ yX0_firstMetOf.cls ≠ "java/lang/invoke/VarHandle" ∧ (parseMethodDescriptor yX0_firstMetOf.desc).map (fun d => d.parameters.length) = some 1 := by decide +kernel
set_option maxHeartbeats 4000000 in
set_option maxRecDepth 100000 in
theorem c_X0_firstMetOf (l : Launch) (D : va_G) (cy : Nat → ClassId) (p0 : Int64) (r : Int32) (h : f_X0_firstMetOf p0 = some r) : CtI l yX0_firstMetOf wsX0_firstMetOf (rmH 0) [.long p0] D cy (([] : va_W)) (([] : va_W)) r := by
  refine ct_enter (D := D) (cy := cy) (cc := cX0_firstMetOf) (maxL := 2) (ret := (some .int)) (w := ([] : va_W)) (Qc := fun sz => va_Qi (fun r' (_ : Unit) => r' = r) (Bw D cy (va_A (([] : va_W)) sz) (([] : va_W))) (va_A (([] : va_W)) sz)) (by decide) rfl (Nat.le_of_ble_eq_true rfl) ?_
  intro p e s m below meth c A C0 hAe ls hl hP hD hS
  have e1 : MQ below ((fun sz => va_Qi (fun r' (_ : Unit) => r' = r) (Bw D cy (va_A (([] : va_W)) sz) (([] : va_W))) (va_A (([] : va_W)) sz)) s.heap.size) [.long p0].toArray s 0 0 A = QI below [.long p0].toArray s A D cy (([] : va_W)) r := by rw [hAe]; rfl
  rw [e1]
  clear e1 hAe
  obtain ⟨hx, hb, hr, hml, hown, hts, hlocks, hK, hA⟩ := id C0
  have hl : lv_has ls 2 [(0, .long p0)] := hl
  rw [f_X0_firstMetOf] at h
  refine lv_lload_n hx hb dX0_firstMetOf_0 rfl (lv_at hl 0 rfl) ?_
  refine lv_bipush (v := 6) hx hb dX0_firstMetOf_1 (by decide) ?_
  refine lv_lshr hx hb dX0_firstMetOf_3 rfl ?_
  refine lv_ldc2 hx hb hown (hts _ k_X0_firstMetOf_0) dX0_firstMetOf_4 ?_
  refine lv_land hx hb dX0_firstMetOf_7 ?_
  refine lv_l2i hx hb dX0_firstMetOf_8 rfl ?_
  cases h
  exact x_iret hx hb hr hlocks hK hP hD hS dX0_firstMetOf_9 rfl rfl
theorem hd_X0_isNet : yX0_isNet.cls ≠ "java/lang/invoke/MethodHandle" ∧ yX0_isNet.cls ≠ "java/lang/invoke/VarHandle" ∧ (parseMethodDescriptor yX0_isNet.desc).map (fun d => d.parameters.length) = some 1 := by decide +kernel
set_option maxHeartbeats 4000000 in
set_option maxRecDepth 100000 in
theorem c_X0_isNet (l : Launch) (D : va_G) (cy : Nat → ClassId) (p0 : Int64) (r : Int32) (h : f_X0_isNet p0 = some r) : CtI l yX0_isNet wsX0_isNet (rmH 1) [.long p0] D cy (([] : va_W)) (([] : va_W)) r := by
  refine ct_enter (D := D) (cy := cy) (cc := cX0_isNet) (maxL := 2) (ret := (some .boolean)) (w := ([] : va_W)) (Qc := fun sz => va_Qi (fun r' (_ : Unit) => r' = r) (Bw D cy (va_A (([] : va_W)) sz) (([] : va_W))) (va_A (([] : va_W)) sz)) (by decide) rfl (Nat.le_of_ble_eq_true rfl) ?_
  intro p e s m below meth c A C0 hAe ls hl hP hD hS
  have e1 : MQ below ((fun sz => va_Qi (fun r' (_ : Unit) => r' = r) (Bw D cy (va_A (([] : va_W)) sz) (([] : va_W))) (va_A (([] : va_W)) sz)) s.heap.size) [.long p0].toArray s 0 0 A = QI below [.long p0].toArray s A D cy (([] : va_W)) r := by rw [hAe]; rfl
  rw [e1]
  clear e1 hAe
  obtain ⟨hx, hb, hr, hml, hown, hts, hlocks, hK, hA⟩ := id C0
  have hl : lv_has ls 2 [(0, .long p0)] := hl
  rw [f_X0_isNet] at h
  refine lv_lload_n hx hb dX0_isNet_0 rfl (lv_at hl 0 rfl) ?_
  obtain ⟨r1, e2, h⟩ := bd_some h
  refine x_callSI (As := [.long p0]) (rest := []) (n := 1) ⟨hx, hb, hml, hown, hts⟩ (c_X0_firstMetOf l D cy  p0 r1 e2) gX0_isNet_X0_firstMetOf rfl hd_X0_firstMetOf ⟨Nat.le_of_ble_eq_true rfl, Nat.le_of_ble_eq_true rfl⟩ ⟨rfl, rfl⟩ hK (sp_nil _) (sp_nil _) hP hD hS hA rfl hl.1 rfl (Nat.le_of_ble_eq_true rfl) dX0_isNet_1 ⟨Nat.zero_le _, Nat.zero_le _⟩ (fun H locs hP hD hS => ?_)
  clear e2
  refine x_if_ne (tgt := 11) hx hb dX0_isNet_4 (by decide) h (fun _ h => ?_) (fun _ h => ?_)
  · refine lv_iconst (v := 1) hx hb dX0_isNet_7 (by decide) ?_
    refine lv_goto (tgt := 12) hx hb dX0_isNet_8 (by decide) ?_
    cases h
    exact x_zret hx hb hr hlocks hK hP hD hS (Or.inr rfl) dX0_isNet_12 rfl rfl
  · refine lv_iconst (v := 0) hx hb dX0_isNet_11 (by decide) ?_
    cases h
    exact x_zret hx hb hr hlocks hK hP hD hS (Or.inl rfl) dX0_isNet_12 rfl rfl
theorem k_X0_cellAt_0 : Cond.constantLong RX0 44 (15) ∈ wsX0_cellAt := (List.mem_cons_of_mem _ (List.mem_of_getElem? (i := 0) rfl))
theorem hd_X0_cellAt : yX0_cellAt.cls ≠ "java/lang/invoke/MethodHandle" ∧ yX0_cellAt.cls ≠ "java/lang/invoke/VarHandle" ∧ (parseMethodDescriptor yX0_cellAt.desc).map (fun d => d.parameters.length) = some 2 := by decide +kernel
set_option maxHeartbeats 4000000 in
set_option maxRecDepth 100000 in
theorem c_X0_cellAt (l : Launch) (D : va_G) (cy : Nat → ClassId) (p0 : Int64) (p1 : Int32) (r : Int32) (h : f_X0_cellAt p0 p1 = some r) : CtI l yX0_cellAt wsX0_cellAt (rmH 1) [.long p0, .int p1] D cy (([] : va_W)) (([] : va_W)) r := by
  refine ct_enter (D := D) (cy := cy) (cc := cX0_cellAt) (maxL := 3) (ret := (some .int)) (w := ([] : va_W)) (Qc := fun sz => va_Qi (fun r' (_ : Unit) => r' = r) (Bw D cy (va_A (([] : va_W)) sz) (([] : va_W))) (va_A (([] : va_W)) sz)) (by decide) rfl (Nat.le_of_ble_eq_true rfl) ?_
  intro p e s m below meth c A C0 hAe ls hl hP hD hS
  have e1 : MQ below ((fun sz => va_Qi (fun r' (_ : Unit) => r' = r) (Bw D cy (va_A (([] : va_W)) sz) (([] : va_W))) (va_A (([] : va_W)) sz)) s.heap.size) [.long p0, .int p1].toArray s 0 0 A = QI below [.long p0, .int p1].toArray s A D cy (([] : va_W)) r := by rw [hAe]; rfl
  rw [e1]
  clear e1 hAe
  obtain ⟨hx, hb, hr, hml, hown, hts, hlocks, hK, hA⟩ := id C0
  have hl : lv_has ls 3 [(0, .long p0), (2, .int p1)] := hl
  rw [f_X0_cellAt] at h
  refine lv_lload_n hx hb dX0_cellAt_0 rfl (lv_at hl 0 rfl) ?_
  refine lv_bipush (v := 12) hx hb dX0_cellAt_1 (by decide) ?_
  refine lv_iconst (v := 4) hx hb dX0_cellAt_3 (by decide) ?_
  refine lv_lload_n hx hb dX0_cellAt_4 rfl (lv_at hl 0 rfl) ?_
  obtain ⟨r1, e2, h⟩ := bd_some h
  refine x_callSI (As := [.long p0]) (rest := [.int (4 : Int32), .int (12 : Int32), .long p0]) (n := 1) ⟨hx, hb, hml, hown, hts⟩ (c_X0_landingOf l D cy  p0 r1 e2) gX0_cellAt_X0_landingOf rfl hd_X0_landingOf ⟨Nat.le_of_ble_eq_true rfl, Nat.le_of_ble_eq_true rfl⟩ ⟨rfl, rfl⟩ hK (sp_nil _) (sp_nil _) hP hD hS hA rfl hl.1 rfl (Nat.le_of_ble_eq_true rfl) dX0_cellAt_5 ⟨Nat.zero_le _, Nat.zero_le _⟩ (fun H locs hP hD hS => ?_)
  clear e2
  refine lv_iload_n hx hb dX0_cellAt_8 rfl (lv_at hl 1 rfl) ?_
  refine lv_isub hx hb dX0_cellAt_9 ?_
  refine lv_imul hx hb dX0_cellAt_10 ?_
  refine lv_iadd hx hb dX0_cellAt_11 ?_
  refine lv_lshr hx hb dX0_cellAt_12 rfl ?_
  refine lv_ldc2 hx hb hown (hts _ k_X0_cellAt_0) dX0_cellAt_13 ?_
  refine lv_land hx hb dX0_cellAt_16 ?_
  refine lv_l2i hx hb dX0_cellAt_17 rfl ?_
  cases h
  exact x_iret hx hb hr hlocks hK hP hD hS dX0_cellAt_18 rfl rfl
theorem k_X0_lengthOf_0 : Cond.methodLink RX0 86 Lib.Math.abs.name ∈ wsX0_lengthOf := (List.mem_cons_of_mem _ (List.mem_of_getElem? (i := 0) rfl))
theorem k_X0_lengthOf_1 : Cond.static Lib.Math.abs.name ∈ wsX0_lengthOf := (List.mem_cons_of_mem _ (List.mem_of_getElem? (i := 1) rfl))
theorem k_X0_lengthOf_2 : Cond.initialized "java/lang/Math" ∈ wsX0_lengthOf := (List.mem_cons_of_mem _ (List.mem_of_getElem? (i := 2) rfl))
theorem k_X0_lengthOf_3 : Cond.code Lib.Math.abs.name Lib.Math.abs.code 1 (some .int) ∈ wsX0_lengthOf := (List.mem_cons_of_mem _ (List.mem_of_getElem? (i := 3) rfl))
theorem hd_X0_lengthOf : yX0_lengthOf.cls ≠ "java/lang/invoke/MethodHandle" ∧ yX0_lengthOf.cls ≠ "java/lang/invoke/VarHandle" ∧ (parseMethodDescriptor yX0_lengthOf.desc).map (fun d => d.parameters.length) = some 2 := by decide +kernel
set_option maxHeartbeats 4000000 in
set_option maxRecDepth 100000 in
theorem c_X0_lengthOf (l : Launch) (D : va_G) (cy : Nat → ClassId) (p0 : Int32) (p1 : Int32) (r : Int32) (h : f_X0_lengthOf p0 p1 = some r) : CtI l yX0_lengthOf wsX0_lengthOf (rmH 1) [.int p0, .int p1] D cy (([] : va_W)) (([] : va_W)) r := by
  refine ct_enter (D := D) (cy := cy) (cc := cX0_lengthOf) (maxL := 3) (ret := (some .int)) (w := ([] : va_W)) (Qc := fun sz => va_Qi (fun r' (_ : Unit) => r' = r) (Bw D cy (va_A (([] : va_W)) sz) (([] : va_W))) (va_A (([] : va_W)) sz)) (by decide) rfl (Nat.le_of_ble_eq_true rfl) ?_
  intro p e s m below meth c A C0 hAe ls hl hP hD hS
  have e1 : MQ below ((fun sz => va_Qi (fun r' (_ : Unit) => r' = r) (Bw D cy (va_A (([] : va_W)) sz) (([] : va_W))) (va_A (([] : va_W)) sz)) s.heap.size) [.int p0, .int p1].toArray s 0 0 A = QI below [.int p0, .int p1].toArray s A D cy (([] : va_W)) r := by rw [hAe]; rfl
  rw [e1]
  clear e1 hAe
  obtain ⟨hx, hb, hr, hml, hown, hts, hlocks, hK, hA⟩ := id C0
  have hl : lv_has ls 3 [(0, .int p0), (1, .int p1)] := hl
  rw [f_X0_lengthOf] at h
  refine lv_iload_n hx hb dX0_lengthOf_0 rfl (lv_at hl 0 rfl) ?_
  obtain ⟨r1, e2, h⟩ := bd_some h
  refine x_callSI (As := [.int p0]) (rest := []) (n := 1) ⟨hx, hb, hml, hown, hts⟩ (c_X2_rowOf l D cy  p0 r1 e2) gX0_lengthOf_X2_rowOf rfl hd_X2_rowOf ⟨Nat.le_of_ble_eq_true rfl, Nat.le_of_ble_eq_true rfl⟩ ⟨rfl, rfl⟩ hK (sp_nil _) (sp_nil _) hP hD hS hA rfl hl.1 rfl (Nat.le_of_ble_eq_true rfl) dX0_lengthOf_1 ⟨Nat.zero_le _, Nat.zero_le _⟩ (fun H locs hP hD hS => ?_)
  clear e2
  refine lv_iload_n hx hb dX0_lengthOf_4 rfl (lv_at hl 1 rfl) ?_
  obtain ⟨r3, e4, h⟩ := bd_some h
  refine x_callSI (As := [.int p1]) (rest := [.int r1]) (n := 1) ⟨hx, hb, hml, hown, hts⟩ (c_X2_rowOf l D cy  p1 r3 e4) gX0_lengthOf_X2_rowOf rfl hd_X2_rowOf ⟨Nat.le_of_ble_eq_true rfl, Nat.le_of_ble_eq_true rfl⟩ ⟨rfl, rfl⟩ hK (sp_nil _) (sp_nil _) hP hD hS hA rfl hl.1 rfl (Nat.le_of_ble_eq_true rfl) dX0_lengthOf_5 ⟨Nat.zero_le _, Nat.zero_le _⟩ (fun H locs hP hD hS => ?_)
  clear e4
  refine lv_iadd hx hb dX0_lengthOf_8 ?_
  refine lv_iconst (v := 1) hx hb dX0_lengthOf_9 (by decide) ?_
  refine lv_iadd hx hb dX0_lengthOf_10 ?_
  refine x_nm h (fun v5 h => ?_)
  refine lv_istore_n (lv' := [(2, .int v5), (0, .int p0), (1, .int p1)]) hx hb dX0_lengthOf_11 rfl hl (by decide) rfl (fun ls hl => ?_)
  refine lv_bipush (v := 10) hx hb dX0_lengthOf_12 (by decide) ?_
  refine lv_iload_n hx hb dX0_lengthOf_14 rfl (lv_at hl 0 rfl) ?_
  refine lv_imul hx hb dX0_lengthOf_15 ?_
  refine lv_iconst (v := 5) hx hb dX0_lengthOf_16 (by decide) ?_
  refine lv_iload_n hx hb dX0_lengthOf_17 rfl (lv_at hl 1 rfl) ?_
  obtain ⟨r6, e7, h⟩ := bd_some h
  refine x_callSI (As := [.int p0]) (rest := [.int (5 : Int32), .int ((10 : Int32) * v5)]) (n := 1) ⟨hx, hb, hml, hown, hts⟩ (c_X2_colOf l D cy  p0 r6 e7) gX0_lengthOf_X2_colOf rfl hd_X2_colOf ⟨Nat.le_of_ble_eq_true rfl, Nat.le_of_ble_eq_true rfl⟩ ⟨rfl, rfl⟩ hK (sp_nil _) (sp_nil _) hP hD hS hA rfl hl.1 rfl (Nat.le_of_ble_eq_true rfl) dX0_lengthOf_18 ⟨Nat.zero_le _, Nat.zero_le _⟩ (fun H locs hP hD hS => ?_)
  clear e7
  refine lv_iload_n hx hb dX0_lengthOf_21 rfl (lv_at hl 2 rfl) ?_
  obtain ⟨r8, e9, h⟩ := bd_some h
  refine x_callSI (As := [.int p1]) (rest := [.int r6, .int (5 : Int32), .int ((10 : Int32) * v5)]) (n := 1) ⟨hx, hb, hml, hown, hts⟩ (c_X2_colOf l D cy  p1 r8 e9) gX0_lengthOf_X2_colOf rfl hd_X2_colOf ⟨Nat.le_of_ble_eq_true rfl, Nat.le_of_ble_eq_true rfl⟩ ⟨rfl, rfl⟩ hK (sp_nil _) (sp_nil _) hP hD hS hA rfl hl.1 rfl (Nat.le_of_ble_eq_true rfl) dX0_lengthOf_22 ⟨Nat.zero_le _, Nat.zero_le _⟩ (fun H locs hP hD hS => ?_)
  clear e9
  refine lv_isub hx hb dX0_lengthOf_25 ?_
  refine x_nm h (fun v10 h => ?_)
  refine va_mabs hx hb (hml.trans hl.1.symm) hown (hts _ k_X0_lengthOf_0) (hts _ k_X0_lengthOf_1) (hts _ k_X0_lengthOf_2) (hts _ k_X0_lengthOf_3) (Nat.le_of_ble_eq_true rfl) (Nat.le_of_ble_eq_true rfl) (Nat.zero_le _) (Nat.zero_le _) dX0_lengthOf_26 ?_
  refine x_nm h (fun v11 h => ?_)
  refine lv_imul hx hb dX0_lengthOf_29 ?_
  refine lv_iadd hx hb dX0_lengthOf_30 ?_
  cases h
  exact x_iret hx hb hr hlocks hK hP hD hS dX0_lengthOf_31 rfl rfl
theorem k_X0_wholeOf_0 : Cond.fieldLink RX0 25 "FeatherHall$Air" "brokenOnes" "I" ∈ wsX0_wholeOf := (List.mem_cons_of_mem _ (List.mem_append_left _ (List.mem_of_getElem? (i := 0) rfl)))
theorem ki_X0_wholeOf_X0 : ∀ w ∈ u_ws RX0 TX0 5, w ∈ wsX0_wholeOf := fun _ hh => (List.mem_cons_of_mem _ (List.mem_append_right _ hh))
theorem hd_X0_wholeOf : yX0_wholeOf.cls = RX0 ∧ yX0_wholeOf.cls ≠ "java/lang/invoke/MethodHandle" ∧ yX0_wholeOf.cls ≠ "java/lang/invoke/VarHandle" ∧ (parseMethodDescriptor yX0_wholeOf.desc).map (fun d => d.parameters.length) = some 1 := by decide +kernel
set_option maxHeartbeats 4000000 in
set_option maxRecDepth 100000 in
theorem c_X0_wholeOf (l : Launch) (D : va_G) (cy : Nat → ClassId) (g : Nat → Nat) (ua : St) (p0 : Int32) (r : Int32) (h : f_X0_wholeOf ua p0 = some r) : CtI l yX0_wholeOf wsX0_wholeOf (rmH 0) [.ref (g 99), .int p0] D cy (wX0 cy g ua) (wX0 cy g ua) r := by
  refine ct_enter (D := D) (cy := cy) (cc := cX0_wholeOf) (maxL := 2) (ret := (some .int)) (w := wX0 cy g ua) (Qc := fun sz => va_Qi (fun r' (_ : Unit) => r' = r) (Bw D cy (va_A (wX0 cy g ua) sz) (wX0 cy g ua)) (va_A (wX0 cy g ua) sz)) (by decide) rfl (Nat.le_of_ble_eq_true rfl) ?_
  intro p e s m below meth c A C0 hAe ls hl hP hD hS
  have e1 : MQ below ((fun sz => va_Qi (fun r' (_ : Unit) => r' = r) (Bw D cy (va_A (wX0 cy g ua) sz) (wX0 cy g ua)) (va_A (wX0 cy g ua) sz)) s.heap.size) [.ref (g 99), .int p0].toArray s 0 0 A = QI below [.ref (g 99), .int p0].toArray s A D cy (wX0 cy g ua) r := by rw [hAe]; rfl
  rw [e1]
  clear e1 hAe
  obtain ⟨hx, hb, hr, hml, hown, hts, hlocks, hK, hA⟩ := id C0
  have hl : lv_has ls 2 [(0, .ref (g 99)), (1, .int p0)] := hl
  rw [f_X0_wholeOf] at h
  refine lv_iload_n hx hb dX0_wholeOf_0 rfl (lv_at hl 1 rfl) ?_
  refine lv_bipush (v := 100) hx hb dX0_wholeOf_1 (by decide) ?_
  refine lv_iconst (v := 4) hx hb dX0_wholeOf_3 (by decide) ?_
  refine lv_aload_n hx hb dX0_wholeOf_4 rfl (lv_at hl 0 rfl) ?_
  refine va_get (D := D) (ci := 0) (v := .int (ua.1 4)) (C := RX0) (T := TX0) (N := 5) hx hb hts ki_X0_wholeOf_X0 hown hK hP 0 rfl rfl 4 (by decide) (hts _ k_X0_wholeOf_0) (fun _ h9 => h9) rfl dX0_wholeOf_5 ?_
  refine lv_imul hx hb dX0_wholeOf_8 ?_
  refine lv_isub hx hb dX0_wholeOf_9 ?_
  refine lv_imul hx hb dX0_wholeOf_10 ?_
  refine lv_bipush (v := 100) hx hb dX0_wholeOf_11 (by decide) ?_
  refine lv_idiv hx hb dX0_wholeOf_13 (by decide) ?_
  cases h
  exact x_iret hx hb hr hlocks hK hP hD hS dX0_wholeOf_14 rfl rfl
theorem k_X0_slowed_0 : Cond.fieldLink RX0 15 "FeatherHall$Air" "drags" "[I" ∈ wsX0_slowed := (List.mem_cons_of_mem _ (List.mem_append_left _ (List.mem_of_getElem? (i := 0) rfl)))
theorem ki_X0_slowed_X0 : ∀ w ∈ u_ws RX0 TX0 5, w ∈ wsX0_slowed := fun _ hh => (List.mem_cons_of_mem _ (List.mem_append_right _ hh))
theorem k_X0_slowed_1 : Cond.fieldLink RX0 25 "FeatherHall$Air" "brokenOnes" "I" ∈ wsX0_slowed := (List.mem_cons_of_mem _ (List.mem_append_left _ (List.mem_of_getElem? (i := 1) rfl)))
theorem k_X0_slowed_2 : Cond.methodLink RX0 75 Lib.Math.max.name ∈ wsX0_slowed := (List.mem_cons_of_mem _ (List.mem_append_left _ (List.mem_of_getElem? (i := 2) rfl)))
theorem k_X0_slowed_3 : Cond.static Lib.Math.max.name ∈ wsX0_slowed := (List.mem_cons_of_mem _ (List.mem_append_left _ (List.mem_of_getElem? (i := 3) rfl)))
theorem k_X0_slowed_4 : Cond.initialized "java/lang/Math" ∈ wsX0_slowed := (List.mem_cons_of_mem _ (List.mem_append_left _ (List.mem_of_getElem? (i := 4) rfl)))
theorem k_X0_slowed_5 : Cond.code Lib.Math.max.name Lib.Math.max.code 2 (some .int) ∈ wsX0_slowed := (List.mem_cons_of_mem _ (List.mem_append_left _ (List.mem_of_getElem? (i := 5) rfl)))
theorem hd_X0_slowed : yX0_slowed.cls = RX0 ∧ yX0_slowed.cls ≠ "java/lang/invoke/MethodHandle" ∧ yX0_slowed.cls ≠ "java/lang/invoke/VarHandle" ∧ (parseMethodDescriptor yX0_slowed.desc).map (fun d => d.parameters.length) = some 2 := by decide +kernel
set_option maxHeartbeats 4000000 in
set_option maxRecDepth 100000 in
theorem c_X0_slowed (l : Launch) (D : va_G) (cy : Nat → ClassId) (g : Nat → Nat) (ua : St) (p0 : Int32) (p1 : Int32) (r : Int32) (h : f_X0_slowed ua p0 p1 = some r) : CtI l yX0_slowed wsX0_slowed (rmH 1) [.ref (g 99), .int p0, .int p1] D cy (wX0 cy g ua) (wX0 cy g ua) r := by
  refine ct_enter (D := D) (cy := cy) (cc := cX0_slowed) (maxL := 3) (ret := (some .int)) (w := wX0 cy g ua) (Qc := fun sz => va_Qi (fun r' (_ : Unit) => r' = r) (Bw D cy (va_A (wX0 cy g ua) sz) (wX0 cy g ua)) (va_A (wX0 cy g ua) sz)) (by decide) rfl (Nat.le_of_ble_eq_true rfl) ?_
  intro p e s m below meth c A C0 hAe ls hl hP hD hS
  have e1 : MQ below ((fun sz => va_Qi (fun r' (_ : Unit) => r' = r) (Bw D cy (va_A (wX0 cy g ua) sz) (wX0 cy g ua)) (va_A (wX0 cy g ua) sz)) s.heap.size) [.ref (g 99), .int p0, .int p1].toArray s 0 0 A = QI below [.ref (g 99), .int p0, .int p1].toArray s A D cy (wX0 cy g ua) r := by rw [hAe]; rfl
  rw [e1]
  clear e1 hAe
  obtain ⟨hx, hb, hr, hml, hown, hts, hlocks, hK, hA⟩ := id C0
  have hl : lv_has ls 3 [(0, .ref (g 99)), (1, .int p0), (2, .int p1)] := hl
  rw [f_X0_slowed] at h
  refine lv_iconst (v := 2) hx hb dX0_slowed_0 (by decide) ?_
  refine lv_iload_n hx hb dX0_slowed_1 rfl (lv_at hl 2 rfl) ?_
  refine lv_bipush (v := 100) hx hb dX0_slowed_2 (by decide) ?_
  refine lv_aload_n hx hb dX0_slowed_4 rfl (lv_at hl 0 rfl) ?_
  refine va_get (D := D) (ci := 0) (v := .ref (g 1)) (C := RX0) (T := TX0) (N := 5) hx hb hts ki_X0_slowed_X0 hown hK hP 0 rfl rfl 1 (by decide) (hts _ k_X0_slowed_0) (fun _ h9 => h9) rfl dX0_slowed_5 ?_
  refine lv_iload_n hx hb dX0_slowed_8 rfl (lv_at hl 1 rfl) ?_
  refine x_iald hx hb hK hP 2 rfl rfl h dX0_slowed_9 (fun v1 h => ?_)
  refine lv_isub hx hb dX0_slowed_10 ?_
  refine lv_iconst (v := 2) hx hb dX0_slowed_11 (by decide) ?_
  refine lv_aload_n hx hb dX0_slowed_12 rfl (lv_at hl 0 rfl) ?_
  refine va_get (D := D) (ci := 0) (v := .int (ua.1 4)) (C := RX0) (T := TX0) (N := 5) hx hb hts ki_X0_slowed_X0 hown hK hP 0 rfl rfl 4 (by decide) (hts _ k_X0_slowed_1) (fun _ h9 => h9) rfl dX0_slowed_13 ?_
  refine lv_imul hx hb dX0_slowed_16 ?_
  refine lv_isub hx hb dX0_slowed_17 ?_
  refine lv_imul hx hb dX0_slowed_18 ?_
  refine lv_bipush (v := 100) hx hb dX0_slowed_19 (by decide) ?_
  refine lv_idiv hx hb dX0_slowed_21 (by decide) ?_
  refine x_nm h (fun v2 h => ?_)
  refine va_mmax hx hb (hml.trans hl.1.symm) hown (hts _ k_X0_slowed_2) (hts _ k_X0_slowed_3) (hts _ k_X0_slowed_4) (hts _ k_X0_slowed_5) (Nat.le_of_ble_eq_true rfl) (Nat.le_of_ble_eq_true rfl) (Nat.zero_le _) (Nat.zero_le _) dX0_slowed_22 ?_
  refine x_nm h (fun v3 h => ?_)
  cases h
  exact x_iret hx hb hr hlocks hK hP hD hS dX0_slowed_25 rfl rfl
theorem hd_X0_placeAt : yX0_placeAt.cls ≠ "java/lang/invoke/MethodHandle" ∧ yX0_placeAt.cls ≠ "java/lang/invoke/VarHandle" ∧ (parseMethodDescriptor yX0_placeAt.desc).map (fun d => d.parameters.length) = some 4 := by decide +kernel
set_option maxHeartbeats 4000000 in
set_option maxRecDepth 100000 in
theorem c_X0_placeAt (l : Launch) (D : va_G) (cy : Nat → ClassId) (p0 : Int32) (p1 : Int32) (p2 : Int32) (p3 : Int32) (r : Int32) (h : f_X0_placeAt p0 p1 p2 p3 = some r) : CtI l yX0_placeAt wsX0_placeAt (rmH 1) [.int p0, .int p1, .int p2, .int p3] D cy (([] : va_W)) (([] : va_W)) r := by
  refine ct_enter (D := D) (cy := cy) (cc := cX0_placeAt) (maxL := 7) (ret := (some .int)) (w := ([] : va_W)) (Qc := fun sz => va_Qi (fun r' (_ : Unit) => r' = r) (Bw D cy (va_A (([] : va_W)) sz) (([] : va_W))) (va_A (([] : va_W)) sz)) (by decide) rfl (Nat.le_of_ble_eq_true rfl) ?_
  intro p e s m below meth c A C0 hAe ls hl hP hD hS
  have e1 : MQ below ((fun sz => va_Qi (fun r' (_ : Unit) => r' = r) (Bw D cy (va_A (([] : va_W)) sz) (([] : va_W))) (va_A (([] : va_W)) sz)) s.heap.size) [.int p0, .int p1, .int p2, .int p3].toArray s 0 0 A = QI below [.int p0, .int p1, .int p2, .int p3].toArray s A D cy (([] : va_W)) r := by rw [hAe]; rfl
  rw [e1]
  clear e1 hAe
  obtain ⟨hx, hb, hr, hml, hown, hts, hlocks, hK, hA⟩ := id C0
  have hl : lv_has ls 7 [(0, .int p0), (1, .int p1), (2, .int p2), (3, .int p3)] := hl
  rw [f_X0_placeAt] at h
  refine lv_iload_n hx hb dX0_placeAt_0 rfl (lv_at hl 2 rfl) ?_
  refine lv_iconst (v := 1) hx hb dX0_placeAt_1 (by decide) ?_
  refine x_icmp_ge (tgt := 7) hx hb dX0_placeAt_2 (by decide) h (fun _ h => ?_) (fun _ h => ?_)
  · refine lv_iload_n hx hb dX0_placeAt_7 rfl (lv_at hl 0 rfl) ?_
    obtain ⟨r1, e2, h⟩ := bd_some h
    refine x_callSI (As := [.int p0]) (rest := []) (n := 1) ⟨hx, hb, hml, hown, hts⟩ (c_X2_rowOf l D cy  p0 r1 e2) gX0_placeAt_X2_rowOf rfl hd_X2_rowOf ⟨Nat.le_of_ble_eq_true rfl, Nat.le_of_ble_eq_true rfl⟩ ⟨rfl, rfl⟩ hK (sp_nil _) (sp_nil _) hP hD hS hA rfl hl.1 rfl (Nat.le_of_ble_eq_true rfl) dX0_placeAt_8 ⟨Nat.zero_le _, Nat.zero_le _⟩ (fun H locs hP hD hS => ?_)
    clear e2
    refine lv_iload_n hx hb dX0_placeAt_11 rfl (lv_at hl 1 rfl) ?_
    obtain ⟨r3, e4, h⟩ := bd_some h
    refine x_callSI (As := [.int p1]) (rest := [.int r1]) (n := 1) ⟨hx, hb, hml, hown, hts⟩ (c_X2_rowOf l D cy  p1 r3 e4) gX0_placeAt_X2_rowOf rfl hd_X2_rowOf ⟨Nat.le_of_ble_eq_true rfl, Nat.le_of_ble_eq_true rfl⟩ ⟨rfl, rfl⟩ hK (sp_nil _) (sp_nil _) hP hD hS hA rfl hl.1 rfl (Nat.le_of_ble_eq_true rfl) dX0_placeAt_12 ⟨Nat.zero_le _, Nat.zero_le _⟩ (fun H locs hP hD hS => ?_)
    clear e4
    refine lv_iadd hx hb dX0_placeAt_15 ?_
    refine lv_iconst (v := 1) hx hb dX0_placeAt_16 (by decide) ?_
    refine lv_iadd hx hb dX0_placeAt_17 ?_
    refine x_nm h (fun v5 h => ?_)
    refine lv_istore (lv' := [(4, .int v5), (0, .int p0), (1, .int p1), (2, .int p2), (3, .int p3)]) hx hb dX0_placeAt_18 hl (by decide) rfl (fun ls hl => ?_)
    refine lv_iload hx hb dX0_placeAt_20 (lv_at hl 0 rfl) ?_
    refine lv_iload_n hx hb dX0_placeAt_22 rfl (lv_at hl 4 rfl) ?_
    refine lv_imul hx hb dX0_placeAt_23 ?_
    refine lv_iload_n hx hb dX0_placeAt_24 rfl (lv_at hl 3 rfl) ?_
    refine x_idiv hx hb dX0_placeAt_25 h (fun h => ?_)
    refine lv_iload_n hx hb dX0_placeAt_26 rfl (lv_at hl 1 rfl) ?_
    obtain ⟨r6, e7, h⟩ := bd_some h
    refine x_callSI (As := [.int p0]) (rest := [.int ((v5 * p3) / p2)]) (n := 1) ⟨hx, hb, hml, hown, hts⟩ (c_X2_rowOf l D cy  p0 r6 e7) gX0_placeAt_X2_rowOf rfl hd_X2_rowOf ⟨Nat.le_of_ble_eq_true rfl, Nat.le_of_ble_eq_true rfl⟩ ⟨rfl, rfl⟩ hK (sp_nil _) (sp_nil _) hP hD hS hA rfl hl.1 rfl (Nat.le_of_ble_eq_true rfl) dX0_placeAt_27 ⟨Nat.zero_le _, Nat.zero_le _⟩ (fun H locs hP hD hS => ?_)
    clear e7
    refine lv_isub hx hb dX0_placeAt_30 ?_
    refine lv_iconst (v := 1) hx hb dX0_placeAt_31 (by decide) ?_
    refine lv_isub hx hb dX0_placeAt_32 ?_
    refine x_nm h (fun v8 h => ?_)
    refine lv_istore (lv' := [(5, .int v8), (4, .int v5), (0, .int p0), (1, .int p1), (2, .int p2), (3, .int p3)]) hx hb dX0_placeAt_33 hl (by decide) rfl (fun ls hl => ?_)
    refine lv_iload hx hb dX0_placeAt_35 (lv_at hl 0 rfl) ?_
    refine x_if_ge (tgt := 42) hx hb dX0_placeAt_37 (by decide) h (fun _ h => ?_) (fun _ h => ?_)
    · refine lv_iload_n hx hb dX0_placeAt_42 rfl (lv_at hl 2 rfl) ?_
      obtain ⟨r9, e10, h⟩ := bd_some h
      refine x_callSI (As := [.int p0]) (rest := []) (n := 1) ⟨hx, hb, hml, hown, hts⟩ (c_X2_colOf l D cy  p0 r9 e10) gX0_placeAt_X2_colOf rfl hd_X2_colOf ⟨Nat.le_of_ble_eq_true rfl, Nat.le_of_ble_eq_true rfl⟩ ⟨rfl, rfl⟩ hK (sp_nil _) (sp_nil _) hP hD hS hA rfl hl.1 rfl (Nat.le_of_ble_eq_true rfl) dX0_placeAt_43 ⟨Nat.zero_le _, Nat.zero_le _⟩ (fun H locs hP hD hS => ?_)
      clear e10
      refine lv_iload_n hx hb dX0_placeAt_46 rfl (lv_at hl 3 rfl) ?_
      obtain ⟨r11, e12, h⟩ := bd_some h
      refine x_callSI (As := [.int p1]) (rest := [.int r9]) (n := 1) ⟨hx, hb, hml, hown, hts⟩ (c_X2_colOf l D cy  p1 r11 e12) gX0_placeAt_X2_colOf rfl hd_X2_colOf ⟨Nat.le_of_ble_eq_true rfl, Nat.le_of_ble_eq_true rfl⟩ ⟨rfl, rfl⟩ hK (sp_nil _) (sp_nil _) hP hD hS hA rfl hl.1 rfl (Nat.le_of_ble_eq_true rfl) dX0_placeAt_47 ⟨Nat.zero_le _, Nat.zero_le _⟩ (fun H locs hP hD hS => ?_)
      clear e12
      refine lv_iload_n hx hb dX0_placeAt_50 rfl (lv_at hl 2 rfl) ?_
      obtain ⟨r13, e14, h⟩ := bd_some h
      refine x_callSI (As := [.int p0]) (rest := [.int r11, .int r9]) (n := 1) ⟨hx, hb, hml, hown, hts⟩ (c_X2_colOf l D cy  p0 r13 e14) gX0_placeAt_X2_colOf rfl hd_X2_colOf ⟨Nat.le_of_ble_eq_true rfl, Nat.le_of_ble_eq_true rfl⟩ ⟨rfl, rfl⟩ hK (sp_nil _) (sp_nil _) hP hD hS hA rfl hl.1 rfl (Nat.le_of_ble_eq_true rfl) dX0_placeAt_51 ⟨Nat.zero_le _, Nat.zero_le _⟩ (fun H locs hP hD hS => ?_)
      clear e14
      refine lv_isub hx hb dX0_placeAt_54 ?_
      refine lv_iload_n hx hb dX0_placeAt_55 rfl (lv_at hl 5 rfl) ?_
      refine lv_imul hx hb dX0_placeAt_56 ?_
      refine lv_iload_n hx hb dX0_placeAt_57 rfl (lv_at hl 4 rfl) ?_
      refine x_idiv hx hb dX0_placeAt_58 h (fun h => ?_)
      refine lv_iadd hx hb dX0_placeAt_59 ?_
      refine x_nm h (fun v15 h => ?_)
      refine lv_istore (lv' := [(6, .int v15), (5, .int v8), (4, .int v5), (0, .int p0), (1, .int p1), (2, .int p2), (3, .int p3)]) hx hb dX0_placeAt_60 hl (by decide) rfl (fun ls hl => ?_)
      refine lv_iconst (v := 4) hx hb dX0_placeAt_62 (by decide) ?_
      refine lv_iload hx hb dX0_placeAt_63 (lv_at hl 1 rfl) ?_
      refine lv_imul hx hb dX0_placeAt_65 ?_
      refine lv_iload hx hb dX0_placeAt_66 (lv_at hl 0 rfl) ?_
      refine lv_iadd hx hb dX0_placeAt_68 ?_
      cases h
      exact x_iret hx hb hr hlocks hK hP hD hS dX0_placeAt_69 rfl rfl
    · refine lv_iconst (v := -1) hx hb dX0_placeAt_40 (by decide) ?_
      cases h
      exact x_iret hx hb hr hlocks hK hP hD hS dX0_placeAt_41 rfl rfl
  · refine lv_iconst (v := -1) hx hb dX0_placeAt_5 (by decide) ?_
    cases h
    exact x_iret hx hb hr hlocks hK hP hD hS dX0_placeAt_6 rfl rfl
theorem k_X0_workOut_0 : Cond.fieldLink RX0 9 "FeatherHall$Air" "speeds" "[I" ∈ wsX0_workOut := (List.mem_cons_of_mem _ (List.mem_append_left _ (List.mem_append_left _ (List.mem_of_getElem? (i := 0) rfl))))
theorem ki_X0_workOut_X0 : ∀ w ∈ u_ws RX0 TX0 5, w ∈ wsX0_workOut := fun _ hh => (List.mem_cons_of_mem _ (List.mem_append_right _ hh))
theorem k_X0_workOut_1 : Cond.methodLink RX0 61 Lib.Math.min.name ∈ wsX0_workOut := (List.mem_cons_of_mem _ (List.mem_append_left _ (List.mem_append_left _ (List.mem_of_getElem? (i := 1) rfl))))
theorem k_X0_workOut_2 : Cond.static Lib.Math.min.name ∈ wsX0_workOut := (List.mem_cons_of_mem _ (List.mem_append_left _ (List.mem_append_left _ (List.mem_of_getElem? (i := 2) rfl))))
theorem k_X0_workOut_3 : Cond.initialized "java/lang/Math" ∈ wsX0_workOut := (List.mem_cons_of_mem _ (List.mem_append_left _ (List.mem_append_left _ (List.mem_of_getElem? (i := 3) rfl))))
theorem k_X0_workOut_4 : Cond.code Lib.Math.min.name Lib.Math.min.code 2 (some .int) ∈ wsX0_workOut := (List.mem_cons_of_mem _ (List.mem_append_left _ (List.mem_append_left _ (List.mem_of_getElem? (i := 4) rfl))))
theorem k_X0_workOut_5 : Cond.fieldLink RX0 18 "FeatherHall$Air" "meets" "[I" ∈ wsX0_workOut := (List.mem_cons_of_mem _ (List.mem_append_left _ (List.mem_append_left _ (List.mem_of_getElem? (i := 5) rfl))))
theorem k_X0_workOut_6 : Cond.constantLong RX0 73 (16777215) ∈ wsX0_workOut := (List.mem_cons_of_mem _ (List.mem_append_left _ (List.mem_append_left _ (List.mem_of_getElem? (i := 6) rfl))))
theorem hd_X0_workOut : yX0_workOut.cls = RX0 ∧ yX0_workOut.cls ≠ "java/lang/invoke/MethodHandle" ∧ yX0_workOut.cls ≠ "java/lang/invoke/VarHandle" ∧ (parseMethodDescriptor yX0_workOut.desc).map (fun d => d.parameters.length) = some 3 := by decide +kernel
set_option maxHeartbeats 4000000 in
set_option maxRecDepth 100000 in
theorem w_X0_workOut_103 {p : Program} {l : Launch} {e : Env} {s : State} {m : MethodId} {below : List Frame} {meth : Method} {c : Code} {args : Array Value} {D : va_G} {cy : Nat → ClassId} {g : Nat → Nat} {A : Nat → Prop} {ua : St} {r : Int64} (C0 : Cx p s m meth c args cX0_workOut 15 (some .long) wsX0_workOut RX0 D cy A) {k_35 : Int32 → Int32 → Int32 → Int32 → Int32 → Int32 → Int32 → Int32 → Int32 → Int64 → Option (Int64)} (hk_35 : ∀ (l1 : Int32) (l2 : Int32) (l3 : Int32) (l4 : Int32) (l5 : Int32) (l6 : Int32) (l7 : Int32) (l8 : Int32) (l9 : Int32) (l10 : Int64), k_35 l1 l2 l3 l4 l5 l6 l7 l8 l9 l10 = some r → ∀ (H : Heap) (locs : List Loc) (ls : Array Slot), va_P D vwCl (wX0 cy g ua) H → va_D A (wX0 cy g ua) → va_S A s.heap H locs → lv_has ls 15 [(0, .ref (g 99)), (1, .int l1), (2, .int l2), (3, .int l3), (4, .int l4), (5, .int l5), (6, .int l6), (7, .int l7), (8, .int l8), (9, .int l9), (10, .long l10)] → W p l e (rmH 2) s m args below meth c H locs 0 0 (QL below args s A D cy (wX0 cy g ua) r) (F0 m 35 ls [])) : ∀ (l1 : Int32) (l2 : Int32) (l3 : Int32) (l4 : Int32) (l5 : Int32) (l6 : Int32) (l7 : Int32) (l8 : Int32) (l9 : Int32) (l10 : Int64), f_X0_workOut_103 ua k_35 l1 l2 l3 l4 l5 l6 l7 l8 l9 l10 = some r → ∀ (H : Heap) (locs : List Loc) (ls : Array Slot), va_P D vwCl (wX0 cy g ua) H → va_D A (wX0 cy g ua) → va_S A s.heap H locs → lv_has ls 15 [(0, .ref (g 99)), (1, .int l1), (2, .int l2), (3, .int l3), (4, .int l4), (5, .int l5), (6, .int l6), (7, .int l7), (8, .int l8), (9, .int l9), (10, .long l10)] → W p l e (rmH 2) s m args below meth c H locs 0 0 (QL below args s A D cy (wX0 cy g ua) r) (F0 m 103 ls []) := by
  obtain ⟨hx, hb, hr, hml, hown, hts, hlocks, hK, hA⟩ := id C0
  intro l1 l2 l3 l4 l5 l6 l7 l8 l9 l10 h H locs ls hP hD hS hl
  rw [f_X0_workOut_103] at h
  refine lv_goto (tgt := 35) hx hb dX0_workOut_103 (by decide) ?_
  exact hk_35 l1 l2 l3 l4 l5 l6 l7 l8 l9 l10 h _ _ ls hP hD hS (lv_sub hl [0, 1, 2, 3, 4, 5, 6, 7, 8, 9, 10] rfl)
set_option maxHeartbeats 4000000 in
set_option maxRecDepth 100000 in
theorem w_X0_workOut_131 {p : Program} {l : Launch} {e : Env} {s : State} {m : MethodId} {below : List Frame} {meth : Method} {c : Code} {args : Array Value} {D : va_G} {cy : Nat → ClassId} {g : Nat → Nat} {A : Nat → Prop} {ua : St} {r : Int64} (C0 : Cx p s m meth c args cX0_workOut 15 (some .long) wsX0_workOut RX0 D cy A) : ∀ (l8 : Int32) (l10 : Int64) (s0 : Int32), f_X0_workOut_131 ua l8 l10 s0 = some r → ∀ (H : Heap) (locs : List Loc) (ls : Array Slot), va_P D vwCl (wX0 cy g ua) H → va_D A (wX0 cy g ua) → va_S A s.heap H locs → lv_has ls 15 [(8, .int l8), (10, .long l10)] → W p l e (rmH 2) s m args below meth c H locs 0 0 (QL below args s A D cy (wX0 cy g ua) r) (F0 m 131 ls [.int s0]) := by
  obtain ⟨hx, hb, hr, hml, hown, hts, hlocks, hK, hA⟩ := id C0
  intro l8 l10 s0 h H locs ls hP hD hS hl
  rw [f_X0_workOut_131] at h
  refine lv_istore (lv' := [(12, .int s0), (8, .int l8), (10, .long l10)]) hx hb dX0_workOut_131 hl (by decide) rfl (fun ls hl => ?_)
  refine lv_lload hx hb dX0_workOut_133 (lv_at hl 2 rfl) ?_
  refine lv_ldc2 hx hb hown (hts _ k_X0_workOut_6) dX0_workOut_135 ?_
  refine lv_land hx hb dX0_workOut_138 ?_
  refine x_nml h (fun v17 h => ?_)
  refine lv_lstore (lv' := [(13, .long v17), (12, .int s0), (8, .int l8), (10, .long l10)]) hx hb dX0_workOut_139 hl (by decide) rfl (fun ls hl => ?_)
  refine lv_lload hx hb dX0_workOut_141 (lv_at hl 0 rfl) ?_
  refine lv_bipush (v := 12) hx hb dX0_workOut_143 (by decide) ?_
  refine lv_lshl hx hb dX0_workOut_145 rfl ?_
  refine lv_iload hx hb dX0_workOut_146 (lv_at hl 1 rfl) ?_
  refine lv_i2l hx hb dX0_workOut_148 rfl ?_
  refine lv_bipush (v := 6) hx hb dX0_workOut_149 (by decide) ?_
  refine lv_lshl hx hb dX0_workOut_151 rfl ?_
  refine lv_lor hx hb dX0_workOut_152 ?_
  refine lv_iload hx hb dX0_workOut_153 (lv_at hl 2 rfl) ?_
  refine lv_i2l hx hb dX0_workOut_155 rfl ?_
  refine lv_lor hx hb dX0_workOut_156 ?_
  cases h
  exact x_lret hx hb hr hlocks hK hP hD hS dX0_workOut_157 rfl rfl
set_option maxHeartbeats 4000000 in
set_option maxRecDepth 100000 in
theorem w_X0_workOut_106 {p : Program} {l : Launch} {e : Env} {s : State} {m : MethodId} {below : List Frame} {meth : Method} {c : Code} {args : Array Value} {D : va_G} {cy : Nat → ClassId} {g : Nat → Nat} {A : Nat → Prop} {ua : St} {r : Int64} (C0 : Cx p s m meth c args cX0_workOut 15 (some .long) wsX0_workOut RX0 D cy A) : ∀ (l1 : Int32) (l8 : Int32) (l9 : Int32) (l10 : Int64), f_X0_workOut_106 ua l1 l8 l9 l10 = some r → ∀ (H : Heap) (locs : List Loc) (ls : Array Slot), va_P D vwCl (wX0 cy g ua) H → va_D A (wX0 cy g ua) → va_S A s.heap H locs → lv_has ls 15 [(0, .ref (g 99)), (1, .int l1), (8, .int l8), (9, .int l9), (10, .long l10)] → W p l e (rmH 2) s m args below meth c H locs 0 0 (QL below args s A D cy (wX0 cy g ua) r) (F0 m 106 ls []) := by
  obtain ⟨hx, hb, hr, hml, hown, hts, hlocks, hK, hA⟩ := id C0
  intro l1 l8 l9 l10 h H locs ls hP hD hS hl
  rw [f_X0_workOut_106] at h
  refine lv_iload hx hb dX0_workOut_106 (lv_at hl 3 rfl) ?_
  refine x_if_ne (tgt := 115) hx hb dX0_workOut_108 (by decide) h (fun _ h => ?_) (fun _ h => ?_)
  · refine lv_iconst (v := 0) hx hb dX0_workOut_111 (by decide) ?_
    refine lv_goto (tgt := 131) hx hb dX0_workOut_112 (by decide) ?_
    exact w_X0_workOut_131 C0 l8 l10 (0 : Int32) h _ _ ls hP hD hS (lv_sub hl [2, 4] rfl)
  · refine lv_iload hx hb dX0_workOut_115 (lv_at hl 2 rfl) ?_
    refine lv_iconst (v := 1) hx hb dX0_workOut_117 (by decide) ?_
    refine lv_iadd hx hb dX0_workOut_118 ?_
    refine lv_iload hx hb dX0_workOut_119 (lv_at hl 3 rfl) ?_
    refine lv_aload_n hx hb dX0_workOut_121 rfl (lv_at hl 0 rfl) ?_
    refine va_get (D := D) (ci := 0) (v := .ref (g 2)) (C := RX0) (T := TX0) (N := 5) hx hb hts ki_X0_workOut_X0 hown hK hP 0 rfl rfl 2 (by decide) (hts _ k_X0_workOut_5) (fun _ h9 => h9) rfl dX0_workOut_122 ?_
    refine lv_iload_n hx hb dX0_workOut_125 rfl (lv_at hl 1 rfl) ?_
    refine x_iald hx hb hK hP 3 rfl rfl h dX0_workOut_126 (fun v15 h => ?_)
    refine va_mmin hx hb (hml.trans hl.1.symm) hown (hts _ k_X0_workOut_1) (hts _ k_X0_workOut_2) (hts _ k_X0_workOut_3) (hts _ k_X0_workOut_4) (Nat.le_of_ble_eq_true rfl) (Nat.le_of_ble_eq_true rfl) (Nat.zero_le _) (Nat.zero_le _) dX0_workOut_127 ?_
    refine x_nm h (fun v16 h => ?_)
    refine lv_isub hx hb dX0_workOut_130 ?_
    exact w_X0_workOut_131 C0 l8 l10 ((l8 + (1 : Int32)) - v16) h _ _ ls hP hD hS (lv_sub hl [2, 4] rfl)
set_option maxHeartbeats 4000000 in
set_option maxRecDepth 100000 in
theorem w_X0_workOut_35 {p : Program} {l : Launch} {e : Env} {s : State} {m : MethodId} {below : List Frame} {meth : Method} {c : Code} {args : Array Value} {D : va_G} {cy : Nat → ClassId} {g : Nat → Nat} {A : Nat → Prop} {ua : St} {r : Int64} (C0 : Cx p s m meth c args cX0_workOut 15 (some .long) wsX0_workOut RX0 D cy A) : ∀ (nn : Nat) (l1 : Int32) (l2 : Int32) (l3 : Int32) (l4 : Int32) (l5 : Int32) (l6 : Int32) (l7 : Int32) (l8 : Int32) (l9 : Int32) (l10 : Int64), f_X0_workOut_35 ua nn l1 l2 l3 l4 l5 l6 l7 l8 l9 l10 = some r → ∀ (H : Heap) (locs : List Loc) (ls : Array Slot), va_P D vwCl (wX0 cy g ua) H → va_D A (wX0 cy g ua) → va_S A s.heap H locs → lv_has ls 15 [(0, .ref (g 99)), (1, .int l1), (2, .int l2), (3, .int l3), (4, .int l4), (5, .int l5), (6, .int l6), (7, .int l7), (8, .int l8), (9, .int l9), (10, .long l10)] → W p l e (rmH 2) s m args below meth c H locs 0 0 (QL below args s A D cy (wX0 cy g ua) r) (F0 m 35 ls []) := by
  obtain ⟨hx, hb, hr, hml, hown, hts, hlocks, hK, hA⟩ := id C0
  intro nn
  induction nn with
  | zero => intro l1 l2 l3 l4 l5 l6 l7 l8 l9 l10 h; rw [f_X0_workOut_35] at h; cases h
  | succ nn ih =>
    intro l1 l2 l3 l4 l5 l6 l7 l8 l9 l10 h H locs ls hP hD hS hl
    rw [f_X0_workOut_35] at h
    refine lv_iload hx hb dX0_workOut_35 (lv_at hl 7 rfl) ?_
    refine lv_iload hx hb dX0_workOut_37 (lv_at hl 5 rfl) ?_
    refine x_icmp_ge (tgt := 106) hx hb dX0_workOut_39 (by decide) h (fun _ h => ?_) (fun _ h => ?_)
    · exact w_X0_workOut_106 C0 l1 l8 l9 l10 h _ _ ls hP hD hS (lv_sub hl [0, 1, 8, 9, 10] rfl)
    · refine lv_iload hx hb dX0_workOut_42 (lv_at hl 8 rfl) ?_
      refine lv_bipush (v := 60) hx hb dX0_workOut_44 (by decide) ?_
      refine x_icmp_ge (tgt := 106) hx hb dX0_workOut_46 (by decide) h (fun _ h => ?_) (fun _ h => ?_)
      · exact w_X0_workOut_106 C0 l1 l8 l9 l10 h _ _ ls hP hD hS (lv_sub hl [0, 1, 8, 9, 10] rfl)
      · obtain ⟨v6, ev6, h⟩ := nm_ex h
        refine lv_iinc (v := v6) (lv' := [(8, .int v6), (0, .ref (g 99)), (1, .int l1), (2, .int l2), (3, .int l3), (4, .int l4), (5, .int l5), (6, .int l6), (7, .int l7), (9, .int l9), (10, .long l10)]) hx hb dX0_workOut_49 hl (k := 8) rfl (by rw [ev6]; rfl) (by decide) rfl (fun ls hl => ?_)
        clear ev6
        refine lv_iload hx hb dX0_workOut_52 (lv_at hl 6 rfl) ?_
        refine lv_iload hx hb dX0_workOut_54 (lv_at hl 8 rfl) ?_
        refine lv_iload hx hb dX0_workOut_56 (lv_at hl 7 rfl) ?_
        refine lv_iadd hx hb dX0_workOut_58 ?_
        refine x_nm h (fun v7 h => ?_)
        refine va_mmin hx hb (hml.trans hl.1.symm) hown (hts _ k_X0_workOut_1) (hts _ k_X0_workOut_2) (hts _ k_X0_workOut_3) (hts _ k_X0_workOut_4) (Nat.le_of_ble_eq_true rfl) (Nat.le_of_ble_eq_true rfl) (Nat.zero_le _) (Nat.zero_le _) dX0_workOut_59 ?_
        refine x_nm h (fun v8 h => ?_)
        refine lv_istore (lv' := [(7, .int v8), (8, .int v6), (0, .ref (g 99)), (1, .int l1), (2, .int l2), (3, .int l3), (4, .int l4), (5, .int l5), (6, .int l6), (9, .int l9), (10, .long l10)]) hx hb dX0_workOut_62 hl (by decide) rfl (fun ls hl => ?_)
        refine lv_aload_n hx hb dX0_workOut_64 rfl (lv_at hl 2 rfl) ?_
        refine lv_iload_n hx hb dX0_workOut_65 rfl (lv_at hl 3 rfl) ?_
        refine lv_iload hx hb dX0_workOut_66 (lv_at hl 8 rfl) ?_
        obtain ⟨r9, e10, h⟩ := bd_some h
        refine x_callVI (As := [.int l1, .int l6]) (rest := []) (n := 2) ⟨hx, hb, hml, hown, hts⟩ (c_X0_slowed l D cy g ua l1 l6 r9 e10) gX0_workOut_X0_slowed rfl hd_X0_slowed ⟨Nat.le_of_ble_eq_true rfl, Nat.le_of_ble_eq_true rfl⟩ ⟨rfl, rfl⟩ hK (sp_all _) (sp_all _) hP hD hS hA 0 rfl rfl rfl hl.1 rfl (Nat.le_of_ble_eq_true rfl) dX0_workOut_68 ⟨Nat.zero_le _, Nat.zero_le _⟩ (fun H locs hP hD hS => ?_)
        clear e10
        refine lv_istore (lv' := [(6, .int r9), (7, .int v8), (8, .int v6), (0, .ref (g 99)), (1, .int l1), (2, .int l2), (3, .int l3), (4, .int l4), (5, .int l5), (9, .int l9), (10, .long l10)]) hx hb dX0_workOut_71 hl (by decide) rfl (fun ls hl => ?_)
        refine lv_iload_n hx hb dX0_workOut_73 rfl (lv_at hl 5 rfl) ?_
        refine lv_iload_n hx hb dX0_workOut_74 rfl (lv_at hl 6 rfl) ?_
        refine lv_iload hx hb dX0_workOut_75 (lv_at hl 7 rfl) ?_
        refine lv_iload hx hb dX0_workOut_77 (lv_at hl 1 rfl) ?_
        obtain ⟨r11, e12, h⟩ := bd_some h
        refine x_callSI (As := [.int l2, .int l3, .int l4, .int v8]) (rest := []) (n := 4) ⟨hx, hb, hml, hown, hts⟩ (c_X0_placeAt l D cy  l2 l3 l4 v8 r11 e12) gX0_workOut_X0_placeAt rfl hd_X0_placeAt ⟨Nat.le_of_ble_eq_true rfl, Nat.le_of_ble_eq_true rfl⟩ ⟨rfl, rfl⟩ hK (sp_nil _) (sp_nil _) hP hD hS hA rfl hl.1 rfl (Nat.le_of_ble_eq_true rfl) dX0_workOut_79 ⟨Nat.zero_le _, Nat.zero_le _⟩ (fun H locs hP hD hS => ?_)
        clear e12
        refine lv_istore (lv' := [(12, .int r11), (6, .int r9), (7, .int v8), (8, .int v6), (0, .ref (g 99)), (1, .int l1), (2, .int l2), (3, .int l3), (4, .int l4), (5, .int l5), (9, .int l9), (10, .long l10)]) hx hb dX0_workOut_82 hl (by decide) rfl (fun ls hl => ?_)
        refine lv_iload hx hb dX0_workOut_84 (lv_at hl 0 rfl) ?_
        refine lv_iconst (v := -1) hx hb dX0_workOut_86 (by decide) ?_
        refine x_icmp_eq (tgt := 103) hx hb dX0_workOut_87 (by decide) h (fun _ h => ?_) (fun _ h => ?_)
        · exact w_X0_workOut_103 C0 ih l1 l2 l3 l4 l5 r9 v8 v6 l9 l10 h _ _ ls hP hD hS (lv_sub hl [4, 5, 6, 7, 8, 9, 1, 2, 3, 10, 11] rfl)
        · obtain ⟨v13, ev13, h⟩ := nm_ex h
          refine lv_iinc (v := v13) (lv' := [(9, .int v13), (12, .int r11), (6, .int r9), (7, .int v8), (8, .int v6), (0, .ref (g 99)), (1, .int l1), (2, .int l2), (3, .int l3), (4, .int l4), (5, .int l5), (10, .long l10)]) hx hb dX0_workOut_90 hl (k := 10) rfl (by rw [ev13]; rfl) (by decide) rfl (fun ls hl => ?_)
          clear ev13
          refine lv_lload hx hb dX0_workOut_93 (lv_at hl 11 rfl) ?_
          refine lv_iconst (v := 4) hx hb dX0_workOut_95 (by decide) ?_
          refine lv_lshl hx hb dX0_workOut_96 rfl ?_
          refine lv_iload hx hb dX0_workOut_97 (lv_at hl 1 rfl) ?_
          refine lv_i2l hx hb dX0_workOut_99 rfl ?_
          refine lv_lor hx hb dX0_workOut_100 ?_
          refine x_nml h (fun v14 h => ?_)
          refine lv_lstore (lv' := [(10, .long v14), (9, .int v13), (12, .int r11), (6, .int r9), (7, .int v8), (8, .int v6), (0, .ref (g 99)), (1, .int l1), (2, .int l2), (3, .int l3), (4, .int l4), (5, .int l5)]) hx hb dX0_workOut_101 hl (by decide) rfl (fun ls hl => ?_)
          exact w_X0_workOut_103 C0 ih l1 l2 l3 l4 l5 r9 v8 v6 v13 v14 h _ _ ls hP hD hS (lv_sub hl [6, 7, 8, 9, 10, 11, 3, 4, 5, 1, 0] rfl)
set_option maxHeartbeats 4000000 in
set_option maxRecDepth 100000 in
theorem c_X0_workOut (l : Launch) (D : va_G) (cy : Nat → ClassId) (g : Nat → Nat) (ua : St) (p0 : Int32) (p1 : Int32) (p2 : Int32) (r : Int64) (h : f_X0_workOut ua p0 p1 p2 = some r) : CtL l yX0_workOut wsX0_workOut (rmH 2) [.ref (g 99), .int p0, .int p1, .int p2] D cy (wX0 cy g ua) (wX0 cy g ua) r := by
  refine ct_enter (D := D) (cy := cy) (cc := cX0_workOut) (maxL := 15) (ret := (some .long)) (w := wX0 cy g ua) (Qc := fun sz => va_Ql (fun r' (_ : Unit) => r' = r) (Bw D cy (va_A (wX0 cy g ua) sz) (wX0 cy g ua)) (va_A (wX0 cy g ua) sz)) (by decide) rfl (Nat.le_of_ble_eq_true rfl) ?_
  intro p e s m below meth c A C0 hAe ls hl hP hD hS
  have e1 : MQ below ((fun sz => va_Ql (fun r' (_ : Unit) => r' = r) (Bw D cy (va_A (wX0 cy g ua) sz) (wX0 cy g ua)) (va_A (wX0 cy g ua) sz)) s.heap.size) [.ref (g 99), .int p0, .int p1, .int p2].toArray s 0 0 A = QL below [.ref (g 99), .int p0, .int p1, .int p2].toArray s A D cy (wX0 cy g ua) r := by rw [hAe]; rfl
  rw [e1]
  clear e1 hAe
  obtain ⟨hx, hb, hr, hml, hown, hts, hlocks, hK, hA⟩ := id C0
  have hl : lv_has ls 15 [(0, .ref (g 99)), (1, .int p0), (2, .int p1), (3, .int p2)] := hl
  rw [f_X0_workOut] at h
  refine lv_iload_n hx hb dX0_workOut_0 rfl (lv_at hl 2 rfl) ?_
  refine lv_iload_n hx hb dX0_workOut_1 rfl (lv_at hl 3 rfl) ?_
  obtain ⟨r1, e2, h⟩ := bd_some h
  refine x_callSI (As := [.int p1, .int p2]) (rest := []) (n := 2) ⟨hx, hb, hml, hown, hts⟩ (c_X0_lengthOf l D cy  p1 p2 r1 e2) gX0_workOut_X0_lengthOf rfl hd_X0_lengthOf ⟨Nat.le_of_ble_eq_true rfl, Nat.le_of_ble_eq_true rfl⟩ ⟨rfl, rfl⟩ hK (sp_nil _) (sp_nil _) hP hD hS hA rfl hl.1 rfl (Nat.le_of_ble_eq_true rfl) dX0_workOut_2 ⟨Nat.zero_le _, Nat.zero_le _⟩ (fun H locs hP hD hS => ?_)
  clear e2
  refine lv_istore (lv' := [(4, .int r1), (0, .ref (g 99)), (1, .int p0), (2, .int p1), (3, .int p2)]) hx hb dX0_workOut_5 hl (by decide) rfl (fun ls hl => ?_)
  refine lv_aload_n hx hb dX0_workOut_7 rfl (lv_at hl 1 rfl) ?_
  refine lv_iload hx hb dX0_workOut_8 (lv_at hl 0 rfl) ?_
  obtain ⟨r3, e4, h⟩ := bd_some h
  refine x_callVI (As := [.int r1]) (rest := []) (n := 1) ⟨hx, hb, hml, hown, hts⟩ (c_X0_wholeOf l D cy g ua r1 r3 e4) gX0_workOut_X0_wholeOf rfl hd_X0_wholeOf ⟨Nat.le_of_ble_eq_true rfl, Nat.le_of_ble_eq_true rfl⟩ ⟨rfl, rfl⟩ hK (sp_all _) (sp_all _) hP hD hS hA 0 rfl rfl rfl hl.1 rfl (Nat.le_of_ble_eq_true rfl) dX0_workOut_10 ⟨Nat.zero_le _, Nat.zero_le _⟩ (fun H locs hP hD hS => ?_)
  clear e4
  refine lv_istore (lv' := [(5, .int r3), (4, .int r1), (0, .ref (g 99)), (1, .int p0), (2, .int p1), (3, .int p2)]) hx hb dX0_workOut_13 hl (by decide) rfl (fun ls hl => ?_)
  refine lv_aload_n hx hb dX0_workOut_15 rfl (lv_at hl 2 rfl) ?_
  refine va_get (D := D) (ci := 0) (v := .ref (g 0)) (C := RX0) (T := TX0) (N := 5) hx hb hts ki_X0_workOut_X0 hown hK hP 0 rfl rfl 0 (by decide) (hts _ k_X0_workOut_0) (fun _ h9 => h9) rfl dX0_workOut_16 ?_
  refine lv_iload_n hx hb dX0_workOut_19 rfl (lv_at hl 3 rfl) ?_
  refine x_iald hx hb hK hP 1 rfl rfl h dX0_workOut_20 (fun v5 h => ?_)
  refine lv_istore (lv' := [(6, .int v5), (5, .int r3), (4, .int r1), (0, .ref (g 99)), (1, .int p0), (2, .int p1), (3, .int p2)]) hx hb dX0_workOut_21 hl (by decide) rfl (fun ls hl => ?_)
  refine lv_iconst (v := 0) hx hb dX0_workOut_23 (by decide) ?_
  refine lv_istore (lv' := [(7, .int (0 : Int32)), (6, .int v5), (5, .int r3), (4, .int r1), (0, .ref (g 99)), (1, .int p0), (2, .int p1), (3, .int p2)]) hx hb dX0_workOut_24 hl (by decide) rfl (fun ls hl => ?_)
  refine lv_iconst (v := 0) hx hb dX0_workOut_26 (by decide) ?_
  refine lv_istore (lv' := [(8, .int (0 : Int32)), (7, .int (0 : Int32)), (6, .int v5), (5, .int r3), (4, .int r1), (0, .ref (g 99)), (1, .int p0), (2, .int p1), (3, .int p2)]) hx hb dX0_workOut_27 hl (by decide) rfl (fun ls hl => ?_)
  refine lv_iconst (v := 0) hx hb dX0_workOut_29 (by decide) ?_
  refine lv_istore (lv' := [(9, .int (0 : Int32)), (8, .int (0 : Int32)), (7, .int (0 : Int32)), (6, .int v5), (5, .int r3), (4, .int r1), (0, .ref (g 99)), (1, .int p0), (2, .int p1), (3, .int p2)]) hx hb dX0_workOut_30 hl (by decide) rfl (fun ls hl => ?_)
  refine lv_lconst (v := 0) hx hb dX0_workOut_32 (by decide) ?_
  refine lv_lstore (lv' := [(10, .long (0 : Int64)), (9, .int (0 : Int32)), (8, .int (0 : Int32)), (7, .int (0 : Int32)), (6, .int v5), (5, .int r3), (4, .int r1), (0, .ref (g 99)), (1, .int p0), (2, .int p1), (3, .int p2)]) hx hb dX0_workOut_33 hl (by decide) rfl (fun ls hl => ?_)
  exact w_X0_workOut_35 C0 FU p0 p1 p2 r1 r3 v5 (0 : Int32) (0 : Int32) (0 : Int32) (0 : Int64) h _ _ ls hP hD hS (lv_sub hl [7, 8, 9, 10, 6, 5, 4, 3, 2, 1, 0] rfl)
theorem k_X0_pathOf_0 : Cond.fieldLink RX0 21 "FeatherHall$Air" "paths" "[J" ∈ wsX0_pathOf := (List.mem_cons_of_mem _ (List.mem_append_left _ (List.mem_append_left _ (List.mem_of_getElem? (i := 0) rfl))))
theorem ki_X0_pathOf_X0 : ∀ w ∈ u_ws RX0 TX0 5, w ∈ wsX0_pathOf := fun _ hh => (List.mem_cons_of_mem _ (List.mem_append_right _ hh))
theorem hd_X0_pathOf : yX0_pathOf.cls = RX0 ∧ yX0_pathOf.cls ≠ "java/lang/invoke/MethodHandle" ∧ yX0_pathOf.cls ≠ "java/lang/invoke/VarHandle" ∧ (parseMethodDescriptor yX0_pathOf.desc).map (fun d => d.parameters.length) = some 3 := by decide +kernel
set_option maxHeartbeats 4000000 in
set_option maxRecDepth 100000 in
theorem c_X0_pathOf (l : Launch) (D : va_G) (cy : Nat → ClassId) (g : Nat → Nat) (ua : St) (p0 : Int32) (p1 : Int32) (p2 : Int32) (r : Int64) (ua' : St) (h : f_X0_pathOf p0 p1 p2 ua = some (r, ua')) : CtL l yX0_pathOf wsX0_pathOf (rmH 3) [.ref (g 99), .int p0, .int p1, .int p2] D cy (wX0 cy g ua) (wX0 cy g ua') r := by
  refine ct_enter (D := D) (cy := cy) (cc := cX0_pathOf) (maxL := 5) (ret := (some .long)) (w := wX0 cy g ua) (Qc := fun sz => va_Ql (fun r' (_ : Unit) => r' = r) (Bw D cy (va_A (wX0 cy g ua) sz) (wX0 cy g ua')) (va_A (wX0 cy g ua) sz)) (by decide) rfl (Nat.le_of_ble_eq_true rfl) ?_
  intro p e s m below meth c A C0 hAe ls hl hP hD hS
  have e1 : MQ below ((fun sz => va_Ql (fun r' (_ : Unit) => r' = r) (Bw D cy (va_A (wX0 cy g ua) sz) (wX0 cy g ua')) (va_A (wX0 cy g ua) sz)) s.heap.size) [.ref (g 99), .int p0, .int p1, .int p2].toArray s 0 0 A = QL below [.ref (g 99), .int p0, .int p1, .int p2].toArray s A D cy (wX0 cy g ua') r := by rw [hAe]; rfl
  rw [e1]
  clear e1 hAe
  obtain ⟨hx, hb, hr, hml, hown, hts, hlocks, hK, hA⟩ := id C0
  have hl : lv_has ls 5 [(0, .ref (g 99)), (1, .int p0), (2, .int p1), (3, .int p2)] := hl
  rw [f_X0_pathOf] at h
  refine lv_iload_n hx hb dX0_pathOf_0 rfl (lv_at hl 1 rfl) ?_
  refine lv_bipush (v := 16) hx hb dX0_pathOf_1 (by decide) ?_
  refine lv_imul hx hb dX0_pathOf_3 ?_
  refine lv_iload_n hx hb dX0_pathOf_4 rfl (lv_at hl 2 rfl) ?_
  refine lv_iadd hx hb dX0_pathOf_5 ?_
  refine lv_bipush (v := 16) hx hb dX0_pathOf_6 (by decide) ?_
  refine lv_imul hx hb dX0_pathOf_8 ?_
  refine lv_iload_n hx hb dX0_pathOf_9 rfl (lv_at hl 3 rfl) ?_
  refine lv_iadd hx hb dX0_pathOf_10 ?_
  refine x_nm h (fun v1 h => ?_)
  refine lv_istore (lv' := [(4, .int v1), (0, .ref (g 99)), (1, .int p0), (2, .int p1), (3, .int p2)]) hx hb dX0_pathOf_11 hl (by decide) rfl (fun ls hl => ?_)
  refine lv_aload_n hx hb dX0_pathOf_13 rfl (lv_at hl 1 rfl) ?_
  refine va_get (D := D) (ci := 0) (v := .ref (g 3)) (C := RX0) (T := TX0) (N := 5) hx hb hts ki_X0_pathOf_X0 hown hK hP 0 rfl rfl 3 (by decide) (hts _ k_X0_pathOf_0) (fun _ h9 => h9) rfl dX0_pathOf_14 ?_
  refine lv_iload hx hb dX0_pathOf_17 (lv_at hl 0 rfl) ?_
  refine x_lald hx hb hK hP 4 rfl rfl h dX0_pathOf_19 (fun v2 h => ?_)
  refine lv_lconst (v := 0) hx hb dX0_pathOf_20 (by decide) ?_
  refine W.lcmp hx hb dX0_pathOf_21 ?_
  refine x_if_ne (tgt := 39) hx hb dX0_pathOf_22 (by decide) h (fun _ h => ?_) (fun _ h => ?_)
  · refine lv_aload_n hx hb dX0_pathOf_25 rfl (lv_at hl 1 rfl) ?_
    refine va_get (D := D) (ci := 0) (v := .ref (g 3)) (C := RX0) (T := TX0) (N := 5) hx hb hts ki_X0_pathOf_X0 hown hK hP 0 rfl rfl 3 (by decide) (hts _ k_X0_pathOf_0) (fun _ h9 => h9) rfl dX0_pathOf_26 ?_
    refine lv_iload hx hb dX0_pathOf_29 (lv_at hl 0 rfl) ?_
    refine lv_aload_n hx hb dX0_pathOf_31 rfl (lv_at hl 1 rfl) ?_
    refine lv_iload_n hx hb dX0_pathOf_32 rfl (lv_at hl 2 rfl) ?_
    refine lv_iload_n hx hb dX0_pathOf_33 rfl (lv_at hl 3 rfl) ?_
    refine lv_iload_n hx hb dX0_pathOf_34 rfl (lv_at hl 4 rfl) ?_
    obtain ⟨r3, e4, h⟩ := bd_some h
    refine x_callVL (As := [.int p0, .int p1, .int p2]) (rest := [.int v1, .ref (g 3)]) (n := 3) ⟨hx, hb, hml, hown, hts⟩ (c_X0_workOut l D cy g ua p0 p1 p2 r3 e4) gX0_pathOf_X0_workOut rfl hd_X0_workOut ⟨Nat.le_of_ble_eq_true rfl, Nat.le_of_ble_eq_true rfl⟩ ⟨rfl, rfl⟩ hK (sp_all _) (sp_all _) hP hD hS hA 0 rfl rfl rfl hl.1 rfl (Nat.le_of_ble_eq_true rfl) dX0_pathOf_35 ⟨Nat.zero_le _, Nat.zero_le _⟩ (fun H locs hP hD hS => ?_)
    clear e4
    refine x_last (Wd := (fun uz => wX0 cy g uz)) (u := ua) hx hb hK hP hD hS 4 rfl rfl (fun _ => rfl) h dX0_pathOf_38 (fun ua5 H locs h hP hD hS => ?_)
    refine lv_aload_n hx hb dX0_pathOf_39 rfl (lv_at hl 1 rfl) ?_
    refine va_get (D := D) (ci := 0) (v := .ref (g 3)) (C := RX0) (T := TX0) (N := 5) hx hb hts ki_X0_pathOf_X0 hown hK hP 0 rfl rfl 3 (by decide) (hts _ k_X0_pathOf_0) (fun _ h9 => h9) rfl dX0_pathOf_40 ?_
    refine lv_iload hx hb dX0_pathOf_43 (lv_at hl 0 rfl) ?_
    refine x_lald hx hb hK hP 4 rfl rfl h dX0_pathOf_45 (fun v6 h => ?_)
    cases h
    exact x_lret hx hb hr hlocks hK hP hD hS dX0_pathOf_46 rfl rfl
  · refine lv_aload_n hx hb dX0_pathOf_39 rfl (lv_at hl 1 rfl) ?_
    refine va_get (D := D) (ci := 0) (v := .ref (g 3)) (C := RX0) (T := TX0) (N := 5) hx hb hts ki_X0_pathOf_X0 hown hK hP 0 rfl rfl 3 (by decide) (hts _ k_X0_pathOf_0) (fun _ h9 => h9) rfl dX0_pathOf_40 ?_
    refine lv_iload hx hb dX0_pathOf_43 (lv_at hl 0 rfl) ?_
    refine x_lald hx hb hK hP 4 rfl rfl h dX0_pathOf_45 (fun v7 h => ?_)
    cases h
    exact x_lret hx hb hr hlocks hK hP hD hS dX0_pathOf_46 rfl rfl
theorem hd_X0_workOutFrom : yX0_workOutFrom.cls = RX0 ∧ yX0_workOutFrom.cls ≠ "java/lang/invoke/MethodHandle" ∧ yX0_workOutFrom.cls ≠ "java/lang/invoke/VarHandle" ∧ (parseMethodDescriptor yX0_workOutFrom.desc).map (fun d => d.parameters.length) = some 1 := by decide +kernel
set_option maxHeartbeats 4000000 in
set_option maxRecDepth 100000 in
theorem w_X0_workOutFrom_2 {p : Program} {l : Launch} {e : Env} {s : State} {m : MethodId} {below : List Frame} {meth : Method} {c : Code} {args : Array Value} {D : va_G} {cy : Nat → ClassId} {g : Nat → Nat} {A : Nat → Prop} {ua' : St} (C0 : Cx p s m meth c args cX0_workOutFrom 3 none wsX0_workOutFrom RX0 D cy A) : ∀ (nn : Nat) (l1 : Int32) (l2 : Int32) (ua : St), f_X0_workOutFrom_2 nn l1 l2 ua = some ua' → ∀ (H : Heap) (locs : List Loc) (ls : Array Slot), va_P D vwCl (wX0 cy g ua) H → va_D A (wX0 cy g ua) → va_S A s.heap H locs → lv_has ls 3 [(0, .ref (g 99)), (1, .int l1), (2, .int l2)] → W p l e (rmH 4) s m args below meth c H locs 0 0 (QV below args s A D cy (wX0 cy g ua')) (F0 m 2 ls []) := by
  obtain ⟨hx, hb, hr, hml, hown, hts, hlocks, hK, hA⟩ := id C0
  intro nn
  induction nn with
  | zero => intro l1 l2 ua h; rw [f_X0_workOutFrom_2] at h; cases h
  | succ nn ih =>
    intro l1 l2 ua h H locs ls hP hD hS hl
    rw [f_X0_workOutFrom_2] at h
    refine lv_iload_n hx hb dX0_workOutFrom_2 rfl (lv_at hl 2 rfl) ?_
    refine lv_bipush (v := 64) hx hb dX0_workOutFrom_3 (by decide) ?_
    refine x_icmp_ge (tgt := 28) hx hb dX0_workOutFrom_5 (by decide) h (fun _ h => ?_) (fun _ h => ?_)
    · cases h
      exact x_vret hx hb hr hlocks hK hP hD hS dX0_workOutFrom_28 rfl
    · refine lv_aload_n hx hb dX0_workOutFrom_8 rfl (lv_at hl 0 rfl) ?_
      refine lv_iload_n hx hb dX0_workOutFrom_9 rfl (lv_at hl 2 rfl) ?_
      refine lv_bipush (v := 16) hx hb dX0_workOutFrom_10 (by decide) ?_
      refine lv_idiv hx hb dX0_workOutFrom_12 (by decide) ?_
      refine lv_iload_n hx hb dX0_workOutFrom_13 rfl (lv_at hl 1 rfl) ?_
      refine lv_iload_n hx hb dX0_workOutFrom_14 rfl (lv_at hl 2 rfl) ?_
      refine lv_bipush (v := 16) hx hb dX0_workOutFrom_15 (by decide) ?_
      refine lv_irem hx hb dX0_workOutFrom_17 (by decide) ?_
      obtain ⟨r2, ua1, e3, h⟩ := bd2_some h
      refine x_callVL (As := [.int (l2 / (16 : Int32)), .int l1, .int (l2 - l2 / (16 : Int32) * (16 : Int32))]) (rest := []) (n := 3) ⟨hx, hb, hml, hown, hts⟩ (c_X0_pathOf l D cy g ua (l2 / (16 : Int32)) l1 (l2 - l2 / (16 : Int32) * (16 : Int32)) r2 ua1 e3) gX0_workOutFrom_X0_pathOf rfl hd_X0_pathOf ⟨Nat.le_of_ble_eq_true rfl, Nat.le_of_ble_eq_true rfl⟩ ⟨rfl, rfl⟩ hK (sp_all _) (sp_all _) hP hD hS hA 0 rfl rfl rfl hl.1 rfl (Nat.le_of_ble_eq_true rfl) dX0_workOutFrom_18 ⟨Nat.zero_le _, Nat.zero_le _⟩ (fun H locs hP hD hS => ?_)
      clear e3
      refine lv_pop2_2 hx hb dX0_workOutFrom_21 rfl ?_
      obtain ⟨v4, ev4, h⟩ := nm_ex h
      refine lv_iinc (v := v4) (lv' := [(2, .int v4), (0, .ref (g 99)), (1, .int l1)]) hx hb dX0_workOutFrom_22 hl (k := 2) rfl (by rw [ev4]; rfl) (by decide) rfl (fun ls hl => ?_)
      clear ev4
      refine lv_goto (tgt := 2) hx hb dX0_workOutFrom_25 (by decide) ?_
      exact ih l1 v4 ua1 h _ _ ls hP hD hS (lv_sub hl [1, 2, 0] rfl)
set_option maxHeartbeats 4000000 in
set_option maxRecDepth 100000 in
theorem c_X0_workOutFrom (l : Launch) (D : va_G) (cy : Nat → ClassId) (g : Nat → Nat) (ua : St) (p0 : Int32) (ua' : St) (h : f_X0_workOutFrom p0 ua = some ua') : CtV l yX0_workOutFrom wsX0_workOutFrom (rmH 4) [.ref (g 99), .int p0] D cy (wX0 cy g ua) (wX0 cy g ua') := by
  refine ct_enter (D := D) (cy := cy) (cc := cX0_workOutFrom) (maxL := 3) (ret := none) (w := wX0 cy g ua) (Qc := fun sz => va_Qv (fun (_ : Unit) => True) (Bw D cy (va_A (wX0 cy g ua) sz) (wX0 cy g ua')) (va_A (wX0 cy g ua) sz)) (by decide) rfl (Nat.le_of_ble_eq_true rfl) ?_
  intro p e s m below meth c A C0 hAe ls hl hP hD hS
  have e1 : MQ below ((fun sz => va_Qv (fun (_ : Unit) => True) (Bw D cy (va_A (wX0 cy g ua) sz) (wX0 cy g ua')) (va_A (wX0 cy g ua) sz)) s.heap.size) [.ref (g 99), .int p0].toArray s 0 0 A = QV below [.ref (g 99), .int p0].toArray s A D cy (wX0 cy g ua') := by rw [hAe]; rfl
  rw [e1]
  clear e1 hAe
  obtain ⟨hx, hb, hr, hml, hown, hts, hlocks, hK, hA⟩ := id C0
  have hl : lv_has ls 3 [(0, .ref (g 99)), (1, .int p0)] := hl
  rw [f_X0_workOutFrom] at h
  refine lv_iconst (v := 0) hx hb dX0_workOutFrom_0 (by decide) ?_
  refine lv_istore_n (lv' := [(2, .int (0 : Int32)), (0, .ref (g 99)), (1, .int p0)]) hx hb dX0_workOutFrom_1 rfl hl (by decide) rfl (fun ls hl => ?_)
  exact w_X0_workOutFrom_2 C0 FU p0 (0 : Int32) ua h _ _ ls hP hD hS (lv_sub hl [1, 2, 0] rfl)
theorem k_X0_knownPath_0 : Cond.fieldLink RX0 21 "FeatherHall$Air" "paths" "[J" ∈ wsX0_knownPath := (List.mem_cons_of_mem _ (List.mem_append_left _ (List.mem_of_getElem? (i := 0) rfl)))
theorem ki_X0_knownPath_X0 : ∀ w ∈ u_ws RX0 TX0 5, w ∈ wsX0_knownPath := fun _ hh => (List.mem_cons_of_mem _ (List.mem_append_right _ hh))
theorem hd_X0_knownPath : yX0_knownPath.cls = RX0 ∧ yX0_knownPath.cls ≠ "java/lang/invoke/MethodHandle" ∧ yX0_knownPath.cls ≠ "java/lang/invoke/VarHandle" ∧ (parseMethodDescriptor yX0_knownPath.desc).map (fun d => d.parameters.length) = some 2 := by decide +kernel
set_option maxHeartbeats 4000000 in
set_option maxRecDepth 100000 in
theorem c_X0_knownPath (l : Launch) (D : va_G) (cy : Nat → ClassId) (g : Nat → Nat) (ua : St) (p0 : Int32) (p1 : Int32) (r : Int64) (h : f_X0_knownPath ua p0 p1 = some r) : CtL l yX0_knownPath wsX0_knownPath (rmH 0) [.ref (g 99), .int p0, .int p1] D cy (wX0 cy g ua) (wX0 cy g ua) r := by
  refine ct_enter (D := D) (cy := cy) (cc := cX0_knownPath) (maxL := 3) (ret := (some .long)) (w := wX0 cy g ua) (Qc := fun sz => va_Ql (fun r' (_ : Unit) => r' = r) (Bw D cy (va_A (wX0 cy g ua) sz) (wX0 cy g ua)) (va_A (wX0 cy g ua) sz)) (by decide) rfl (Nat.le_of_ble_eq_true rfl) ?_
  intro p e s m below meth c A C0 hAe ls hl hP hD hS
  have e1 : MQ below ((fun sz => va_Ql (fun r' (_ : Unit) => r' = r) (Bw D cy (va_A (wX0 cy g ua) sz) (wX0 cy g ua)) (va_A (wX0 cy g ua) sz)) s.heap.size) [.ref (g 99), .int p0, .int p1].toArray s 0 0 A = QL below [.ref (g 99), .int p0, .int p1].toArray s A D cy (wX0 cy g ua) r := by rw [hAe]; rfl
  rw [e1]
  clear e1 hAe
  obtain ⟨hx, hb, hr, hml, hown, hts, hlocks, hK, hA⟩ := id C0
  have hl : lv_has ls 3 [(0, .ref (g 99)), (1, .int p0), (2, .int p1)] := hl
  rw [f_X0_knownPath] at h
  refine lv_aload_n hx hb dX0_knownPath_0 rfl (lv_at hl 0 rfl) ?_
  refine va_get (D := D) (ci := 0) (v := .ref (g 3)) (C := RX0) (T := TX0) (N := 5) hx hb hts ki_X0_knownPath_X0 hown hK hP 0 rfl rfl 3 (by decide) (hts _ k_X0_knownPath_0) (fun _ h9 => h9) rfl dX0_knownPath_1 ?_
  refine lv_iload_n hx hb dX0_knownPath_4 rfl (lv_at hl 2 rfl) ?_
  refine lv_bipush (v := 16) hx hb dX0_knownPath_5 (by decide) ?_
  refine lv_idiv hx hb dX0_knownPath_7 (by decide) ?_
  refine lv_bipush (v := 16) hx hb dX0_knownPath_8 (by decide) ?_
  refine lv_imul hx hb dX0_knownPath_10 ?_
  refine lv_iload_n hx hb dX0_knownPath_11 rfl (lv_at hl 1 rfl) ?_
  refine lv_iadd hx hb dX0_knownPath_12 ?_
  refine lv_bipush (v := 16) hx hb dX0_knownPath_13 (by decide) ?_
  refine lv_imul hx hb dX0_knownPath_15 ?_
  refine lv_iload_n hx hb dX0_knownPath_16 rfl (lv_at hl 2 rfl) ?_
  refine lv_bipush (v := 16) hx hb dX0_knownPath_17 (by decide) ?_
  refine lv_irem hx hb dX0_knownPath_19 (by decide) ?_
  refine lv_iadd hx hb dX0_knownPath_20 ?_
  refine x_lald hx hb hK hP 4 rfl rfl h dX0_knownPath_21 (fun v1 h => ?_)
  cases h
  exact x_lret hx hb hr hlocks hK hP hD hS dX0_knownPath_22 rfl rfl
theorem k_X0_placeBehind_0 : Cond.fieldLink RX0 9 "FeatherHall$Air" "speeds" "[I" ∈ wsX0_placeBehind := (List.mem_cons_of_mem _ (List.mem_append_left _ (List.mem_append_left _ (List.mem_of_getElem? (i := 0) rfl))))
theorem ki_X0_placeBehind_X0 : ∀ w ∈ u_ws RX0 TX0 5, w ∈ wsX0_placeBehind := fun _ hh => (List.mem_cons_of_mem _ (List.mem_append_right _ hh))
theorem k_X0_placeBehind_1 : Cond.methodLink RX0 61 Lib.Math.min.name ∈ wsX0_placeBehind := (List.mem_cons_of_mem _ (List.mem_append_left _ (List.mem_append_left _ (List.mem_of_getElem? (i := 1) rfl))))
theorem k_X0_placeBehind_2 : Cond.static Lib.Math.min.name ∈ wsX0_placeBehind := (List.mem_cons_of_mem _ (List.mem_append_left _ (List.mem_append_left _ (List.mem_of_getElem? (i := 2) rfl))))
theorem k_X0_placeBehind_3 : Cond.initialized "java/lang/Math" ∈ wsX0_placeBehind := (List.mem_cons_of_mem _ (List.mem_append_left _ (List.mem_append_left _ (List.mem_of_getElem? (i := 3) rfl))))
theorem k_X0_placeBehind_4 : Cond.code Lib.Math.min.name Lib.Math.min.code 2 (some .int) ∈ wsX0_placeBehind := (List.mem_cons_of_mem _ (List.mem_append_left _ (List.mem_append_left _ (List.mem_of_getElem? (i := 4) rfl))))
theorem hd_X0_placeBehind : yX0_placeBehind.cls = RX0 ∧ yX0_placeBehind.cls ≠ "java/lang/invoke/MethodHandle" ∧ yX0_placeBehind.cls ≠ "java/lang/invoke/VarHandle" ∧ (parseMethodDescriptor yX0_placeBehind.desc).map (fun d => d.parameters.length) = some 4 := by decide +kernel
set_option maxHeartbeats 4000000 in
set_option maxRecDepth 100000 in
theorem w_X0_placeBehind_70 {p : Program} {l : Launch} {e : Env} {s : State} {m : MethodId} {below : List Frame} {meth : Method} {c : Code} {args : Array Value} {D : va_G} {cy : Nat → ClassId} {g : Nat → Nat} {A : Nat → Prop} {ua : St} {r : Int32} (C0 : Cx p s m meth c args cX0_placeBehind 10 (some .int) wsX0_placeBehind RX0 D cy A) : ∀ (l2 : Int32) (l3 : Int32) (l5 : Int32) (l8 : Int32), f_X0_placeBehind_70 ua l2 l3 l5 l8 = some r → ∀ (H : Heap) (locs : List Loc) (ls : Array Slot), va_P D vwCl (wX0 cy g ua) H → va_D A (wX0 cy g ua) → va_S A s.heap H locs → lv_has ls 10 [(2, .int l2), (3, .int l3), (5, .int l5), (8, .int l8)] → W p l e (rmH 2) s m args below meth c H locs 0 0 (QI below args s A D cy (wX0 cy g ua) r) (F0 m 70 ls []) := by
  obtain ⟨hx, hb, hr, hml, hown, hts, hlocks, hK, hA⟩ := id C0
  intro l2 l3 l5 l8 h H locs ls hP hD hS hl
  rw [f_X0_placeBehind_70] at h
  refine lv_iload_n hx hb dX0_placeBehind_70 rfl (lv_at hl 0 rfl) ?_
  refine lv_iload_n hx hb dX0_placeBehind_71 rfl (lv_at hl 1 rfl) ?_
  refine lv_iload hx hb dX0_placeBehind_72 (lv_at hl 2 rfl) ?_
  refine lv_iload hx hb dX0_placeBehind_74 (lv_at hl 3 rfl) ?_
  obtain ⟨r11, e12, h⟩ := bd_some h
  refine x_callSI (As := [.int l2, .int l3, .int l5, .int l8]) (rest := []) (n := 4) ⟨hx, hb, hml, hown, hts⟩ (c_X0_placeAt l D cy  l2 l3 l5 l8 r11 e12) gX0_placeBehind_X0_placeAt rfl hd_X0_placeAt ⟨Nat.le_of_ble_eq_true rfl, Nat.le_of_ble_eq_true rfl⟩ ⟨rfl, rfl⟩ hK (sp_nil _) (sp_nil _) hP hD hS hA rfl hl.1 rfl (Nat.le_of_ble_eq_true rfl) dX0_placeBehind_76 ⟨Nat.zero_le _, Nat.zero_le _⟩ (fun H locs hP hD hS => ?_)
  clear e12
  cases h
  exact x_iret hx hb hr hlocks hK hP hD hS dX0_placeBehind_79 rfl rfl
set_option maxHeartbeats 4000000 in
set_option maxRecDepth 100000 in
theorem w_X0_placeBehind_29 {p : Program} {l : Launch} {e : Env} {s : State} {m : MethodId} {below : List Frame} {meth : Method} {c : Code} {args : Array Value} {D : va_G} {cy : Nat → ClassId} {g : Nat → Nat} {A : Nat → Prop} {ua : St} {r : Int32} (C0 : Cx p s m meth c args cX0_placeBehind 10 (some .int) wsX0_placeBehind RX0 D cy A) : ∀ (nn : Nat) (l1 : Int32) (l2 : Int32) (l3 : Int32) (l4 : Int32) (l5 : Int32) (l6 : Int32) (l7 : Int32) (l8 : Int32) (l9 : Int32), f_X0_placeBehind_29 ua nn l1 l2 l3 l4 l5 l6 l7 l8 l9 = some r → ∀ (H : Heap) (locs : List Loc) (ls : Array Slot), va_P D vwCl (wX0 cy g ua) H → va_D A (wX0 cy g ua) → va_S A s.heap H locs → lv_has ls 10 [(0, .ref (g 99)), (1, .int l1), (2, .int l2), (3, .int l3), (4, .int l4), (5, .int l5), (6, .int l6), (7, .int l7), (8, .int l8), (9, .int l9)] → W p l e (rmH 2) s m args below meth c H locs 0 0 (QI below args s A D cy (wX0 cy g ua) r) (F0 m 29 ls []) := by
  obtain ⟨hx, hb, hr, hml, hown, hts, hlocks, hK, hA⟩ := id C0
  intro nn
  induction nn with
  | zero => intro l1 l2 l3 l4 l5 l6 l7 l8 l9 h; rw [f_X0_placeBehind_29] at h; cases h
  | succ nn ih =>
    intro l1 l2 l3 l4 l5 l6 l7 l8 l9 h H locs ls hP hD hS hl
    rw [f_X0_placeBehind_29] at h
    refine lv_iload hx hb dX0_placeBehind_29 (lv_at hl 9 rfl) ?_
    refine lv_iload hx hb dX0_placeBehind_31 (lv_at hl 4 rfl) ?_
    refine x_icmp_gt (tgt := 70) hx hb dX0_placeBehind_33 (by decide) h (fun _ h => ?_) (fun _ h => ?_)
    · exact w_X0_placeBehind_70 C0 l2 l3 l5 l8 h _ _ ls hP hD hS (lv_sub hl [2, 3, 5, 8] rfl)
    · refine lv_iload hx hb dX0_placeBehind_36 (lv_at hl 8 rfl) ?_
      refine lv_iload hx hb dX0_placeBehind_38 (lv_at hl 6 rfl) ?_
      refine x_icmp_ge (tgt := 70) hx hb dX0_placeBehind_40 (by decide) h (fun _ h => ?_) (fun _ h => ?_)
      · exact w_X0_placeBehind_70 C0 l2 l3 l5 l8 h _ _ ls hP hD hS (lv_sub hl [2, 3, 5, 8] rfl)
      · refine lv_iload hx hb dX0_placeBehind_43 (lv_at hl 6 rfl) ?_
        refine lv_iload hx hb dX0_placeBehind_45 (lv_at hl 8 rfl) ?_
        refine lv_iload hx hb dX0_placeBehind_47 (lv_at hl 7 rfl) ?_
        refine lv_iadd hx hb dX0_placeBehind_49 ?_
        refine x_nm h (fun v6 h => ?_)
        refine va_mmin hx hb (hml.trans hl.1.symm) hown (hts _ k_X0_placeBehind_1) (hts _ k_X0_placeBehind_2) (hts _ k_X0_placeBehind_3) (hts _ k_X0_placeBehind_4) (Nat.le_of_ble_eq_true rfl) (Nat.le_of_ble_eq_true rfl) (Nat.zero_le _) (Nat.zero_le _) dX0_placeBehind_50 ?_
        refine x_nm h (fun v7 h => ?_)
        refine lv_istore (lv' := [(8, .int v7), (0, .ref (g 99)), (1, .int l1), (2, .int l2), (3, .int l3), (4, .int l4), (5, .int l5), (6, .int l6), (7, .int l7), (9, .int l9)]) hx hb dX0_placeBehind_53 hl (by decide) rfl (fun ls hl => ?_)
        refine lv_aload_n hx hb dX0_placeBehind_55 rfl (lv_at hl 1 rfl) ?_
        refine lv_iload_n hx hb dX0_placeBehind_56 rfl (lv_at hl 2 rfl) ?_
        refine lv_iload hx hb dX0_placeBehind_57 (lv_at hl 8 rfl) ?_
        obtain ⟨r8, e9, h⟩ := bd_some h
        refine x_callVI (As := [.int l1, .int l7]) (rest := []) (n := 2) ⟨hx, hb, hml, hown, hts⟩ (c_X0_slowed l D cy g ua l1 l7 r8 e9) gX0_placeBehind_X0_slowed rfl hd_X0_slowed ⟨Nat.le_of_ble_eq_true rfl, Nat.le_of_ble_eq_true rfl⟩ ⟨rfl, rfl⟩ hK (sp_all _) (sp_all _) hP hD hS hA 0 rfl rfl rfl hl.1 rfl (Nat.le_of_ble_eq_true rfl) dX0_placeBehind_59 ⟨Nat.zero_le _, Nat.zero_le _⟩ (fun H locs hP hD hS => ?_)
        clear e9
        refine lv_istore (lv' := [(7, .int r8), (8, .int v7), (0, .ref (g 99)), (1, .int l1), (2, .int l2), (3, .int l3), (4, .int l4), (5, .int l5), (6, .int l6), (9, .int l9)]) hx hb dX0_placeBehind_62 hl (by decide) rfl (fun ls hl => ?_)
        obtain ⟨v10, ev10, h⟩ := nm_ex h
        refine lv_iinc (v := v10) (lv' := [(9, .int v10), (7, .int r8), (8, .int v7), (0, .ref (g 99)), (1, .int l1), (2, .int l2), (3, .int l3), (4, .int l4), (5, .int l5), (6, .int l6)]) hx hb dX0_placeBehind_64 hl (k := 9) rfl (by rw [ev10]; rfl) (by decide) rfl (fun ls hl => ?_)
        clear ev10
        refine lv_goto (tgt := 29) hx hb dX0_placeBehind_67 (by decide) ?_
        exact ih l1 l2 l3 l4 l5 l6 r8 v7 v10 h _ _ ls hP hD hS (lv_sub hl [3, 4, 5, 6, 7, 8, 9, 1, 2, 0] rfl)
set_option maxHeartbeats 4000000 in
set_option maxRecDepth 100000 in
theorem c_X0_placeBehind (l : Launch) (D : va_G) (cy : Nat → ClassId) (g : Nat → Nat) (ua : St) (p0 : Int32) (p1 : Int32) (p2 : Int32) (p3 : Int32) (r : Int32) (h : f_X0_placeBehind ua p0 p1 p2 p3 = some r) : CtI l yX0_placeBehind wsX0_placeBehind (rmH 2) [.ref (g 99), .int p0, .int p1, .int p2, .int p3] D cy (wX0 cy g ua) (wX0 cy g ua) r := by
  refine ct_enter (D := D) (cy := cy) (cc := cX0_placeBehind) (maxL := 10) (ret := (some .int)) (w := wX0 cy g ua) (Qc := fun sz => va_Qi (fun r' (_ : Unit) => r' = r) (Bw D cy (va_A (wX0 cy g ua) sz) (wX0 cy g ua)) (va_A (wX0 cy g ua) sz)) (by decide) rfl (Nat.le_of_ble_eq_true rfl) ?_
  intro p e s m below meth c A C0 hAe ls hl hP hD hS
  have e1 : MQ below ((fun sz => va_Qi (fun r' (_ : Unit) => r' = r) (Bw D cy (va_A (wX0 cy g ua) sz) (wX0 cy g ua)) (va_A (wX0 cy g ua) sz)) s.heap.size) [.ref (g 99), .int p0, .int p1, .int p2, .int p3].toArray s 0 0 A = QI below [.ref (g 99), .int p0, .int p1, .int p2, .int p3].toArray s A D cy (wX0 cy g ua) r := by rw [hAe]; rfl
  rw [e1]
  clear e1 hAe
  obtain ⟨hx, hb, hr, hml, hown, hts, hlocks, hK, hA⟩ := id C0
  have hl : lv_has ls 10 [(0, .ref (g 99)), (1, .int p0), (2, .int p1), (3, .int p2), (4, .int p3)] := hl
  rw [f_X0_placeBehind] at h
  refine lv_iload_n hx hb dX0_placeBehind_0 rfl (lv_at hl 2 rfl) ?_
  refine lv_iload_n hx hb dX0_placeBehind_1 rfl (lv_at hl 3 rfl) ?_
  obtain ⟨r1, e2, h⟩ := bd_some h
  refine x_callSI (As := [.int p1, .int p2]) (rest := []) (n := 2) ⟨hx, hb, hml, hown, hts⟩ (c_X0_lengthOf l D cy  p1 p2 r1 e2) gX0_placeBehind_X0_lengthOf rfl hd_X0_lengthOf ⟨Nat.le_of_ble_eq_true rfl, Nat.le_of_ble_eq_true rfl⟩ ⟨rfl, rfl⟩ hK (sp_nil _) (sp_nil _) hP hD hS hA rfl hl.1 rfl (Nat.le_of_ble_eq_true rfl) dX0_placeBehind_2 ⟨Nat.zero_le _, Nat.zero_le _⟩ (fun H locs hP hD hS => ?_)
  clear e2
  refine lv_istore (lv' := [(5, .int r1), (0, .ref (g 99)), (1, .int p0), (2, .int p1), (3, .int p2), (4, .int p3)]) hx hb dX0_placeBehind_5 hl (by decide) rfl (fun ls hl => ?_)
  refine lv_aload_n hx hb dX0_placeBehind_7 rfl (lv_at hl 1 rfl) ?_
  refine lv_iload hx hb dX0_placeBehind_8 (lv_at hl 0 rfl) ?_
  obtain ⟨r3, e4, h⟩ := bd_some h
  refine x_callVI (As := [.int r1]) (rest := []) (n := 1) ⟨hx, hb, hml, hown, hts⟩ (c_X0_wholeOf l D cy g ua r1 r3 e4) gX0_placeBehind_X0_wholeOf rfl hd_X0_wholeOf ⟨Nat.le_of_ble_eq_true rfl, Nat.le_of_ble_eq_true rfl⟩ ⟨rfl, rfl⟩ hK (sp_all _) (sp_all _) hP hD hS hA 0 rfl rfl rfl hl.1 rfl (Nat.le_of_ble_eq_true rfl) dX0_placeBehind_10 ⟨Nat.zero_le _, Nat.zero_le _⟩ (fun H locs hP hD hS => ?_)
  clear e4
  refine lv_istore (lv' := [(6, .int r3), (5, .int r1), (0, .ref (g 99)), (1, .int p0), (2, .int p1), (3, .int p2), (4, .int p3)]) hx hb dX0_placeBehind_13 hl (by decide) rfl (fun ls hl => ?_)
  refine lv_aload_n hx hb dX0_placeBehind_15 rfl (lv_at hl 2 rfl) ?_
  refine va_get (D := D) (ci := 0) (v := .ref (g 0)) (C := RX0) (T := TX0) (N := 5) hx hb hts ki_X0_placeBehind_X0 hown hK hP 0 rfl rfl 0 (by decide) (hts _ k_X0_placeBehind_0) (fun _ h9 => h9) rfl dX0_placeBehind_16 ?_
  refine lv_iload_n hx hb dX0_placeBehind_19 rfl (lv_at hl 3 rfl) ?_
  refine x_iald hx hb hK hP 1 rfl rfl h dX0_placeBehind_20 (fun v5 h => ?_)
  refine lv_istore (lv' := [(7, .int v5), (6, .int r3), (5, .int r1), (0, .ref (g 99)), (1, .int p0), (2, .int p1), (3, .int p2), (4, .int p3)]) hx hb dX0_placeBehind_21 hl (by decide) rfl (fun ls hl => ?_)
  refine lv_iconst (v := 0) hx hb dX0_placeBehind_23 (by decide) ?_
  refine lv_istore (lv' := [(8, .int (0 : Int32)), (7, .int v5), (6, .int r3), (5, .int r1), (0, .ref (g 99)), (1, .int p0), (2, .int p1), (3, .int p2), (4, .int p3)]) hx hb dX0_placeBehind_24 hl (by decide) rfl (fun ls hl => ?_)
  refine lv_iconst (v := 1) hx hb dX0_placeBehind_26 (by decide) ?_
  refine lv_istore (lv' := [(9, .int (1 : Int32)), (8, .int (0 : Int32)), (7, .int v5), (6, .int r3), (5, .int r1), (0, .ref (g 99)), (1, .int p0), (2, .int p1), (3, .int p2), (4, .int p3)]) hx hb dX0_placeBehind_27 hl (by decide) rfl (fun ls hl => ?_)
  exact w_X0_placeBehind_29 C0 FU p0 p1 p2 p3 r1 r3 v5 (0 : Int32) (1 : Int32) h _ _ ls hP hD hS (lv_sub hl [5, 6, 7, 8, 9, 4, 3, 2, 1, 0] rfl)
