theorem k_X5_size_0 : Cond.fieldLink RX5 25 "FeatherHall$Notebook" "notes" "I" ∈ wsX5_size := (List.mem_cons_of_mem _ (List.mem_append_left _ (List.mem_of_getElem? (i := 0) rfl)))
theorem ki_X5_size_X5 : ∀ w ∈ u_ws RX5 TX5 5, w ∈ wsX5_size := fun _ hh => (List.mem_cons_of_mem _ (List.mem_append_right _ hh))
theorem hd_X5_size : yX5_size.cls = RX5 ∧ yX5_size.cls ≠ "java/lang/invoke/MethodHandle" ∧ yX5_size.cls ≠ "java/lang/invoke/VarHandle" ∧ (parseMethodDescriptor yX5_size.desc).map (fun d => d.parameters.length) = some 0 := by decide +kernel
set_option maxHeartbeats 4000000 in
set_option maxRecDepth 100000 in
theorem c_X5_size (l : Launch) (D : va_G) (cy : Nat → ClassId) (g : Nat → Nat) (un : St) (r : Int32) (h : f_X5_size un = some r) : CtI l yX5_size wsX5_size (rmH 0) [.ref (g 599)] D cy (wX5 cy g un) (wX5 cy g un) r := by
  refine ct_enter (D := D) (cy := cy) (cc := cX5_size) (maxL := 1) (ret := (some .int)) (w := wX5 cy g un) (Qc := fun sz => va_Qi (fun r' (_ : Unit) => r' = r) (Bw D cy (va_A (wX5 cy g un) sz) (wX5 cy g un)) (va_A (wX5 cy g un) sz)) (by decide) rfl (Nat.le_of_ble_eq_true rfl) ?_
  intro p e s m below meth c A C0 hAe ls hl hP hD hS
  have e1 : MQ below ((fun sz => va_Qi (fun r' (_ : Unit) => r' = r) (Bw D cy (va_A (wX5 cy g un) sz) (wX5 cy g un)) (va_A (wX5 cy g un) sz)) s.heap.size) [.ref (g 599)].toArray s 0 0 A = QI below [.ref (g 599)].toArray s A D cy (wX5 cy g un) r := by rw [hAe]; rfl
  rw [e1]
  clear e1 hAe
  obtain ⟨hx, hb, hr, hml, hown, hts, hlocks, hK, hA⟩ := id C0
  have hl : lv_has ls 1 [(0, .ref (g 599))] := hl
  rw [f_X5_size] at h
  refine lv_aload_n hx hb dX5_size_0 rfl (lv_at hl 0 rfl) ?_
  refine va_get (D := D) (ci := 4) (v := .int (un.1 4)) (C := RX5) (T := TX5) (N := 5) hx hb hts ki_X5_size_X5 hown hK hP 0 rfl rfl 4 (by decide) (hts _ k_X5_size_0) (fun _ h9 => h9) rfl dX5_size_1 ?_
  cases h
  exact x_iret hx hb hr hlocks hK hP hD hS dX5_size_4 rfl rfl
theorem k_X5_add_0 : Cond.fieldLink RX5 25 "FeatherHall$Notebook" "notes" "I" ∈ wsX5_add := (List.mem_cons_of_mem _ (List.mem_append_left _ (List.mem_of_getElem? (i := 0) rfl)))
theorem ki_X5_add_X5 : ∀ w ∈ u_ws RX5 TX5 5, w ∈ wsX5_add := fun _ hh => (List.mem_cons_of_mem _ (List.mem_append_right _ hh))
theorem k_X5_add_1 : Cond.fieldLink RX5 9 "FeatherHall$Notebook" "both" "[I" ∈ wsX5_add := (List.mem_cons_of_mem _ (List.mem_append_left _ (List.mem_of_getElem? (i := 1) rfl)))
theorem k_X5_add_2 : Cond.fieldLink RX5 15 "FeatherHall$Notebook" "withZone" "[I" ∈ wsX5_add := (List.mem_cons_of_mem _ (List.mem_append_left _ (List.mem_of_getElem? (i := 2) rfl)))
theorem k_X5_add_3 : Cond.fieldLink RX5 18 "FeatherHall$Notebook" "withKind" "[I" ∈ wsX5_add := (List.mem_cons_of_mem _ (List.mem_append_left _ (List.mem_of_getElem? (i := 3) rfl)))
theorem k_X5_add_4 : Cond.fieldLink RX5 21 "FeatherHall$Notebook" "withoutGap" "I" ∈ wsX5_add := (List.mem_cons_of_mem _ (List.mem_append_left _ (List.mem_of_getElem? (i := 4) rfl)))
theorem hd_X5_add : yX5_add.cls = RX5 ∧ yX5_add.cls ≠ "java/lang/invoke/MethodHandle" ∧ yX5_add.cls ≠ "java/lang/invoke/VarHandle" ∧ (parseMethodDescriptor yX5_add.desc).map (fun d => d.parameters.length) = some 3 := by decide +kernel
set_option maxHeartbeats 4000000 in
set_option maxRecDepth 100000 in
theorem w_X5_add_43 {p : Program} {l : Launch} {e : Env} {s : State} {m : MethodId} {below : List Frame} {meth : Method} {c : Code} {args : Array Value} {D : va_G} {cy : Nat → ClassId} {g : Nat → Nat} {A : Nat → Prop} {r : Int32} {un' : St} (C0 : Cx p s m meth c args cX5_add 5 (some .int) wsX5_add RX5 D cy A) : ∀ (l2 : Int32) (s0 : Int32) (un : St), f_X5_add_43 l2 s0 un = some (r, un') → ∀ (H : Heap) (locs : List Loc) (ls : Array Slot), va_P D vwCl (wX5 cy g un) H → va_D A (wX5 cy g un) → va_S A s.heap H locs → lv_has ls 5 [(0, .ref (g 599)), (2, .int l2)] → W p l e (rmH 0) s m args below meth c H locs 0 0 (QI below args s A D cy (wX5 cy g un') r) (F0 m 43 ls [.int s0]) := by
  obtain ⟨hx, hb, hr, hml, hown, hts, hlocks, hK, hA⟩ := id C0
  intro l2 s0 un h H locs ls hP hD hS hl
  rw [f_X5_add_43] at h
  refine lv_istore (lv' := [(4, .int s0), (0, .ref (g 599)), (2, .int l2)]) hx hb dX5_add_43 hl (by decide) rfl (fun ls hl => ?_)
  refine lv_aload_n hx hb dX5_add_45 rfl (lv_at hl 1 rfl) ?_
  refine va_get (D := D) (ci := 4) (v := .ref (g 500)) (C := RX5) (T := TX5) (N := 5) hx hb hts ki_X5_add_X5 hown hK hP 0 rfl rfl 0 (by decide) (hts _ k_X5_add_1) (fun _ h9 => h9) rfl dX5_add_46 ?_
  refine lv_iload hx hb dX5_add_49 (lv_at hl 0 rfl) ?_
  refine lv_iconst (v := 4) hx hb dX5_add_51 (by decide) ?_
  refine lv_imul hx hb dX5_add_52 ?_
  refine lv_iload_n hx hb dX5_add_53 rfl (lv_at hl 2 rfl) ?_
  refine lv_iadd hx hb dX5_add_54 ?_
  refine x_nm h (fun v2 h => ?_)
  refine lv_dup2_11 hx hb dX5_add_55 rfl rfl ?_
  refine x_iald hx hb hK hP 1 rfl rfl h dX5_add_56 (fun v3 h => ?_)
  refine lv_iconst (v := 1) hx hb dX5_add_57 (by decide) ?_
  refine lv_iadd hx hb dX5_add_58 ?_
  refine x_iast (Wd := (fun uz => wX5 cy g uz)) (u := un) (k := 0) hx hb hK hP hD hS 1 rfl rfl (fun _ => rfl) h dX5_add_59 (fun un4 H locs h hP hD hS => ?_)
  refine lv_aload_n hx hb dX5_add_60 rfl (lv_at hl 1 rfl) ?_
  refine va_get (D := D) (ci := 4) (v := .ref (g 501)) (C := RX5) (T := TX5) (N := 5) hx hb hts ki_X5_add_X5 hown hK hP 0 rfl rfl 1 (by decide) (hts _ k_X5_add_2) (fun _ h9 => h9) rfl dX5_add_61 ?_
  refine lv_iload hx hb dX5_add_64 (lv_at hl 0 rfl) ?_
  refine lv_dup2_11 hx hb dX5_add_66 rfl rfl ?_
  refine x_iald hx hb hK hP 2 rfl rfl h dX5_add_67 (fun v5 h => ?_)
  refine lv_iconst (v := 1) hx hb dX5_add_68 (by decide) ?_
  refine lv_iadd hx hb dX5_add_69 ?_
  refine x_iast (Wd := (fun uz => wX5 cy g uz)) (u := un4) (k := 1) hx hb hK hP hD hS 2 rfl rfl (fun _ => rfl) h dX5_add_70 (fun un6 H locs h hP hD hS => ?_)
  refine lv_aload_n hx hb dX5_add_71 rfl (lv_at hl 1 rfl) ?_
  refine va_get (D := D) (ci := 4) (v := .ref (g 502)) (C := RX5) (T := TX5) (N := 5) hx hb hts ki_X5_add_X5 hown hK hP 0 rfl rfl 2 (by decide) (hts _ k_X5_add_3) (fun _ h9 => h9) rfl dX5_add_72 ?_
  refine lv_iload_n hx hb dX5_add_75 rfl (lv_at hl 2 rfl) ?_
  refine lv_dup2_11 hx hb dX5_add_76 rfl rfl ?_
  refine x_iald hx hb hK hP 3 rfl rfl h dX5_add_77 (fun v7 h => ?_)
  refine lv_iconst (v := 1) hx hb dX5_add_78 (by decide) ?_
  refine lv_iadd hx hb dX5_add_79 ?_
  refine x_iast (Wd := (fun uz => wX5 cy g uz)) (u := un6) (k := 2) hx hb hK hP hD hS 3 rfl rfl (fun _ => rfl) h dX5_add_80 (fun un8 H locs h hP hD hS => ?_)
  refine lv_aload_n hx hb dX5_add_81 rfl (lv_at hl 1 rfl) ?_
  refine lv_dup hx hb dX5_add_82 rfl ?_
  refine va_get (D := D) (ci := 4) (v := .int (un8.1 3)) (C := RX5) (T := TX5) (N := 5) hx hb hts ki_X5_add_X5 hown hK hP 0 rfl rfl 3 (by decide) (hts _ k_X5_add_4) (fun _ h9 => h9) rfl dX5_add_83 ?_
  refine lv_iconst (v := 1) hx hb dX5_add_86 (by decide) ?_
  refine lv_iadd hx hb dX5_add_87 ?_
  refine x_put (D := D) (ci := 4) (Wd := (fun uz => wX5 cy g uz)) (u := un8) (C := RX5) (T := TX5) (N := 5) hx hb hts ki_X5_add_X5 tyX5 tyX5_ok nmX5 hown hK hP hD hS 0 rfl rfl 3 (by decide) (hts _ k_X5_add_4) (fun _ h9 => h9) rfl (tyX5_ok 3 (by decide)) rfl rfl (Nat.le_of_ble_eq_true rfl) (fun _ => rfl) h dX5_add_88 (fun un9 H locs h hP hD hS => ?_)
  refine lv_aload_n hx hb dX5_add_91 rfl (lv_at hl 1 rfl) ?_
  refine va_get (D := D) (ci := 4) (v := .int (un9.1 4)) (C := RX5) (T := TX5) (N := 5) hx hb hts ki_X5_add_X5 hown hK hP 0 rfl rfl 4 (by decide) (hts _ k_X5_add_0) (fun _ h9 => h9) rfl dX5_add_92 ?_
  cases h
  exact x_iret hx hb hr hlocks hK hP hD hS dX5_add_95 rfl rfl
set_option maxHeartbeats 4000000 in
set_option maxRecDepth 100000 in
theorem c_X5_add (l : Launch) (D : va_G) (cy : Nat → ClassId) (g : Nat → Nat) (un : St) (p0 : Int32) (p1 : Int32) (p2 : Int32) (r : Int32) (un' : St) (h : f_X5_add p0 p1 p2 un = some (r, un')) : CtI l yX5_add wsX5_add (rmH 0) [.ref (g 599), .int p0, .int p1, .int p2] D cy (wX5 cy g un) (wX5 cy g un') r := by
  refine ct_enter (D := D) (cy := cy) (cc := cX5_add) (maxL := 5) (ret := (some .int)) (w := wX5 cy g un) (Qc := fun sz => va_Qi (fun r' (_ : Unit) => r' = r) (Bw D cy (va_A (wX5 cy g un) sz) (wX5 cy g un')) (va_A (wX5 cy g un) sz)) (by decide) rfl (Nat.le_of_ble_eq_true rfl) ?_
  intro p e s m below meth c A C0 hAe ls hl hP hD hS
  have e1 : MQ below ((fun sz => va_Qi (fun r' (_ : Unit) => r' = r) (Bw D cy (va_A (wX5 cy g un) sz) (wX5 cy g un')) (va_A (wX5 cy g un) sz)) s.heap.size) [.ref (g 599), .int p0, .int p1, .int p2].toArray s 0 0 A = QI below [.ref (g 599), .int p0, .int p1, .int p2].toArray s A D cy (wX5 cy g un') r := by rw [hAe]; rfl
  rw [e1]
  clear e1 hAe
  obtain ⟨hx, hb, hr, hml, hown, hts, hlocks, hK, hA⟩ := id C0
  have hl : lv_has ls 5 [(0, .ref (g 599)), (1, .int p0), (2, .int p1), (3, .int p2)] := hl
  rw [f_X5_add] at h
  refine lv_aload_n hx hb dX5_add_0 rfl (lv_at hl 0 rfl) ?_
  refine va_get (D := D) (ci := 4) (v := .int (un.1 4)) (C := RX5) (T := TX5) (N := 5) hx hb hts ki_X5_add_X5 hown hK hP 0 rfl rfl 4 (by decide) (hts _ k_X5_add_0) (fun _ h9 => h9) rfl dX5_add_1 ?_
  refine lv_bipush (v := 60) hx hb dX5_add_4 (by decide) ?_
  refine x_icmp_lt (tgt := 12) hx hb dX5_add_6 (by decide) h (fun _ h => ?_) (fun _ h => ?_)
  · refine lv_aload_n hx hb dX5_add_12 rfl (lv_at hl 0 rfl) ?_
    refine lv_dup hx hb dX5_add_13 rfl ?_
    refine va_get (D := D) (ci := 4) (v := .int (un.1 4)) (C := RX5) (T := TX5) (N := 5) hx hb hts ki_X5_add_X5 hown hK hP 0 rfl rfl 4 (by decide) (hts _ k_X5_add_0) (fun _ h9 => h9) rfl dX5_add_14 ?_
    refine lv_iconst (v := 1) hx hb dX5_add_17 (by decide) ?_
    refine lv_iadd hx hb dX5_add_18 ?_
    refine x_put (D := D) (ci := 4) (Wd := (fun uz => wX5 cy g uz)) (u := un) (C := RX5) (T := TX5) (N := 5) hx hb hts ki_X5_add_X5 tyX5 tyX5_ok nmX5 hown hK hP hD hS 0 rfl rfl 4 (by decide) (hts _ k_X5_add_0) (fun _ h9 => h9) rfl (tyX5_ok 4 (by decide)) rfl rfl (Nat.le_of_ble_eq_true rfl) (fun _ => rfl) h dX5_add_19 (fun un1 H locs h hP hD hS => ?_)
    refine lv_iload_n hx hb dX5_add_22 rfl (lv_at hl 1 rfl) ?_
    refine lv_iconst (v := -1) hx hb dX5_add_23 (by decide) ?_
    refine x_icmp_eq (tgt := 91) hx hb dX5_add_24 (by decide) h (fun _ h => ?_) (fun _ h => ?_)
    · refine lv_aload_n hx hb dX5_add_91 rfl (lv_at hl 0 rfl) ?_
      refine va_get (D := D) (ci := 4) (v := .int (un1.1 4)) (C := RX5) (T := TX5) (N := 5) hx hb hts ki_X5_add_X5 hown hK hP 0 rfl rfl 4 (by decide) (hts _ k_X5_add_0) (fun _ h9 => h9) rfl dX5_add_92 ?_
      cases h
      exact x_iret hx hb hr hlocks hK hP hD hS dX5_add_95 rfl rfl
    · refine lv_iload_n hx hb dX5_add_27 rfl (lv_at hl 2 rfl) ?_
      refine lv_iconst (v := -1) hx hb dX5_add_28 (by decide) ?_
      refine x_icmp_eq (tgt := 91) hx hb dX5_add_29 (by decide) h (fun _ h => ?_) (fun _ h => ?_)
      · refine lv_aload_n hx hb dX5_add_91 rfl (lv_at hl 0 rfl) ?_
        refine va_get (D := D) (ci := 4) (v := .int (un1.1 4)) (C := RX5) (T := TX5) (N := 5) hx hb hts ki_X5_add_X5 hown hK hP 0 rfl rfl 4 (by decide) (hts _ k_X5_add_0) (fun _ h9 => h9) rfl dX5_add_92 ?_
        cases h
        exact x_iret hx hb hr hlocks hK hP hD hS dX5_add_95 rfl rfl
      · refine lv_iload_n hx hb dX5_add_32 rfl (lv_at hl 3 rfl) ?_
        refine x_if_eq (tgt := 42) hx hb dX5_add_33 (by decide) h (fun _ h => ?_) (fun _ h => ?_)
        · refine lv_iload_n hx hb dX5_add_42 rfl (lv_at hl 1 rfl) ?_
          exact w_X5_add_43 C0 p1 p0 un1 h _ _ ls hP hD hS (lv_sub hl [0, 2] rfl)
        · refine lv_iload_n hx hb dX5_add_36 rfl (lv_at hl 1 rfl) ?_
          refine lv_iconst (v := 1) hx hb dX5_add_37 (by decide) ?_
          refine lv_ixor hx hb dX5_add_38 ?_
          refine lv_goto (tgt := 43) hx hb dX5_add_39 (by decide) ?_
          exact w_X5_add_43 C0 p1 (p0 ^^^ (1 : Int32)) un1 h _ _ ls hP hD hS (lv_sub hl [0, 2] rfl)
  · refine lv_bipush (v := -5) hx hb dX5_add_9 (by decide) ?_
    cases h
    exact x_iret hx hb hr hlocks hK hP hD hS dX5_add_11 rfl rfl
theorem k_X5_read_0 : Cond.fieldLink RX5 9 "FeatherHall$Notebook" "both" "[I" ∈ wsX5_read := (List.mem_cons_of_mem _ (List.mem_append_left _ (List.mem_of_getElem? (i := 0) rfl)))
theorem ki_X5_read_X5 : ∀ w ∈ u_ws RX5 TX5 5, w ∈ wsX5_read := fun _ hh => (List.mem_cons_of_mem _ (List.mem_append_right _ hh))
theorem k_X5_read_1 : Cond.fieldLink RX5 15 "FeatherHall$Notebook" "withZone" "[I" ∈ wsX5_read := (List.mem_cons_of_mem _ (List.mem_append_left _ (List.mem_of_getElem? (i := 1) rfl)))
theorem k_X5_read_2 : Cond.fieldLink RX5 18 "FeatherHall$Notebook" "withKind" "[I" ∈ wsX5_read := (List.mem_cons_of_mem _ (List.mem_append_left _ (List.mem_of_getElem? (i := 2) rfl)))
theorem k_X5_read_3 : Cond.fieldLink RX5 21 "FeatherHall$Notebook" "withoutGap" "I" ∈ wsX5_read := (List.mem_cons_of_mem _ (List.mem_append_left _ (List.mem_of_getElem? (i := 3) rfl)))
theorem hd_X5_read : yX5_read.cls = RX5 ∧ yX5_read.cls ≠ "java/lang/invoke/MethodHandle" ∧ yX5_read.cls ≠ "java/lang/invoke/VarHandle" ∧ (parseMethodDescriptor yX5_read.desc).map (fun d => d.parameters.length) = some 3 := by decide +kernel
set_option maxHeartbeats 4000000 in
set_option maxRecDepth 100000 in
theorem c_X5_read (l : Launch) (D : va_G) (cy : Nat → ClassId) (g : Nat → Nat) (un : St) (p0 : Int32) (p1 : Int32) (p2 : Int32) (r : Int32) (h : f_X5_read un p0 p1 p2 = some r) : CtI l yX5_read wsX5_read (rmH 0) [.ref (g 599), .int p0, .int p1, .int p2] D cy (wX5 cy g un) (wX5 cy g un) r := by
  refine ct_enter (D := D) (cy := cy) (cc := cX5_read) (maxL := 4) (ret := (some .int)) (w := wX5 cy g un) (Qc := fun sz => va_Qi (fun r' (_ : Unit) => r' = r) (Bw D cy (va_A (wX5 cy g un) sz) (wX5 cy g un)) (va_A (wX5 cy g un) sz)) (by decide) rfl (Nat.le_of_ble_eq_true rfl) ?_
  intro p e s m below meth c A C0 hAe ls hl hP hD hS
  have e1 : MQ below ((fun sz => va_Qi (fun r' (_ : Unit) => r' = r) (Bw D cy (va_A (wX5 cy g un) sz) (wX5 cy g un)) (va_A (wX5 cy g un) sz)) s.heap.size) [.ref (g 599), .int p0, .int p1, .int p2].toArray s 0 0 A = QI below [.ref (g 599), .int p0, .int p1, .int p2].toArray s A D cy (wX5 cy g un) r := by rw [hAe]; rfl
  rw [e1]
  clear e1 hAe
  obtain ⟨hx, hb, hr, hml, hown, hts, hlocks, hK, hA⟩ := id C0
  have hl : lv_has ls 4 [(0, .ref (g 599)), (1, .int p0), (2, .int p1), (3, .int p2)] := hl
  rw [f_X5_read] at h
  refine lv_iload_n hx hb dX5_read_0 rfl (lv_at hl 3 rfl) ?_
  by_cases q0 : p2 = (0 : Int32)
  · subst q0
    rw [if_pos rfl] at h
    refine lv_tableIn (tgt := 28) (off := 27) hx hb dX5_read_1 (by decide) (by decide) rfl (by decide) ?_
    refine lv_aload_n hx hb dX5_read_28 rfl (lv_at hl 0 rfl) ?_
    refine va_get (D := D) (ci := 4) (v := .ref (g 500)) (C := RX5) (T := TX5) (N := 5) hx hb hts ki_X5_read_X5 hown hK hP 0 rfl rfl 0 (by decide) (hts _ k_X5_read_0) (fun _ h9 => h9) rfl dX5_read_29 ?_
    refine lv_iload_n hx hb dX5_read_32 rfl (lv_at hl 1 rfl) ?_
    refine lv_iconst (v := 4) hx hb dX5_read_33 (by decide) ?_
    refine lv_imul hx hb dX5_read_34 ?_
    refine lv_iload_n hx hb dX5_read_35 rfl (lv_at hl 2 rfl) ?_
    refine lv_iadd hx hb dX5_read_36 ?_
    refine x_iald hx hb hK hP 1 rfl rfl h dX5_read_37 (fun v1 h => ?_)
    cases h
    exact x_iret hx hb hr hlocks hK hP hD hS dX5_read_38 rfl rfl
  rw [if_neg q0] at h
  by_cases q1 : p2 = (1 : Int32)
  · subst q1
    rw [if_pos rfl] at h
    refine lv_tableIn (tgt := 39) (off := 38) hx hb dX5_read_1 (by decide) (by decide) rfl (by decide) ?_
    refine lv_aload_n hx hb dX5_read_39 rfl (lv_at hl 0 rfl) ?_
    refine va_get (D := D) (ci := 4) (v := .ref (g 501)) (C := RX5) (T := TX5) (N := 5) hx hb hts ki_X5_read_X5 hown hK hP 0 rfl rfl 1 (by decide) (hts _ k_X5_read_1) (fun _ h9 => h9) rfl dX5_read_40 ?_
    refine lv_iload_n hx hb dX5_read_43 rfl (lv_at hl 1 rfl) ?_
    refine x_iald hx hb hK hP 2 rfl rfl h dX5_read_44 (fun v2 h => ?_)
    cases h
    exact x_iret hx hb hr hlocks hK hP hD hS dX5_read_45 rfl rfl
  rw [if_neg q1] at h
  by_cases q2 : p2 = (2 : Int32)
  · subst q2
    rw [if_pos rfl] at h
    refine lv_tableIn (tgt := 46) (off := 45) hx hb dX5_read_1 (by decide) (by decide) rfl (by decide) ?_
    refine lv_aload_n hx hb dX5_read_46 rfl (lv_at hl 0 rfl) ?_
    refine va_get (D := D) (ci := 4) (v := .ref (g 502)) (C := RX5) (T := TX5) (N := 5) hx hb hts ki_X5_read_X5 hown hK hP 0 rfl rfl 2 (by decide) (hts _ k_X5_read_2) (fun _ h9 => h9) rfl dX5_read_47 ?_
    refine lv_iload_n hx hb dX5_read_50 rfl (lv_at hl 2 rfl) ?_
    refine x_iald hx hb hK hP 3 rfl rfl h dX5_read_51 (fun v3 h => ?_)
    cases h
    exact x_iret hx hb hr hlocks hK hP hD hS dX5_read_52 rfl rfl
  rw [if_neg q2] at h
  refine lv_tableOut (tgt := 53) hx hb dX5_read_1 (sw_out3 q0 q1 q2) (by decide) ?_
  refine lv_aload_n hx hb dX5_read_53 rfl (lv_at hl 0 rfl) ?_
  refine va_get (D := D) (ci := 4) (v := .int (un.1 3)) (C := RX5) (T := TX5) (N := 5) hx hb hts ki_X5_read_X5 hown hK hP 0 rfl rfl 3 (by decide) (hts _ k_X5_read_3) (fun _ h9 => h9) rfl dX5_read_54 ?_
  cases h
  exact x_iret hx hb hr hlocks hK hP hD hS dX5_read_57 rfl rfl
theorem hd_X5_aboveZero : yX5_aboveZero.cls ≠ "java/lang/invoke/MethodHandle" ∧ yX5_aboveZero.cls ≠ "java/lang/invoke/VarHandle" ∧ (parseMethodDescriptor yX5_aboveZero.desc).map (fun d => d.parameters.length) = some 1 := by decide +kernel
set_option maxHeartbeats 4000000 in
set_option maxRecDepth 100000 in
theorem w_X5_aboveZero_30 {p : Program} {l : Launch} {e : Env} {s : State} {m : MethodId} {below : List Frame} {meth : Method} {c : Code} {args : Array Value} {D : va_G} {cy : Nat → ClassId} {A : Nat → Prop} {a0 : Nat} {uf : (Nat → Int32)} {r : Int32} (C0 : Cx p s m meth c args cX5_aboveZero 6 (some .int) wsX5_aboveZero RX5 D cy A) {k_10 : Int32 → Int32 → Int32 → Option (Int32)} (hk_10 : ∀ (l1 : Int32) (l3 : Int32) (l4 : Int32), k_10 l1 l3 l4 = some r → ∀ (H : Heap) (locs : List Loc) (ls : Array Slot), va_P D vwCl (wRw cy a0 4 uf) H → va_D A (wRw cy a0 4 uf) → va_S A s.heap H locs → lv_has ls 6 [(1, .int l1), (2, .ref a0), (3, .int l3), (4, .int l4)] → W p l e (rmH 0) s m args below meth c H locs 0 0 (QI below args s A D cy (wRw cy a0 4 uf) r) (F0 m 10 ls [])) : ∀ (l1 : Int32) (l3 : Int32) (l4 : Int32), f_X5_aboveZero_30 uf k_10 l1 l3 l4 = some r → ∀ (H : Heap) (locs : List Loc) (ls : Array Slot), va_P D vwCl (wRw cy a0 4 uf) H → va_D A (wRw cy a0 4 uf) → va_S A s.heap H locs → lv_has ls 6 [(1, .int l1), (2, .ref a0), (3, .int l3), (4, .int l4)] → W p l e (rmH 0) s m args below meth c H locs 0 0 (QI below args s A D cy (wRw cy a0 4 uf) r) (F0 m 30 ls []) := by
  obtain ⟨hx, hb, hr, hml, hown, hts, hlocks, hK, hA⟩ := id C0
  intro l1 l3 l4 h H locs ls hP hD hS hl
  rw [f_X5_aboveZero_30] at h
  obtain ⟨v3, ev3, h⟩ := nm_ex h
  refine lv_iinc (v := v3) (lv' := [(4, .int v3), (1, .int l1), (2, .ref a0), (3, .int l3)]) hx hb dX5_aboveZero_30 hl (k := 3) rfl (by rw [ev3]; rfl) (by decide) rfl (fun ls hl => ?_)
  clear ev3
  refine lv_goto (tgt := 10) hx hb dX5_aboveZero_33 (by decide) ?_
  exact hk_10 l1 l3 v3 h _ _ ls hP hD hS (lv_sub hl [1, 2, 3, 0] rfl)
set_option maxHeartbeats 4000000 in
set_option maxRecDepth 100000 in
theorem w_X5_aboveZero_10 {p : Program} {l : Launch} {e : Env} {s : State} {m : MethodId} {below : List Frame} {meth : Method} {c : Code} {args : Array Value} {D : va_G} {cy : Nat → ClassId} {A : Nat → Prop} {a0 : Nat} {uf : (Nat → Int32)} {r : Int32} (C0 : Cx p s m meth c args cX5_aboveZero 6 (some .int) wsX5_aboveZero RX5 D cy A) : ∀ (nn : Nat) (l1 : Int32) (l3 : Int32) (l4 : Int32), f_X5_aboveZero_10 uf nn l1 l3 l4 = some r → ∀ (H : Heap) (locs : List Loc) (ls : Array Slot), va_P D vwCl (wRw cy a0 4 uf) H → va_D A (wRw cy a0 4 uf) → va_S A s.heap H locs → lv_has ls 6 [(1, .int l1), (2, .ref a0), (3, .int l3), (4, .int l4)] → W p l e (rmH 0) s m args below meth c H locs 0 0 (QI below args s A D cy (wRw cy a0 4 uf) r) (F0 m 10 ls []) := by
  obtain ⟨hx, hb, hr, hml, hown, hts, hlocks, hK, hA⟩ := id C0
  intro nn
  induction nn with
  | zero => intro l1 l3 l4 h; rw [f_X5_aboveZero_10] at h; cases h
  | succ nn ih =>
    intro l1 l3 l4 h H locs ls hP hD hS hl
    rw [f_X5_aboveZero_10] at h
    refine lv_iload hx hb dX5_aboveZero_10 (lv_at hl 3 rfl) ?_
    refine lv_iload_n hx hb dX5_aboveZero_12 rfl (lv_at hl 2 rfl) ?_
    refine x_icmp_ge (tgt := 36) hx hb dX5_aboveZero_13 (by decide) h (fun _ h => ?_) (fun _ h => ?_)
    · refine lv_iload_n hx hb dX5_aboveZero_36 rfl (lv_at hl 0 rfl) ?_
      cases h
      exact x_iret hx hb hr hlocks hK hP hD hS dX5_aboveZero_37 rfl rfl
    · refine lv_aload_n hx hb dX5_aboveZero_16 rfl (lv_at hl 1 rfl) ?_
      refine lv_iload hx hb dX5_aboveZero_17 (lv_at hl 3 rfl) ?_
      refine x_iald hx hb hK hP 0 rfl rfl h dX5_aboveZero_19 (fun v1 h => ?_)
      refine lv_istore (lv' := [(5, .int v1), (1, .int l1), (2, .ref a0), (3, .int l3), (4, .int l4)]) hx hb dX5_aboveZero_20 hl (by decide) rfl (fun ls hl => ?_)
      refine lv_iload hx hb dX5_aboveZero_22 (lv_at hl 0 rfl) ?_
      refine x_if_le (tgt := 30) hx hb dX5_aboveZero_24 (by decide) h (fun _ h => ?_) (fun _ h => ?_)
      · exact w_X5_aboveZero_30 C0 ih l1 l3 l4 h _ _ ls hP hD hS (lv_sub hl [1, 2, 3, 4] rfl)
      · obtain ⟨v2, ev2, h⟩ := nm_ex h
        refine lv_iinc (v := v2) (lv' := [(1, .int v2), (5, .int v1), (2, .ref a0), (3, .int l3), (4, .int l4)]) hx hb dX5_aboveZero_27 hl (k := 1) rfl (by rw [ev2]; rfl) (by decide) rfl (fun ls hl => ?_)
        clear ev2
        exact w_X5_aboveZero_30 C0 ih v2 l3 l4 h _ _ ls hP hD hS (lv_sub hl [0, 2, 3, 4] rfl)
set_option maxHeartbeats 4000000 in
set_option maxRecDepth 100000 in
theorem c_X5_aboveZero (l : Launch) (D : va_G) (cy : Nat → ClassId) (a0 : Nat) (uf : (Nat → Int32)) (r : Int32) (h : f_X5_aboveZero uf = some r) : CtI l yX5_aboveZero wsX5_aboveZero (rmH 0) [.ref a0] D cy (wRw cy a0 4 uf) (wRw cy a0 4 uf) r := by
  refine ct_enter (D := D) (cy := cy) (cc := cX5_aboveZero) (maxL := 6) (ret := (some .int)) (w := wRw cy a0 4 uf) (Qc := fun sz => va_Qi (fun r' (_ : Unit) => r' = r) (Bw D cy (va_A (wRw cy a0 4 uf) sz) (wRw cy a0 4 uf)) (va_A (wRw cy a0 4 uf) sz)) (by decide) rfl (Nat.le_of_ble_eq_true rfl) ?_
  intro p e s m below meth c A C0 hAe ls hl hP hD hS
  have e1 : MQ below ((fun sz => va_Qi (fun r' (_ : Unit) => r' = r) (Bw D cy (va_A (wRw cy a0 4 uf) sz) (wRw cy a0 4 uf)) (va_A (wRw cy a0 4 uf) sz)) s.heap.size) [.ref a0].toArray s 0 0 A = QI below [.ref a0].toArray s A D cy (wRw cy a0 4 uf) r := by rw [hAe]; rfl
  rw [e1]
  clear e1 hAe
  obtain ⟨hx, hb, hr, hml, hown, hts, hlocks, hK, hA⟩ := id C0
  have hl : lv_has ls 6 [(0, .ref a0)] := hl
  rw [f_X5_aboveZero] at h
  refine lv_iconst (v := 0) hx hb dX5_aboveZero_0 (by decide) ?_
  refine lv_istore_n (lv' := [(1, .int (0 : Int32)), (0, .ref a0)]) hx hb dX5_aboveZero_1 rfl hl (by decide) rfl (fun ls hl => ?_)
  refine lv_aload_n hx hb dX5_aboveZero_2 rfl (lv_at hl 1 rfl) ?_
  refine lv_astore_n (lv' := [(2, .ref a0), (1, .int (0 : Int32)), (0, .ref a0)]) hx hb dX5_aboveZero_3 rfl hl (by decide) rfl (fun ls hl => ?_)
  refine lv_aload_n hx hb dX5_aboveZero_4 rfl (lv_at hl 0 rfl) ?_
  refine va_alen (v := 4) hx hb hK hP 0 0 rfl rfl rfl dX5_aboveZero_5 ?_
  refine lv_istore_n (lv' := [(3, .int (4 : Int32)), (2, .ref a0), (1, .int (0 : Int32)), (0, .ref a0)]) hx hb dX5_aboveZero_6 rfl hl (by decide) rfl (fun ls hl => ?_)
  refine lv_iconst (v := 0) hx hb dX5_aboveZero_7 (by decide) ?_
  refine lv_istore (lv' := [(4, .int (0 : Int32)), (3, .int (4 : Int32)), (2, .ref a0), (1, .int (0 : Int32)), (0, .ref a0)]) hx hb dX5_aboveZero_8 hl (by decide) rfl (fun ls hl => ?_)
  exact w_X5_aboveZero_10 C0 FU (0 : Int32) (4 : Int32) (0 : Int32) h _ _ ls hP hD hS (lv_sub hl [3, 2, 1, 0] rfl)
theorem k_X5_triedHabits_0 : Cond.fieldLink RX5 15 "FeatherHall$Notebook" "withZone" "[I" ∈ wsX5_triedHabits := (List.mem_cons_of_mem _ (List.mem_append_left _ (List.mem_of_getElem? (i := 0) rfl)))
theorem ki_X5_triedHabits_X5 : ∀ w ∈ u_ws RX5 TX5 5, w ∈ wsX5_triedHabits := fun _ hh => (List.mem_cons_of_mem _ (List.mem_append_right _ hh))
theorem k_X5_triedHabits_1 : Cond.fieldLink RX5 18 "FeatherHall$Notebook" "withKind" "[I" ∈ wsX5_triedHabits := (List.mem_cons_of_mem _ (List.mem_append_left _ (List.mem_of_getElem? (i := 1) rfl)))
theorem hd_X5_triedHabits : yX5_triedHabits.cls = RX5 ∧ yX5_triedHabits.cls ≠ "java/lang/invoke/MethodHandle" ∧ yX5_triedHabits.cls ≠ "java/lang/invoke/VarHandle" ∧ (parseMethodDescriptor yX5_triedHabits.desc).map (fun d => d.parameters.length) = some 0 := by decide +kernel
set_option maxHeartbeats 4000000 in
set_option maxRecDepth 100000 in
theorem c_X5_triedHabits (l : Launch) (D : va_G) (cy : Nat → ClassId) (g : Nat → Nat) (un : St) (r : Int32) (h : f_X5_triedHabits un = some r) : CtI l yX5_triedHabits wsX5_triedHabits (rmH 1) [.ref (g 599)] D cy (wX5 cy g un) (wX5 cy g un) r := by
  refine ct_enter (D := D) (cy := cy) (cc := cX5_triedHabits) (maxL := 1) (ret := (some .int)) (w := wX5 cy g un) (Qc := fun sz => va_Qi (fun r' (_ : Unit) => r' = r) (Bw D cy (va_A (wX5 cy g un) sz) (wX5 cy g un)) (va_A (wX5 cy g un) sz)) (by decide) rfl (Nat.le_of_ble_eq_true rfl) ?_
  intro p e s m below meth c A C0 hAe ls hl hP hD hS
  have e1 : MQ below ((fun sz => va_Qi (fun r' (_ : Unit) => r' = r) (Bw D cy (va_A (wX5 cy g un) sz) (wX5 cy g un)) (va_A (wX5 cy g un) sz)) s.heap.size) [.ref (g 599)].toArray s 0 0 A = QI below [.ref (g 599)].toArray s A D cy (wX5 cy g un) r := by rw [hAe]; rfl
  rw [e1]
  clear e1 hAe
  obtain ⟨hx, hb, hr, hml, hown, hts, hlocks, hK, hA⟩ := id C0
  have hl : lv_has ls 1 [(0, .ref (g 599))] := hl
  rw [f_X5_triedHabits] at h
  refine lv_aload_n hx hb dX5_triedHabits_0 rfl (lv_at hl 0 rfl) ?_
  refine va_get (D := D) (ci := 4) (v := .ref (g 501)) (C := RX5) (T := TX5) (N := 5) hx hb hts ki_X5_triedHabits_X5 hown hK hP 0 rfl rfl 1 (by decide) (hts _ k_X5_triedHabits_0) (fun _ h9 => h9) rfl dX5_triedHabits_1 ?_
  obtain ⟨r1, e2, h⟩ := bd_some h
  refine x_callSI (As := [.ref (g 501)]) (rest := []) (n := 1) ⟨hx, hb, hml, hown, hts⟩ (c_X5_aboveZero l D cy (g 501) (un.2.1 1) r1 e2) gX5_triedHabits_X5_aboveZero rfl hd_X5_aboveZero ⟨Nat.le_of_ble_eq_true rfl, Nat.le_of_ble_eq_true rfl⟩ ⟨rfl, rfl⟩ hK (sp5_1 cy g un) (sp5_1 cy g un) hP hD hS hA rfl hl.1 rfl (Nat.le_of_ble_eq_true rfl) dX5_triedHabits_4 ⟨Nat.zero_le _, Nat.zero_le _⟩ (fun H locs hP hD hS => ?_)
  clear e2
  refine lv_aload_n hx hb dX5_triedHabits_7 rfl (lv_at hl 0 rfl) ?_
  refine va_get (D := D) (ci := 4) (v := .ref (g 502)) (C := RX5) (T := TX5) (N := 5) hx hb hts ki_X5_triedHabits_X5 hown hK hP 0 rfl rfl 2 (by decide) (hts _ k_X5_triedHabits_1) (fun _ h9 => h9) rfl dX5_triedHabits_8 ?_
  obtain ⟨r3, e4, h⟩ := bd_some h
  refine x_callSI (As := [.ref (g 502)]) (rest := [.int r1]) (n := 1) ⟨hx, hb, hml, hown, hts⟩ (c_X5_aboveZero l D cy (g 502) (un.2.1 2) r3 e4) gX5_triedHabits_X5_aboveZero rfl hd_X5_aboveZero ⟨Nat.le_of_ble_eq_true rfl, Nat.le_of_ble_eq_true rfl⟩ ⟨rfl, rfl⟩ hK (sp5_2 cy g un) (sp5_2 cy g un) hP hD hS hA rfl hl.1 rfl (Nat.le_of_ble_eq_true rfl) dX5_triedHabits_11 ⟨Nat.zero_le _, Nat.zero_le _⟩ (fun H locs hP hD hS => ?_)
  clear e4
  refine lv_imul hx hb dX5_triedHabits_14 ?_
  cases h
  exact x_iret hx hb hr hlocks hK hP hD hS dX5_triedHabits_15 rfl rfl
theorem k_X5_ways_0 : Cond.methodLink RX5 42 Lib.Math.min.name ∈ wsX5_ways := (List.mem_cons_of_mem _ (List.mem_of_getElem? (i := 0) rfl))
theorem k_X5_ways_1 : Cond.static Lib.Math.min.name ∈ wsX5_ways := (List.mem_cons_of_mem _ (List.mem_of_getElem? (i := 1) rfl))
theorem k_X5_ways_2 : Cond.initialized "java/lang/Math" ∈ wsX5_ways := (List.mem_cons_of_mem _ (List.mem_of_getElem? (i := 2) rfl))
theorem k_X5_ways_3 : Cond.code Lib.Math.min.name Lib.Math.min.code 2 (some .int) ∈ wsX5_ways := (List.mem_cons_of_mem _ (List.mem_of_getElem? (i := 3) rfl))
theorem hd_X5_ways : yX5_ways.cls ≠ "java/lang/invoke/MethodHandle" ∧ yX5_ways.cls ≠ "java/lang/invoke/VarHandle" ∧ (parseMethodDescriptor yX5_ways.desc).map (fun d => d.parameters.length) = some 2 := by decide +kernel
set_option maxHeartbeats 4000000 in
set_option maxRecDepth 100000 in
theorem w_X5_ways_24 {p : Program} {l : Launch} {e : Env} {s : State} {m : MethodId} {below : List Frame} {meth : Method} {c : Code} {args : Array Value} {D : va_G} {cy : Nat → ClassId} {A : Nat → Prop} {r : Int64} (C0 : Cx p s m meth c args cX5_ways 6 (some .long) wsX5_ways RX5 D cy A) : ∀ (nn : Nat) (l0 : Int32) (l2 : Int32) (l3 : Int64) (l5 : Int32), f_X5_ways_24 nn l0 l2 l3 l5 = some r → ∀ (H : Heap) (locs : List Loc) (ls : Array Slot), va_P D vwCl (([] : va_W)) H → va_D A (([] : va_W)) → va_S A s.heap H locs → lv_has ls 6 [(0, .int l0), (2, .int l2), (3, .long l3), (5, .int l5)] → W p l e (rmH 1) s m args below meth c H locs 0 0 (QL below args s A D cy (([] : va_W)) r) (F0 m 24 ls []) := by
  obtain ⟨hx, hb, hr, hml, hown, hts, hlocks, hK, hA⟩ := id C0
  intro nn
  induction nn with
  | zero => intro l0 l2 l3 l5 h; rw [f_X5_ways_24] at h; cases h
  | succ nn ih =>
    intro l0 l2 l3 l5 h H locs ls hP hD hS hl
    rw [f_X5_ways_24] at h
    refine lv_iload hx hb dX5_ways_24 (lv_at hl 3 rfl) ?_
    refine lv_iload_n hx hb dX5_ways_26 rfl (lv_at hl 1 rfl) ?_
    refine x_icmp_gt (tgt := 50) hx hb dX5_ways_27 (by decide) h (fun _ h => ?_) (fun _ h => ?_)
    · refine lv_lload_n hx hb dX5_ways_50 rfl (lv_at hl 2 rfl) ?_
      cases h
      exact x_lret hx hb hr hlocks hK hP hD hS dX5_ways_51 rfl rfl
    · refine lv_lload_n hx hb dX5_ways_30 rfl (lv_at hl 2 rfl) ?_
      refine lv_iload_n hx hb dX5_ways_31 rfl (lv_at hl 0 rfl) ?_
      refine lv_iload_n hx hb dX5_ways_32 rfl (lv_at hl 1 rfl) ?_
      refine lv_isub hx hb dX5_ways_33 ?_
      refine lv_iload hx hb dX5_ways_34 (lv_at hl 3 rfl) ?_
      refine lv_iadd hx hb dX5_ways_36 ?_
      refine lv_i2l hx hb dX5_ways_37 rfl ?_
      refine lv_lmul hx hb dX5_ways_38 ?_
      refine lv_iload hx hb dX5_ways_39 (lv_at hl 3 rfl) ?_
      refine lv_i2l hx hb dX5_ways_41 rfl ?_
      refine x_nml h (fun v3 h => ?_)
      refine x_ldiv hx hb dX5_ways_42 h (fun h => ?_)
      refine x_nml h (fun v4 h => ?_)
      refine lv_lstore_n (lv' := [(3, .long v4), (0, .int l0), (2, .int l2), (5, .int l5)]) hx hb dX5_ways_43 rfl hl (by decide) rfl (fun ls hl => ?_)
      obtain ⟨v5, ev5, h⟩ := nm_ex h
      refine lv_iinc (v := v5) (lv' := [(5, .int v5), (3, .long v4), (0, .int l0), (2, .int l2)]) hx hb dX5_ways_44 hl (k := 3) rfl (by rw [ev5]; rfl) (by decide) rfl (fun ls hl => ?_)
      clear ev5
      refine lv_goto (tgt := 24) hx hb dX5_ways_47 (by decide) ?_
      exact ih l0 l2 v4 v5 h _ _ ls hP hD hS (lv_sub hl [2, 3, 1, 0] rfl)
set_option maxHeartbeats 4000000 in
set_option maxRecDepth 100000 in
theorem c_X5_ways (l : Launch) (D : va_G) (cy : Nat → ClassId) (p0 : Int32) (p1 : Int32) (r : Int64) (h : f_X5_ways p0 p1 = some r) : CtL l yX5_ways wsX5_ways (rmH 1) [.int p0, .int p1] D cy (([] : va_W)) (([] : va_W)) r := by
  refine ct_enter (D := D) (cy := cy) (cc := cX5_ways) (maxL := 6) (ret := (some .long)) (w := ([] : va_W)) (Qc := fun sz => va_Ql (fun r' (_ : Unit) => r' = r) (Bw D cy (va_A (([] : va_W)) sz) (([] : va_W))) (va_A (([] : va_W)) sz)) (by decide) rfl (Nat.le_of_ble_eq_true rfl) ?_
  intro p e s m below meth c A C0 hAe ls hl hP hD hS
  have e1 : MQ below ((fun sz => va_Ql (fun r' (_ : Unit) => r' = r) (Bw D cy (va_A (([] : va_W)) sz) (([] : va_W))) (va_A (([] : va_W)) sz)) s.heap.size) [.int p0, .int p1].toArray s 0 0 A = QL below [.int p0, .int p1].toArray s A D cy (([] : va_W)) r := by rw [hAe]; rfl
  rw [e1]
  clear e1 hAe
  obtain ⟨hx, hb, hr, hml, hown, hts, hlocks, hK, hA⟩ := id C0
  have hl : lv_has ls 6 [(0, .int p0), (1, .int p1)] := hl
  rw [f_X5_ways] at h
  refine lv_iload_n hx hb dX5_ways_0 rfl (lv_at hl 1 rfl) ?_
  refine x_if_lt (tgt := 9) hx hb dX5_ways_1 (by decide) h (fun _ h => ?_) (fun _ h => ?_)
  · refine lv_lconst (v := 0) hx hb dX5_ways_9 (by decide) ?_
    cases h
    exact x_lret hx hb hr hlocks hK hP hD hS dX5_ways_10 rfl rfl
  · refine lv_iload_n hx hb dX5_ways_4 rfl (lv_at hl 1 rfl) ?_
    refine lv_iload_n hx hb dX5_ways_5 rfl (lv_at hl 0 rfl) ?_
    refine x_icmp_le (tgt := 11) hx hb dX5_ways_6 (by decide) h (fun _ h => ?_) (fun _ h => ?_)
    · refine lv_iload_n hx hb dX5_ways_11 rfl (lv_at hl 1 rfl) ?_
      refine lv_iload_n hx hb dX5_ways_12 rfl (lv_at hl 0 rfl) ?_
      refine lv_iload_n hx hb dX5_ways_13 rfl (lv_at hl 1 rfl) ?_
      refine lv_isub hx hb dX5_ways_14 ?_
      refine x_nm h (fun v1 h => ?_)
      refine va_mmin hx hb (hml.trans hl.1.symm) hown (hts _ k_X5_ways_0) (hts _ k_X5_ways_1) (hts _ k_X5_ways_2) (hts _ k_X5_ways_3) (Nat.le_of_ble_eq_true rfl) (Nat.le_of_ble_eq_true rfl) (Nat.zero_le _) (Nat.zero_le _) dX5_ways_15 ?_
      refine x_nm h (fun v2 h => ?_)
      refine lv_istore_n (lv' := [(2, .int v2), (0, .int p0), (1, .int p1)]) hx hb dX5_ways_18 rfl hl (by decide) rfl (fun ls hl => ?_)
      refine lv_lconst (v := 1) hx hb dX5_ways_19 (by decide) ?_
      refine lv_lstore_n (lv' := [(3, .long (1 : Int64)), (2, .int v2), (0, .int p0), (1, .int p1)]) hx hb dX5_ways_20 rfl hl (by decide) rfl (fun ls hl => ?_)
      refine lv_iconst (v := 1) hx hb dX5_ways_21 (by decide) ?_
      refine lv_istore (lv' := [(5, .int (1 : Int32)), (3, .long (1 : Int64)), (2, .int v2), (0, .int p0), (1, .int p1)]) hx hb dX5_ways_22 hl (by decide) rfl (fun ls hl => ?_)
      exact w_X5_ways_24 C0 FU p0 v2 (1 : Int64) (1 : Int32) h _ _ ls hP hD hS (lv_sub hl [3, 2, 1, 0] rfl)
    · refine lv_lconst (v := 0) hx hb dX5_ways_9 (by decide) ?_
      cases h
      exact x_lret hx hb hr hlocks hK hP hD hS dX5_ways_10 rfl rfl
theorem k_X5_isPastChance_0 : Cond.fieldLink RX5 15 "FeatherHall$Notebook" "withZone" "[I" ∈ wsX5_isPastChance := (List.mem_cons_of_mem _ (List.mem_append_left _ (List.mem_of_getElem? (i := 0) rfl)))
theorem ki_X5_isPastChance_X5 : ∀ w ∈ u_ws RX5 TX5 5, w ∈ wsX5_isPastChance := fun _ hh => (List.mem_cons_of_mem _ (List.mem_append_right _ hh))
theorem k_X5_isPastChance_1 : Cond.fieldLink RX5 18 "FeatherHall$Notebook" "withKind" "[I" ∈ wsX5_isPastChance := (List.mem_cons_of_mem _ (List.mem_append_left _ (List.mem_of_getElem? (i := 1) rfl)))
theorem k_X5_isPastChance_2 : Cond.fieldLink RX5 21 "FeatherHall$Notebook" "withoutGap" "I" ∈ wsX5_isPastChance := (List.mem_cons_of_mem _ (List.mem_append_left _ (List.mem_of_getElem? (i := 2) rfl)))
theorem k_X5_isPastChance_3 : Cond.constantLong RX5 40 (20) ∈ wsX5_isPastChance := (List.mem_cons_of_mem _ (List.mem_append_left _ (List.mem_of_getElem? (i := 3) rfl)))
theorem k_X5_isPastChance_4 : Cond.methodLink RX5 42 Lib.Math.min.name ∈ wsX5_isPastChance := (List.mem_cons_of_mem _ (List.mem_append_left _ (List.mem_of_getElem? (i := 4) rfl)))
theorem k_X5_isPastChance_5 : Cond.static Lib.Math.min.name ∈ wsX5_isPastChance := (List.mem_cons_of_mem _ (List.mem_append_left _ (List.mem_of_getElem? (i := 5) rfl)))
theorem k_X5_isPastChance_6 : Cond.initialized "java/lang/Math" ∈ wsX5_isPastChance := (List.mem_cons_of_mem _ (List.mem_append_left _ (List.mem_of_getElem? (i := 6) rfl)))
theorem k_X5_isPastChance_7 : Cond.code Lib.Math.min.name Lib.Math.min.code 2 (some .int) ∈ wsX5_isPastChance := (List.mem_cons_of_mem _ (List.mem_append_left _ (List.mem_of_getElem? (i := 7) rfl)))
theorem k_X5_isPastChance_8 : Cond.fieldLink RX5 9 "FeatherHall$Notebook" "both" "[I" ∈ wsX5_isPastChance := (List.mem_cons_of_mem _ (List.mem_append_left _ (List.mem_of_getElem? (i := 8) rfl)))
theorem hd_X5_isPastChance : yX5_isPastChance.cls = RX5 ∧ yX5_isPastChance.cls ≠ "java/lang/invoke/MethodHandle" ∧ yX5_isPastChance.cls ≠ "java/lang/invoke/VarHandle" ∧ (parseMethodDescriptor yX5_isPastChance.desc).map (fun d => d.parameters.length) = some 2 := by decide +kernel
set_option maxHeartbeats 4000000 in
set_option maxRecDepth 100000 in
theorem w_X5_isPastChance_122 {p : Program} {l : Launch} {e : Env} {s : State} {m : MethodId} {below : List Frame} {meth : Method} {c : Code} {args : Array Value} {D : va_G} {cy : Nat → ClassId} {g : Nat → Nat} {A : Nat → Prop} {un : St} {r : Int32} (C0 : Cx p s m meth c args cX5_isPastChance 11 (some .boolean) wsX5_isPastChance RX5 D cy A) : ∀ (l6 : Int64) (l8 : Int64), f_X5_isPastChance_122 un l6 l8 = some r → ∀ (H : Heap) (locs : List Loc) (ls : Array Slot), va_P D vwCl (wX5 cy g un) H → va_D A (wX5 cy g un) → va_S A s.heap H locs → lv_has ls 11 [(6, .long l6), (8, .long l8)] → W p l e (rmH 2) s m args below meth c H locs 0 0 (QI below args s A D cy (wX5 cy g un) r) (F0 m 122 ls []) := by
  obtain ⟨hx, hb, hr, hml, hown, hts, hlocks, hK, hA⟩ := id C0
  intro l6 l8 h H locs ls hP hD hS hl
  rw [f_X5_isPastChance_122] at h
  refine lv_lload hx hb dX5_isPastChance_122 (lv_at hl 1 rfl) ?_
  refine lv_lload hx hb dX5_isPastChance_124 (lv_at hl 0 rfl) ?_
  refine W.lcmp hx hb dX5_isPastChance_126 ?_
  refine x_if_gt (tgt := 134) hx hb dX5_isPastChance_127 (by decide) h (fun _ h => ?_) (fun _ h => ?_)
  · refine lv_iconst (v := 0) hx hb dX5_isPastChance_134 (by decide) ?_
    cases h
    exact x_zret hx hb hr hlocks hK hP hD hS (Or.inl rfl) dX5_isPastChance_135 rfl rfl
  · refine lv_iconst (v := 1) hx hb dX5_isPastChance_130 (by decide) ?_
    refine lv_goto (tgt := 135) hx hb dX5_isPastChance_131 (by decide) ?_
    cases h
    exact x_zret hx hb hr hlocks hK hP hD hS (Or.inr rfl) dX5_isPastChance_135 rfl rfl
set_option maxHeartbeats 4000000 in
set_option maxRecDepth 100000 in
theorem w_X5_isPastChance_66 {p : Program} {l : Launch} {e : Env} {s : State} {m : MethodId} {below : List Frame} {meth : Method} {c : Code} {args : Array Value} {D : va_G} {cy : Nat → ClassId} {g : Nat → Nat} {A : Nat → Prop} {un : St} {r : Int32} (C0 : Cx p s m meth c args cX5_isPastChance 11 (some .boolean) wsX5_isPastChance RX5 D cy A) : ∀ (nn : Nat) (l1 : Int32) (l2 : Int32) (l3 : Int32) (l4 : Int32) (l6 : Int64) (l8 : Int64) (l10 : Int32), f_X5_isPastChance_66 un nn l1 l2 l3 l4 l6 l8 l10 = some r → ∀ (H : Heap) (locs : List Loc) (ls : Array Slot), va_P D vwCl (wX5 cy g un) H → va_D A (wX5 cy g un) → va_S A s.heap H locs → lv_has ls 11 [(0, .ref (g 599)), (1, .int l1), (2, .int l2), (3, .int l3), (4, .int l4), (6, .long l6), (8, .long l8), (10, .int l10)] → W p l e (rmH 2) s m args below meth c H locs 0 0 (QI below args s A D cy (wX5 cy g un) r) (F0 m 66 ls []) := by
  obtain ⟨hx, hb, hr, hml, hown, hts, hlocks, hK, hA⟩ := id C0
  intro nn
  induction nn with
  | zero => intro l1 l2 l3 l4 l6 l8 l10 h; rw [f_X5_isPastChance_66] at h; cases h
  | succ nn ih =>
    intro l1 l2 l3 l4 l6 l8 l10 h H locs ls hP hD hS hl
    rw [f_X5_isPastChance_66] at h
    refine lv_iload hx hb dX5_isPastChance_66 (lv_at hl 7 rfl) ?_
    refine lv_aload_n hx hb dX5_isPastChance_68 rfl (lv_at hl 0 rfl) ?_
    refine va_get (D := D) (ci := 4) (v := .ref (g 500)) (C := RX5) (T := TX5) (N := 5) hx hb hts ki_X5_isPastChance_X5 hown hK hP 0 rfl rfl 0 (by decide) (hts _ k_X5_isPastChance_8) (fun _ h9 => h9) rfl dX5_isPastChance_69 ?_
    refine lv_iload_n hx hb dX5_isPastChance_72 rfl (lv_at hl 1 rfl) ?_
    refine lv_iconst (v := 4) hx hb dX5_isPastChance_73 (by decide) ?_
    refine lv_imul hx hb dX5_isPastChance_74 ?_
    refine lv_iload_n hx hb dX5_isPastChance_75 rfl (lv_at hl 2 rfl) ?_
    refine lv_iadd hx hb dX5_isPastChance_76 ?_
    refine x_iald hx hb hK hP 1 rfl rfl h dX5_isPastChance_77 (fun v10 h => ?_)
    refine x_icmp_lt (tgt := 122) hx hb dX5_isPastChance_78 (by decide) h (fun _ h => ?_) (fun _ h => ?_)
    · exact w_X5_isPastChance_122 C0 l6 l8 h _ _ ls hP hD hS (lv_sub hl [5, 6] rfl)
    · refine lv_lload hx hb dX5_isPastChance_81 (lv_at hl 6 rfl) ?_
      refine lv_lload hx hb dX5_isPastChance_83 (lv_at hl 5 rfl) ?_
      refine W.lcmp hx hb dX5_isPastChance_85 ?_
      refine x_if_gt (tgt := 122) hx hb dX5_isPastChance_86 (by decide) h (fun _ h => ?_) (fun _ h => ?_)
      · exact w_X5_isPastChance_122 C0 l6 l8 h _ _ ls hP hD hS (lv_sub hl [5, 6] rfl)
      · refine lv_lload hx hb dX5_isPastChance_89 (lv_at hl 6 rfl) ?_
        refine lv_iload hx hb dX5_isPastChance_91 (lv_at hl 4 rfl) ?_
        refine lv_iload hx hb dX5_isPastChance_93 (lv_at hl 7 rfl) ?_
        obtain ⟨r11, e12, h⟩ := bd_some h
        refine x_callSL (As := [.int l4, .int l10]) (rest := [.long l8]) (n := 2) ⟨hx, hb, hml, hown, hts⟩ (c_X5_ways l D cy  l4 l10 r11 e12) gX5_isPastChance_X5_ways rfl hd_X5_ways ⟨Nat.le_of_ble_eq_true rfl, Nat.le_of_ble_eq_true rfl⟩ ⟨rfl, rfl⟩ hK (sp_nil _) (sp_nil _) hP hD hS hA rfl hl.1 rfl (Nat.le_of_ble_eq_true rfl) dX5_isPastChance_95 ⟨Nat.zero_le _, Nat.zero_le _⟩ (fun H locs hP hD hS => ?_)
        clear e12
        refine lv_aload_n hx hb dX5_isPastChance_98 rfl (lv_at hl 0 rfl) ?_
        refine va_get (D := D) (ci := 4) (v := .int (un.1 3)) (C := RX5) (T := TX5) (N := 5) hx hb hts ki_X5_isPastChance_X5 hown hK hP 0 rfl rfl 3 (by decide) (hts _ k_X5_isPastChance_2) (fun _ h9 => h9) rfl dX5_isPastChance_99 ?_
        refine lv_iload hx hb dX5_isPastChance_102 (lv_at hl 4 rfl) ?_
        refine lv_isub hx hb dX5_isPastChance_104 ?_
        refine lv_iload_n hx hb dX5_isPastChance_105 rfl (lv_at hl 3 rfl) ?_
        refine lv_iload hx hb dX5_isPastChance_106 (lv_at hl 7 rfl) ?_
        refine lv_isub hx hb dX5_isPastChance_108 ?_
        obtain ⟨r13, e14, h⟩ := bd_some h
        refine x_callSL (As := [.int ((un.1 3) - l4), .int (l3 - l10)]) (rest := [.long r11, .long l8]) (n := 2) ⟨hx, hb, hml, hown, hts⟩ (c_X5_ways l D cy  ((un.1 3) - l4) (l3 - l10) r13 e14) gX5_isPastChance_X5_ways rfl hd_X5_ways ⟨Nat.le_of_ble_eq_true rfl, Nat.le_of_ble_eq_true rfl⟩ ⟨rfl, rfl⟩ hK (sp_nil _) (sp_nil _) hP hD hS hA rfl hl.1 rfl (Nat.le_of_ble_eq_true rfl) dX5_isPastChance_109 ⟨Nat.zero_le _, Nat.zero_le _⟩ (fun H locs hP hD hS => ?_)
        clear e14
        refine lv_lmul hx hb dX5_isPastChance_112 ?_
        refine lv_ladd hx hb dX5_isPastChance_113 ?_
        refine x_nml h (fun v15 h => ?_)
        refine lv_lstore (lv' := [(8, .long v15), (0, .ref (g 599)), (1, .int l1), (2, .int l2), (3, .int l3), (4, .int l4), (6, .long l6), (10, .int l10)]) hx hb dX5_isPastChance_114 hl (by decide) rfl (fun ls hl => ?_)
        obtain ⟨v16, ev16, h⟩ := nm_ex h
        refine lv_iinc (v := v16) (lv' := [(10, .int v16), (8, .long v15), (0, .ref (g 599)), (1, .int l1), (2, .int l2), (3, .int l3), (4, .int l4), (6, .long l6)]) hx hb dX5_isPastChance_116 hl (k := 7) rfl (by rw [ev16]; rfl) (by decide) rfl (fun ls hl => ?_)
        clear ev16
        refine lv_goto (tgt := 66) hx hb dX5_isPastChance_119 (by decide) ?_
        exact ih l1 l2 l3 l4 l6 v15 v16 h _ _ ls hP hD hS (lv_sub hl [2, 3, 4, 5, 6, 7, 1, 0] rfl)
set_option maxHeartbeats 4000000 in
set_option maxRecDepth 100000 in
theorem c_X5_isPastChance (l : Launch) (D : va_G) (cy : Nat → ClassId) (g : Nat → Nat) (un : St) (p0 : Int32) (p1 : Int32) (r : Int32) (h : f_X5_isPastChance un p0 p1 = some r) : CtI l yX5_isPastChance wsX5_isPastChance (rmH 2) [.ref (g 599), .int p0, .int p1] D cy (wX5 cy g un) (wX5 cy g un) r := by
  refine ct_enter (D := D) (cy := cy) (cc := cX5_isPastChance) (maxL := 11) (ret := (some .boolean)) (w := wX5 cy g un) (Qc := fun sz => va_Qi (fun r' (_ : Unit) => r' = r) (Bw D cy (va_A (wX5 cy g un) sz) (wX5 cy g un)) (va_A (wX5 cy g un) sz)) (by decide) rfl (Nat.le_of_ble_eq_true rfl) ?_
  intro p e s m below meth c A C0 hAe ls hl hP hD hS
  have e1 : MQ below ((fun sz => va_Qi (fun r' (_ : Unit) => r' = r) (Bw D cy (va_A (wX5 cy g un) sz) (wX5 cy g un)) (va_A (wX5 cy g un) sz)) s.heap.size) [.ref (g 599), .int p0, .int p1].toArray s 0 0 A = QI below [.ref (g 599), .int p0, .int p1].toArray s A D cy (wX5 cy g un) r := by rw [hAe]; rfl
  rw [e1]
  clear e1 hAe
  obtain ⟨hx, hb, hr, hml, hown, hts, hlocks, hK, hA⟩ := id C0
  have hl : lv_has ls 11 [(0, .ref (g 599)), (1, .int p0), (2, .int p1)] := hl
  rw [f_X5_isPastChance] at h
  refine lv_aload_n hx hb dX5_isPastChance_0 rfl (lv_at hl 0 rfl) ?_
  refine va_get (D := D) (ci := 4) (v := .ref (g 501)) (C := RX5) (T := TX5) (N := 5) hx hb hts ki_X5_isPastChance_X5 hown hK hP 0 rfl rfl 1 (by decide) (hts _ k_X5_isPastChance_0) (fun _ h9 => h9) rfl dX5_isPastChance_1 ?_
  refine lv_iload_n hx hb dX5_isPastChance_4 rfl (lv_at hl 1 rfl) ?_
  refine x_iald hx hb hK hP 2 rfl rfl h dX5_isPastChance_5 (fun v1 h => ?_)
  refine lv_istore_n (lv' := [(3, .int v1), (0, .ref (g 599)), (1, .int p0), (2, .int p1)]) hx hb dX5_isPastChance_6 rfl hl (by decide) rfl (fun ls hl => ?_)
  refine lv_aload_n hx hb dX5_isPastChance_7 rfl (lv_at hl 1 rfl) ?_
  refine va_get (D := D) (ci := 4) (v := .ref (g 502)) (C := RX5) (T := TX5) (N := 5) hx hb hts ki_X5_isPastChance_X5 hown hK hP 0 rfl rfl 2 (by decide) (hts _ k_X5_isPastChance_1) (fun _ h9 => h9) rfl dX5_isPastChance_8 ?_
  refine lv_iload_n hx hb dX5_isPastChance_11 rfl (lv_at hl 3 rfl) ?_
  refine x_iald hx hb hK hP 3 rfl rfl h dX5_isPastChance_12 (fun v2 h => ?_)
  refine lv_istore (lv' := [(4, .int v2), (3, .int v1), (0, .ref (g 599)), (1, .int p0), (2, .int p1)]) hx hb dX5_isPastChance_13 hl (by decide) rfl (fun ls hl => ?_)
  refine lv_aload_n hx hb dX5_isPastChance_15 rfl (lv_at hl 2 rfl) ?_
  obtain ⟨r3, e4, h⟩ := bd_some h
  refine x_callVI (As := []) (rest := []) (n := 0) ⟨hx, hb, hml, hown, hts⟩ (c_X5_triedHabits l D cy g un r3 e4) gX5_isPastChance_X5_triedHabits rfl hd_X5_triedHabits ⟨Nat.le_of_ble_eq_true rfl, Nat.le_of_ble_eq_true rfl⟩ ⟨rfl, rfl⟩ hK (sp_all _) (sp_all _) hP hD hS hA 0 rfl rfl rfl hl.1 rfl (Nat.le_of_ble_eq_true rfl) dX5_isPastChance_16 ⟨Nat.zero_le _, Nat.zero_le _⟩ (fun H locs hP hD hS => ?_)
  clear e4
  refine lv_istore (lv' := [(5, .int r3), (4, .int v2), (3, .int v1), (0, .ref (g 599)), (1, .int p0), (2, .int p1)]) hx hb dX5_isPastChance_19 hl (by decide) rfl (fun ls hl => ?_)
  refine lv_iload_n hx hb dX5_isPastChance_21 rfl (lv_at hl 2 rfl) ?_
  refine x_if_eq (tgt := 35) hx hb dX5_isPastChance_22 (by decide) h (fun _ h => ?_) (fun _ h => ?_)
  · refine lv_iconst (v := 0) hx hb dX5_isPastChance_35 (by decide) ?_
    cases h
    exact x_zret hx hb hr hlocks hK hP hD hS (Or.inl rfl) dX5_isPastChance_36 rfl rfl
  · refine lv_iload hx hb dX5_isPastChance_25 (lv_at hl 1 rfl) ?_
    refine x_if_eq (tgt := 35) hx hb dX5_isPastChance_27 (by decide) h (fun _ h => ?_) (fun _ h => ?_)
    · refine lv_iconst (v := 0) hx hb dX5_isPastChance_35 (by decide) ?_
      cases h
      exact x_zret hx hb hr hlocks hK hP hD hS (Or.inl rfl) dX5_isPastChance_36 rfl rfl
    · refine lv_iload hx hb dX5_isPastChance_30 (lv_at hl 0 rfl) ?_
      refine x_if_ne (tgt := 37) hx hb dX5_isPastChance_32 (by decide) h (fun _ h => ?_) (fun _ h => ?_)
      · refine lv_iconst (v := 0) hx hb dX5_isPastChance_35 (by decide) ?_
        cases h
        exact x_zret hx hb hr hlocks hK hP hD hS (Or.inl rfl) dX5_isPastChance_36 rfl rfl
      · refine lv_aload_n hx hb dX5_isPastChance_37 rfl (lv_at hl 3 rfl) ?_
        refine va_get (D := D) (ci := 4) (v := .int (un.1 3)) (C := RX5) (T := TX5) (N := 5) hx hb hts ki_X5_isPastChance_X5 hown hK hP 0 rfl rfl 3 (by decide) (hts _ k_X5_isPastChance_2) (fun _ h9 => h9) rfl dX5_isPastChance_38 ?_
        refine lv_iload_n hx hb dX5_isPastChance_41 rfl (lv_at hl 2 rfl) ?_
        obtain ⟨r5, e6, h⟩ := bd_some h
        refine x_callSL (As := [.int (un.1 3), .int v1]) (rest := []) (n := 2) ⟨hx, hb, hml, hown, hts⟩ (c_X5_ways l D cy  (un.1 3) v1 r5 e6) gX5_isPastChance_X5_ways rfl hd_X5_ways ⟨Nat.le_of_ble_eq_true rfl, Nat.le_of_ble_eq_true rfl⟩ ⟨rfl, rfl⟩ hK (sp_nil _) (sp_nil _) hP hD hS hA rfl hl.1 rfl (Nat.le_of_ble_eq_true rfl) dX5_isPastChance_42 ⟨Nat.zero_le _, Nat.zero_le _⟩ (fun H locs hP hD hS => ?_)
        clear e6
        refine lv_ldc2 hx hb hown (hts _ k_X5_isPastChance_3) dX5_isPastChance_45 ?_
        refine lv_iload hx hb dX5_isPastChance_48 (lv_at hl 0 rfl) ?_
        refine lv_i2l hx hb dX5_isPastChance_50 rfl ?_
        refine lv_lmul hx hb dX5_isPastChance_51 ?_
        refine x_nml h (fun v7 h => ?_)
        refine x_ldiv hx hb dX5_isPastChance_52 h (fun h => ?_)
        refine x_nml h (fun v8 h => ?_)
        refine lv_lstore (lv' := [(6, .long v8), (5, .int r3), (4, .int v2), (3, .int v1), (0, .ref (g 599)), (1, .int p0), (2, .int p1)]) hx hb dX5_isPastChance_53 hl (by decide) rfl (fun ls hl => ?_)
        refine lv_lconst (v := 0) hx hb dX5_isPastChance_55 (by decide) ?_
        refine lv_lstore (lv' := [(8, .long (0 : Int64)), (6, .long v8), (5, .int r3), (4, .int v2), (3, .int v1), (0, .ref (g 599)), (1, .int p0), (2, .int p1)]) hx hb dX5_isPastChance_56 hl (by decide) rfl (fun ls hl => ?_)
        refine lv_iload_n hx hb dX5_isPastChance_58 rfl (lv_at hl 4 rfl) ?_
        refine lv_iload hx hb dX5_isPastChance_59 (lv_at hl 3 rfl) ?_
        refine va_mmin hx hb (hml.trans hl.1.symm) hown (hts _ k_X5_isPastChance_4) (hts _ k_X5_isPastChance_5) (hts _ k_X5_isPastChance_6) (hts _ k_X5_isPastChance_7) (Nat.le_of_ble_eq_true rfl) (Nat.le_of_ble_eq_true rfl) (Nat.zero_le _) (Nat.zero_le _) dX5_isPastChance_61 ?_
        refine x_nm h (fun v9 h => ?_)
        refine lv_istore (lv' := [(10, .int v9), (8, .long (0 : Int64)), (6, .long v8), (5, .int r3), (4, .int v2), (3, .int v1), (0, .ref (g 599)), (1, .int p0), (2, .int p1)]) hx hb dX5_isPastChance_64 hl (by decide) rfl (fun ls hl => ?_)
        exact w_X5_isPastChance_66 C0 FU p0 p1 v1 v2 v8 (0 : Int64) v9 h _ _ ls hP hD hS (lv_sub hl [6, 7, 8, 5, 4, 2, 1, 0] rfl)
theorem k_X5_strongestHabit_0 : Cond.fieldLink RX5 9 "FeatherHall$Notebook" "both" "[I" ∈ wsX5_strongestHabit := (List.mem_cons_of_mem _ (List.mem_append_left _ (List.mem_of_getElem? (i := 0) rfl)))
theorem ki_X5_strongestHabit_X5 : ∀ w ∈ u_ws RX5 TX5 5, w ∈ wsX5_strongestHabit := fun _ hh => (List.mem_cons_of_mem _ (List.mem_append_right _ hh))
theorem k_X5_strongestHabit_1 : Cond.fieldLink RX5 15 "FeatherHall$Notebook" "withZone" "[I" ∈ wsX5_strongestHabit := (List.mem_cons_of_mem _ (List.mem_append_left _ (List.mem_of_getElem? (i := 1) rfl)))
theorem hd_X5_strongestHabit : yX5_strongestHabit.cls = RX5 ∧ yX5_strongestHabit.cls ≠ "java/lang/invoke/MethodHandle" ∧ yX5_strongestHabit.cls ≠ "java/lang/invoke/VarHandle" ∧ (parseMethodDescriptor yX5_strongestHabit.desc).map (fun d => d.parameters.length) = some 0 := by decide +kernel
set_option maxHeartbeats 4000000 in
set_option maxRecDepth 100000 in
theorem w_X5_strongestHabit_92 {p : Program} {l : Launch} {e : Env} {s : State} {m : MethodId} {below : List Frame} {meth : Method} {c : Code} {args : Array Value} {D : va_G} {cy : Nat → ClassId} {g : Nat → Nat} {A : Nat → Prop} {un : St} {r : Int32} (C0 : Cx p s m meth c args cX5_strongestHabit 7 (some .int) wsX5_strongestHabit RX5 D cy A) {k_9 : Int32 → Int32 → Int32 → Int32 → Option (Int32)} (hk_9 : ∀ (l1 : Int32) (l2 : Int32) (l3 : Int32) (l4 : Int32), k_9 l1 l2 l3 l4 = some r → ∀ (H : Heap) (locs : List Loc) (ls : Array Slot), va_P D vwCl (wX5 cy g un) H → va_D A (wX5 cy g un) → va_S A s.heap H locs → lv_has ls 7 [(0, .ref (g 599)), (1, .int l1), (2, .int l2), (3, .int l3), (4, .int l4)] → W p l e (rmH 3) s m args below meth c H locs 0 0 (QI below args s A D cy (wX5 cy g un) r) (F0 m 9 ls [])) : ∀ (l1 : Int32) (l2 : Int32) (l3 : Int32) (l4 : Int32), f_X5_strongestHabit_92 un k_9 l1 l2 l3 l4 = some r → ∀ (H : Heap) (locs : List Loc) (ls : Array Slot), va_P D vwCl (wX5 cy g un) H → va_D A (wX5 cy g un) → va_S A s.heap H locs → lv_has ls 7 [(0, .ref (g 599)), (1, .int l1), (2, .int l2), (3, .int l3), (4, .int l4)] → W p l e (rmH 3) s m args below meth c H locs 0 0 (QI below args s A D cy (wX5 cy g un) r) (F0 m 92 ls []) := by
  obtain ⟨hx, hb, hr, hml, hown, hts, hlocks, hK, hA⟩ := id C0
  intro l1 l2 l3 l4 h H locs ls hP hD hS hl
  rw [f_X5_strongestHabit_92] at h
  obtain ⟨v8, ev8, h⟩ := nm_ex h
  refine lv_iinc (v := v8) (lv' := [(4, .int v8), (0, .ref (g 599)), (1, .int l1), (2, .int l2), (3, .int l3)]) hx hb dX5_strongestHabit_92 hl (k := 4) rfl (by rw [ev8]; rfl) (by decide) rfl (fun ls hl => ?_)
  clear ev8
  refine lv_goto (tgt := 9) hx hb dX5_strongestHabit_95 (by decide) ?_
  exact hk_9 l1 l2 l3 v8 h _ _ ls hP hD hS (lv_sub hl [1, 2, 3, 4, 0] rfl)
set_option maxHeartbeats 4000000 in
set_option maxRecDepth 100000 in
theorem w_X5_strongestHabit_53 {p : Program} {l : Launch} {e : Env} {s : State} {m : MethodId} {below : List Frame} {meth : Method} {c : Code} {args : Array Value} {D : va_G} {cy : Nat → ClassId} {g : Nat → Nat} {A : Nat → Prop} {un : St} {r : Int32} (C0 : Cx p s m meth c args cX5_strongestHabit 7 (some .int) wsX5_strongestHabit RX5 D cy A) {k_9 : Int32 → Int32 → Int32 → Int32 → Option (Int32)} (hk_9 : ∀ (l1 : Int32) (l2 : Int32) (l3 : Int32) (l4 : Int32), k_9 l1 l2 l3 l4 = some r → ∀ (H : Heap) (locs : List Loc) (ls : Array Slot), va_P D vwCl (wX5 cy g un) H → va_D A (wX5 cy g un) → va_S A s.heap H locs → lv_has ls 7 [(0, .ref (g 599)), (1, .int l1), (2, .int l2), (3, .int l3), (4, .int l4)] → W p l e (rmH 3) s m args below meth c H locs 0 0 (QI below args s A D cy (wX5 cy g un) r) (F0 m 9 ls [])) : ∀ (l1 : Int32) (l2 : Int32) (l3 : Int32) (l4 : Int32) (l5 : Int32) (s0 : Int32), f_X5_strongestHabit_53 un k_9 l1 l2 l3 l4 l5 s0 = some r → ∀ (H : Heap) (locs : List Loc) (ls : Array Slot), va_P D vwCl (wX5 cy g un) H → va_D A (wX5 cy g un) → va_S A s.heap H locs → lv_has ls 7 [(0, .ref (g 599)), (1, .int l1), (2, .int l2), (3, .int l3), (4, .int l4), (5, .int l5)] → W p l e (rmH 3) s m args below meth c H locs 0 0 (QI below args s A D cy (wX5 cy g un) r) (F0 m 53 ls [.int s0]) := by
  obtain ⟨hx, hb, hr, hml, hown, hts, hlocks, hK, hA⟩ := id C0
  intro l1 l2 l3 l4 l5 s0 h H locs ls hP hD hS hl
  rw [f_X5_strongestHabit_53] at h
  refine lv_istore (lv' := [(6, .int s0), (0, .ref (g 599)), (1, .int l1), (2, .int l2), (3, .int l3), (4, .int l4), (5, .int l5)]) hx hb dX5_strongestHabit_53 hl (by decide) rfl (fun ls hl => ?_)
  refine lv_iload hx hb dX5_strongestHabit_55 (lv_at hl 0 rfl) ?_
  refine x_if_eq (tgt := 92) hx hb dX5_strongestHabit_57 (by decide) h (fun _ h => ?_) (fun _ h => ?_)
  · exact w_X5_strongestHabit_92 C0 hk_9 l1 l2 l3 l4 h _ _ ls hP hD hS (lv_sub hl [1, 2, 3, 4, 5] rfl)
  · refine lv_aload_n hx hb dX5_strongestHabit_60 rfl (lv_at hl 1 rfl) ?_
    refine lv_iload hx hb dX5_strongestHabit_61 (lv_at hl 6 rfl) ?_
    refine lv_iload hx hb dX5_strongestHabit_63 (lv_at hl 5 rfl) ?_
    refine lv_iconst (v := 4) hx hb dX5_strongestHabit_65 (by decide) ?_
    refine lv_irem hx hb dX5_strongestHabit_66 (by decide) ?_
    obtain ⟨r4, e5, h⟩ := bd_some h
    refine x_callVI (As := [.int l5, .int (l4 - l4 / (4 : Int32) * (4 : Int32))]) (rest := []) (n := 2) ⟨hx, hb, hml, hown, hts⟩ (c_X5_isPastChance l D cy g un l5 (l4 - l4 / (4 : Int32) * (4 : Int32)) r4 e5) gX5_strongestHabit_X5_isPastChance rfl hd_X5_isPastChance ⟨Nat.le_of_ble_eq_true rfl, Nat.le_of_ble_eq_true rfl⟩ ⟨rfl, rfl⟩ hK (sp_all _) (sp_all _) hP hD hS hA 0 rfl rfl rfl hl.1 rfl (Nat.le_of_ble_eq_true rfl) dX5_strongestHabit_67 ⟨Nat.zero_le _, Nat.zero_le _⟩ (fun H locs hP hD hS => ?_)
    clear e5
    refine x_if_eq (tgt := 92) hx hb dX5_strongestHabit_70 (by decide) h (fun _ h => ?_) (fun _ h => ?_)
    · exact w_X5_strongestHabit_92 C0 hk_9 l1 l2 l3 l4 h _ _ ls hP hD hS (lv_sub hl [1, 2, 3, 4, 5] rfl)
    · refine lv_iload hx hb dX5_strongestHabit_73 (lv_at hl 5 rfl) ?_
      refine lv_istore_n (lv' := [(1, .int l4), (6, .int s0), (0, .ref (g 599)), (2, .int l2), (3, .int l3), (4, .int l4), (5, .int l5)]) hx hb dX5_strongestHabit_75 rfl hl (by decide) rfl (fun ls hl => ?_)
      refine lv_aload_n hx hb dX5_strongestHabit_76 rfl (lv_at hl 2 rfl) ?_
      refine va_get (D := D) (ci := 4) (v := .ref (g 500)) (C := RX5) (T := TX5) (N := 5) hx hb hts ki_X5_strongestHabit_X5 hown hK hP 0 rfl rfl 0 (by decide) (hts _ k_X5_strongestHabit_0) (fun _ h9 => h9) rfl dX5_strongestHabit_77 ?_
      refine lv_iload hx hb dX5_strongestHabit_80 (lv_at hl 5 rfl) ?_
      refine x_iald hx hb hK hP 1 rfl rfl h dX5_strongestHabit_82 (fun v6 h => ?_)
      refine lv_istore_n (lv' := [(2, .int v6), (1, .int l4), (6, .int s0), (0, .ref (g 599)), (3, .int l3), (4, .int l4), (5, .int l5)]) hx hb dX5_strongestHabit_83 rfl hl (by decide) rfl (fun ls hl => ?_)
      refine lv_aload_n hx hb dX5_strongestHabit_84 rfl (lv_at hl 3 rfl) ?_
      refine va_get (D := D) (ci := 4) (v := .ref (g 501)) (C := RX5) (T := TX5) (N := 5) hx hb hts ki_X5_strongestHabit_X5 hown hK hP 0 rfl rfl 1 (by decide) (hts _ k_X5_strongestHabit_1) (fun _ h9 => h9) rfl dX5_strongestHabit_85 ?_
      refine lv_iload hx hb dX5_strongestHabit_88 (lv_at hl 6 rfl) ?_
      refine x_iald hx hb hK hP 2 rfl rfl h dX5_strongestHabit_90 (fun v7 h => ?_)
      refine lv_istore_n (lv' := [(3, .int v7), (2, .int v6), (1, .int l4), (6, .int s0), (0, .ref (g 599)), (4, .int l4), (5, .int l5)]) hx hb dX5_strongestHabit_91 rfl hl (by decide) rfl (fun ls hl => ?_)
      exact w_X5_strongestHabit_92 C0 hk_9 l4 v6 v7 l4 h _ _ ls hP hD hS (lv_sub hl [4, 2, 1, 0, 5] rfl)
set_option maxHeartbeats 4000000 in
set_option maxRecDepth 100000 in
theorem w_X5_strongestHabit_48 {p : Program} {l : Launch} {e : Env} {s : State} {m : MethodId} {below : List Frame} {meth : Method} {c : Code} {args : Array Value} {D : va_G} {cy : Nat → ClassId} {g : Nat → Nat} {A : Nat → Prop} {un : St} {r : Int32} (C0 : Cx p s m meth c args cX5_strongestHabit 7 (some .int) wsX5_strongestHabit RX5 D cy A) {k_9 : Int32 → Int32 → Int32 → Int32 → Option (Int32)} (hk_9 : ∀ (l1 : Int32) (l2 : Int32) (l3 : Int32) (l4 : Int32), k_9 l1 l2 l3 l4 = some r → ∀ (H : Heap) (locs : List Loc) (ls : Array Slot), va_P D vwCl (wX5 cy g un) H → va_D A (wX5 cy g un) → va_S A s.heap H locs → lv_has ls 7 [(0, .ref (g 599)), (1, .int l1), (2, .int l2), (3, .int l3), (4, .int l4)] → W p l e (rmH 3) s m args below meth c H locs 0 0 (QI below args s A D cy (wX5 cy g un) r) (F0 m 9 ls [])) : ∀ (l1 : Int32) (l2 : Int32) (l3 : Int32) (l4 : Int32) (l5 : Int32), f_X5_strongestHabit_48 un k_9 l1 l2 l3 l4 l5 = some r → ∀ (H : Heap) (locs : List Loc) (ls : Array Slot), va_P D vwCl (wX5 cy g un) H → va_D A (wX5 cy g un) → va_S A s.heap H locs → lv_has ls 7 [(0, .ref (g 599)), (1, .int l1), (2, .int l2), (3, .int l3), (4, .int l4), (5, .int l5)] → W p l e (rmH 3) s m args below meth c H locs 0 0 (QI below args s A D cy (wX5 cy g un) r) (F0 m 48 ls []) := by
  obtain ⟨hx, hb, hr, hml, hown, hts, hlocks, hK, hA⟩ := id C0
  intro l1 l2 l3 l4 l5 h H locs ls hP hD hS hl
  rw [f_X5_strongestHabit_48] at h
  refine lv_iconst (v := 1) hx hb dX5_strongestHabit_48 (by decide) ?_
  refine lv_goto (tgt := 53) hx hb dX5_strongestHabit_49 (by decide) ?_
  exact w_X5_strongestHabit_53 C0 hk_9 l1 l2 l3 l4 l5 (1 : Int32) h _ _ ls hP hD hS (lv_sub hl [0, 1, 2, 3, 4, 5] rfl)
set_option maxHeartbeats 4000000 in
set_option maxRecDepth 100000 in
theorem w_X5_strongestHabit_9 {p : Program} {l : Launch} {e : Env} {s : State} {m : MethodId} {below : List Frame} {meth : Method} {c : Code} {args : Array Value} {D : va_G} {cy : Nat → ClassId} {g : Nat → Nat} {A : Nat → Prop} {un : St} {r : Int32} (C0 : Cx p s m meth c args cX5_strongestHabit 7 (some .int) wsX5_strongestHabit RX5 D cy A) : ∀ (nn : Nat) (l1 : Int32) (l2 : Int32) (l3 : Int32) (l4 : Int32), f_X5_strongestHabit_9 un nn l1 l2 l3 l4 = some r → ∀ (H : Heap) (locs : List Loc) (ls : Array Slot), va_P D vwCl (wX5 cy g un) H → va_D A (wX5 cy g un) → va_S A s.heap H locs → lv_has ls 7 [(0, .ref (g 599)), (1, .int l1), (2, .int l2), (3, .int l3), (4, .int l4)] → W p l e (rmH 3) s m args below meth c H locs 0 0 (QI below args s A D cy (wX5 cy g un) r) (F0 m 9 ls []) := by
  obtain ⟨hx, hb, hr, hml, hown, hts, hlocks, hK, hA⟩ := id C0
  intro nn
  induction nn with
  | zero => intro l1 l2 l3 l4 h; rw [f_X5_strongestHabit_9] at h; cases h
  | succ nn ih =>
    intro l1 l2 l3 l4 h H locs ls hP hD hS hl
    rw [f_X5_strongestHabit_9] at h
    refine lv_iload hx hb dX5_strongestHabit_9 (lv_at hl 4 rfl) ?_
    refine lv_bipush (v := 16) hx hb dX5_strongestHabit_11 (by decide) ?_
    refine x_icmp_ge (tgt := 98) hx hb dX5_strongestHabit_13 (by decide) h (fun _ h => ?_) (fun _ h => ?_)
    · refine lv_iload_n hx hb dX5_strongestHabit_98 rfl (lv_at hl 1 rfl) ?_
      cases h
      exact x_iret hx hb hr hlocks hK hP hD hS dX5_strongestHabit_99 rfl rfl
    · refine lv_iload hx hb dX5_strongestHabit_16 (lv_at hl 4 rfl) ?_
      refine lv_iconst (v := 4) hx hb dX5_strongestHabit_18 (by decide) ?_
      refine lv_idiv hx hb dX5_strongestHabit_19 (by decide) ?_
      refine x_nm h (fun v1 h => ?_)
      refine lv_istore (lv' := [(5, .int v1), (0, .ref (g 599)), (1, .int l1), (2, .int l2), (3, .int l3), (4, .int l4)]) hx hb dX5_strongestHabit_20 hl (by decide) rfl (fun ls hl => ?_)
      refine lv_iload_n hx hb dX5_strongestHabit_22 rfl (lv_at hl 2 rfl) ?_
      refine lv_iconst (v := -1) hx hb dX5_strongestHabit_23 (by decide) ?_
      refine x_icmp_eq (tgt := 48) hx hb dX5_strongestHabit_24 (by decide) h (fun _ h => ?_) (fun _ h => ?_)
      · exact w_X5_strongestHabit_48 C0 ih l1 l2 l3 l4 v1 h _ _ ls hP hD hS (lv_sub hl [1, 2, 3, 4, 5, 0] rfl)
      · refine lv_aload_n hx hb dX5_strongestHabit_27 rfl (lv_at hl 1 rfl) ?_
        refine va_get (D := D) (ci := 4) (v := .ref (g 500)) (C := RX5) (T := TX5) (N := 5) hx hb hts ki_X5_strongestHabit_X5 hown hK hP 0 rfl rfl 0 (by decide) (hts _ k_X5_strongestHabit_0) (fun _ h9 => h9) rfl dX5_strongestHabit_28 ?_
        refine lv_iload hx hb dX5_strongestHabit_31 (lv_at hl 5 rfl) ?_
        refine x_iald hx hb hK hP 1 rfl rfl h dX5_strongestHabit_33 (fun v2 h => ?_)
        refine lv_iload_n hx hb dX5_strongestHabit_34 rfl (lv_at hl 4 rfl) ?_
        refine lv_imul hx hb dX5_strongestHabit_35 ?_
        refine lv_iload_n hx hb dX5_strongestHabit_36 rfl (lv_at hl 3 rfl) ?_
        refine lv_aload_n hx hb dX5_strongestHabit_37 rfl (lv_at hl 1 rfl) ?_
        refine va_get (D := D) (ci := 4) (v := .ref (g 501)) (C := RX5) (T := TX5) (N := 5) hx hb hts ki_X5_strongestHabit_X5 hown hK hP 0 rfl rfl 1 (by decide) (hts _ k_X5_strongestHabit_1) (fun _ h9 => h9) rfl dX5_strongestHabit_38 ?_
        refine lv_iload hx hb dX5_strongestHabit_41 (lv_at hl 0 rfl) ?_
        refine x_iald hx hb hK hP 2 rfl rfl h dX5_strongestHabit_43 (fun v3 h => ?_)
        refine lv_imul hx hb dX5_strongestHabit_44 ?_
        refine x_icmp_le (tgt := 52) hx hb dX5_strongestHabit_45 (by decide) h (fun _ h => ?_) (fun _ h => ?_)
        · refine lv_iconst (v := 0) hx hb dX5_strongestHabit_52 (by decide) ?_
          exact w_X5_strongestHabit_53 C0 ih l1 l2 l3 l4 v1 (0 : Int32) h _ _ ls hP hD hS (lv_sub hl [1, 2, 3, 4, 5, 0] rfl)
        · exact w_X5_strongestHabit_48 C0 ih l1 l2 l3 l4 v1 h _ _ ls hP hD hS (lv_sub hl [1, 2, 3, 4, 5, 0] rfl)
set_option maxHeartbeats 4000000 in
set_option maxRecDepth 100000 in
theorem c_X5_strongestHabit (l : Launch) (D : va_G) (cy : Nat → ClassId) (g : Nat → Nat) (un : St) (r : Int32) (h : f_X5_strongestHabit un = some r) : CtI l yX5_strongestHabit wsX5_strongestHabit (rmH 3) [.ref (g 599)] D cy (wX5 cy g un) (wX5 cy g un) r := by
  refine ct_enter (D := D) (cy := cy) (cc := cX5_strongestHabit) (maxL := 7) (ret := (some .int)) (w := wX5 cy g un) (Qc := fun sz => va_Qi (fun r' (_ : Unit) => r' = r) (Bw D cy (va_A (wX5 cy g un) sz) (wX5 cy g un)) (va_A (wX5 cy g un) sz)) (by decide) rfl (Nat.le_of_ble_eq_true rfl) ?_
  intro p e s m below meth c A C0 hAe ls hl hP hD hS
  have e1 : MQ below ((fun sz => va_Qi (fun r' (_ : Unit) => r' = r) (Bw D cy (va_A (wX5 cy g un) sz) (wX5 cy g un)) (va_A (wX5 cy g un) sz)) s.heap.size) [.ref (g 599)].toArray s 0 0 A = QI below [.ref (g 599)].toArray s A D cy (wX5 cy g un) r := by rw [hAe]; rfl
  rw [e1]
  clear e1 hAe
  obtain ⟨hx, hb, hr, hml, hown, hts, hlocks, hK, hA⟩ := id C0
  have hl : lv_has ls 7 [(0, .ref (g 599))] := hl
  rw [f_X5_strongestHabit] at h
  refine lv_iconst (v := -1) hx hb dX5_strongestHabit_0 (by decide) ?_
  refine lv_istore_n (lv' := [(1, .int (-1 : Int32)), (0, .ref (g 599))]) hx hb dX5_strongestHabit_1 rfl hl (by decide) rfl (fun ls hl => ?_)
  refine lv_iconst (v := 0) hx hb dX5_strongestHabit_2 (by decide) ?_
  refine lv_istore_n (lv' := [(2, .int (0 : Int32)), (1, .int (-1 : Int32)), (0, .ref (g 599))]) hx hb dX5_strongestHabit_3 rfl hl (by decide) rfl (fun ls hl => ?_)
  refine lv_iconst (v := 1) hx hb dX5_strongestHabit_4 (by decide) ?_
  refine lv_istore_n (lv' := [(3, .int (1 : Int32)), (2, .int (0 : Int32)), (1, .int (-1 : Int32)), (0, .ref (g 599))]) hx hb dX5_strongestHabit_5 rfl hl (by decide) rfl (fun ls hl => ?_)
  refine lv_iconst (v := 0) hx hb dX5_strongestHabit_6 (by decide) ?_
  refine lv_istore (lv' := [(4, .int (0 : Int32)), (3, .int (1 : Int32)), (2, .int (0 : Int32)), (1, .int (-1 : Int32)), (0, .ref (g 599))]) hx hb dX5_strongestHabit_7 hl (by decide) rfl (fun ls hl => ?_)
  exact w_X5_strongestHabit_9 C0 FU (-1 : Int32) (0 : Int32) (1 : Int32) (0 : Int32) h _ _ ls hP hD hS (lv_sub hl [4, 3, 2, 1, 0] rfl)
