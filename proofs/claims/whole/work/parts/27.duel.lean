theorem k_X3_slackFor_0 : Cond.fieldLink RX3 22 "FeatherHall$Duel" "squad" "LFeatherHall$Squad;" ∈ wsX3_slackFor := (List.mem_cons_of_mem _ (List.mem_append_left _ (List.mem_append_left _ (List.mem_append_left _ (List.mem_of_getElem? (i := 0) rfl)))))
theorem ki_X3_slackFor_X3 : ∀ w ∈ u_ws RX3 TX3 4, w ∈ wsX3_slackFor := fun _ hh => (List.mem_cons_of_mem _ (List.mem_append_left _ (List.mem_append_right _ hh)))
theorem k_X3_slackFor_1 : Cond.methodLink RX3 55 Lib.Math.max.name ∈ wsX3_slackFor := (List.mem_cons_of_mem _ (List.mem_append_left _ (List.mem_append_left _ (List.mem_append_left _ (List.mem_of_getElem? (i := 1) rfl)))))
theorem k_X3_slackFor_2 : Cond.static Lib.Math.max.name ∈ wsX3_slackFor := (List.mem_cons_of_mem _ (List.mem_append_left _ (List.mem_append_left _ (List.mem_append_left _ (List.mem_of_getElem? (i := 2) rfl)))))
theorem k_X3_slackFor_3 : Cond.initialized "java/lang/Math" ∈ wsX3_slackFor := (List.mem_cons_of_mem _ (List.mem_append_left _ (List.mem_append_left _ (List.mem_append_left _ (List.mem_of_getElem? (i := 3) rfl)))))
theorem k_X3_slackFor_4 : Cond.code Lib.Math.max.name Lib.Math.max.code 2 (some .int) ∈ wsX3_slackFor := (List.mem_cons_of_mem _ (List.mem_append_left _ (List.mem_append_left _ (List.mem_append_left _ (List.mem_of_getElem? (i := 4) rfl)))))
theorem hd_X3_slackFor : yX3_slackFor.cls = RX3 ∧ yX3_slackFor.cls ≠ "java/lang/invoke/MethodHandle" ∧ yX3_slackFor.cls ≠ "java/lang/invoke/VarHandle" ∧ (parseMethodDescriptor yX3_slackFor.desc).map (fun d => d.parameters.length) = some 3 := by decide +kernel
set_option maxHeartbeats 4000000 in
set_option maxRecDepth 100000 in
theorem w_X3_slackFor_30 {p : Program} {l : Launch} {e : Env} {s : State} {m : MethodId} {below : List Frame} {meth : Method} {c : Code} {args : Array Value} {D : va_G} {cy : Nat → ClassId} {g : Nat → Nat} {A : Nat → Prop} {ua : St} {us : St} {ud : St} {r : Int32} (C0 : Cx p s m meth c args cX3_slackFor 9 (some .int) wsX3_slackFor RX3 D cy A) : ∀ (nn : Nat) (l1 : Int32) (l2 : Int32) (l3 : Int64) (l5 : Int32) (l6 : Int32) (l7 : Int32), f_X3_slackFor_30 us nn l1 l2 l3 l5 l6 l7 = some r → ∀ (H : Heap) (locs : List Loc) (ls : Array Slot), va_P D vwCl (wD3 cy g ua us ud) H → va_D A (wD3 cy g ua us ud) → va_S A s.heap H locs → lv_has ls 9 [(0, .ref (g 399)), (1, .int l1), (2, .int l2), (3, .long l3), (5, .int l5), (6, .int l6), (7, .int l7)] → W p l e (rmH 2) s m args below meth c H locs 0 0 (QI below args s A D cy (wD3 cy g ua us ud) r) (F0 m 30 ls []) := by
  obtain ⟨hx, hb, hr, hml, hown, hts, hlocks, hK, hA⟩ := id C0
  intro nn
  induction nn with
  | zero => intro l1 l2 l3 l5 l6 l7 h; rw [f_X3_slackFor_30] at h; cases h
  | succ nn ih =>
    intro l1 l2 l3 l5 l6 l7 h H locs ls hP hD hS hl
    rw [f_X3_slackFor_30] at h
    refine lv_iload hx hb dX3_slackFor_30 (lv_at hl 6 rfl) ?_
    refine lv_lload_n hx hb dX3_slackFor_32 rfl (lv_at hl 3 rfl) ?_
    obtain ⟨r7, e8, h⟩ := bd_some h
    refine x_callSI (As := [.long l3]) (rest := [.int l7]) (n := 1) ⟨hx, hb, hml, hown, hts⟩ (c_X0_landingOf l D cy  l3 r7 e8) gX3_slackFor_X0_landingOf rfl hd_X0_landingOf ⟨Nat.le_of_ble_eq_true rfl, Nat.le_of_ble_eq_true rfl⟩ ⟨rfl, rfl⟩ hK (sp_nil _) (sp_nil _) hP hD hS hA rfl hl.1 rfl (Nat.le_of_ble_eq_true rfl) dX3_slackFor_33 ⟨Nat.zero_le _, Nat.zero_le _⟩ (fun H locs hP hD hS => ?_)
    clear e8
    refine x_icmp_gt (tgt := 84) hx hb dX3_slackFor_36 (by decide) h (fun _ h => ?_) (fun _ h => ?_)
    · refine lv_iload hx hb dX3_slackFor_84 (lv_at hl 5 rfl) ?_
      cases h
      exact x_iret hx hb hr hlocks hK hP hD hS dX3_slackFor_86 rfl rfl
    · refine lv_iconst (v := 0) hx hb dX3_slackFor_39 (by decide) ?_
      refine lv_iload_n hx hb dX3_slackFor_40 rfl (lv_at hl 2 rfl) ?_
      refine lv_lload_n hx hb dX3_slackFor_41 rfl (lv_at hl 3 rfl) ?_
      refine lv_iload hx hb dX3_slackFor_42 (lv_at hl 6 rfl) ?_
      obtain ⟨r9, e10, h⟩ := bd_some h
      refine x_callSI (As := [.long l3, .int l7]) (rest := [.int l2, .int (0 : Int32)]) (n := 2) ⟨hx, hb, hml, hown, hts⟩ (c_X0_cellAt l D cy  l3 l7 r9 e10) gX3_slackFor_X0_cellAt rfl hd_X0_cellAt ⟨Nat.le_of_ble_eq_true rfl, Nat.le_of_ble_eq_true rfl⟩ ⟨rfl, rfl⟩ hK (sp_nil _) (sp_nil _) hP hD hS hA rfl hl.1 rfl (Nat.le_of_ble_eq_true rfl) dX3_slackFor_44 ⟨Nat.zero_le _, Nat.zero_le _⟩ (fun H locs hP hD hS => ?_)
      clear e10
      obtain ⟨r11, e12, h⟩ := bd_some h
      refine x_callSI (As := [.int l2, .int r9]) (rest := [.int (0 : Int32)]) (n := 2) ⟨hx, hb, hml, hown, hts⟩ (c_X2_far l D cy  l2 r9 r11 e12) gX3_slackFor_X2_far rfl hd_X2_far ⟨Nat.le_of_ble_eq_true rfl, Nat.le_of_ble_eq_true rfl⟩ ⟨rfl, rfl⟩ hK (sp_nil _) (sp_nil _) hP hD hS hA rfl hl.1 rfl (Nat.le_of_ble_eq_true rfl) dX3_slackFor_47 ⟨Nat.zero_le _, Nat.zero_le _⟩ (fun H locs hP hD hS => ?_)
      clear e12
      refine lv_iload hx hb dX3_slackFor_50 (lv_at hl 4 rfl) ?_
      refine lv_isub hx hb dX3_slackFor_52 ?_
      refine x_nm h (fun v13 h => ?_)
      refine va_mmax hx hb (hml.trans hl.1.symm) hown (hts _ k_X3_slackFor_1) (hts _ k_X3_slackFor_2) (hts _ k_X3_slackFor_3) (hts _ k_X3_slackFor_4) (Nat.le_of_ble_eq_true rfl) (Nat.le_of_ble_eq_true rfl) (Nat.zero_le _) (Nat.zero_le _) dX3_slackFor_53 ?_
      refine x_nm h (fun v14 h => ?_)
      refine lv_istore (lv' := [(8, .int v14), (0, .ref (g 399)), (1, .int l1), (2, .int l2), (3, .long l3), (5, .int l5), (6, .int l6), (7, .int l7)]) hx hb dX3_slackFor_56 hl (by decide) rfl (fun ls hl => ?_)
      refine lv_iload hx hb dX3_slackFor_58 (lv_at hl 6 rfl) ?_
      refine lv_aload_n hx hb dX3_slackFor_60 rfl (lv_at hl 1 rfl) ?_
      refine va_get (D := D) (ci := 2) (v := .ref (g 699)) (C := RX3) (T := TX3) (N := 4) hx hb hts ki_X3_slackFor_X3 hown hK hP 10 rfl rfl 1 (by decide) (hts _ k_X3_slackFor_0) (fun _ h9 => h9) rfl dX3_slackFor_61 ?_
      refine lv_iload_n hx hb dX3_slackFor_64 rfl (lv_at hl 2 rfl) ?_
      refine lv_iload hx hb dX3_slackFor_65 (lv_at hl 7 rfl) ?_
      obtain ⟨r15, e16, h⟩ := bd_some h
      refine x_callVI (As := [.int l1, .int l7]) (rest := [.int l6]) (n := 2) ⟨hx, hb, hml, hown, hts⟩ (c_X6_comes l D cy g us l1 l7 r15 e16) gX3_slackFor_X6_comes rfl hd_X6_comes ⟨Nat.le_of_ble_eq_true rfl, Nat.le_of_ble_eq_true rfl⟩ ⟨rfl, rfl⟩ hK (sp3_X6 cy g ua us ud) (sp3_X6 cy g ua us ud) hP hD hS hA 0 rfl rfl rfl hl.1 rfl (Nat.le_of_ble_eq_true rfl) dX3_slackFor_67 ⟨Nat.zero_le _, Nat.zero_le _⟩ (fun H locs hP hD hS => ?_)
      clear e16
      refine lv_iload hx hb dX3_slackFor_70 (lv_at hl 0 rfl) ?_
      refine lv_isub hx hb dX3_slackFor_72 ?_
      refine x_nm h (fun v17 h => ?_)
      refine va_mmax hx hb (hml.trans hl.1.symm) hown (hts _ k_X3_slackFor_1) (hts _ k_X3_slackFor_2) (hts _ k_X3_slackFor_3) (hts _ k_X3_slackFor_4) (Nat.le_of_ble_eq_true rfl) (Nat.le_of_ble_eq_true rfl) (Nat.zero_le _) (Nat.zero_le _) dX3_slackFor_73 ?_
      refine x_nm h (fun v18 h => ?_)
      refine lv_istore (lv' := [(6, .int v18), (8, .int v14), (0, .ref (g 399)), (1, .int l1), (2, .int l2), (3, .long l3), (5, .int l5), (7, .int l7)]) hx hb dX3_slackFor_76 hl (by decide) rfl (fun ls hl => ?_)
      obtain ⟨v19, ev19, h⟩ := nm_ex h
      refine lv_iinc (v := v19) (lv' := [(7, .int v19), (6, .int v18), (8, .int v14), (0, .ref (g 399)), (1, .int l1), (2, .int l2), (3, .long l3), (5, .int l5)]) hx hb dX3_slackFor_78 hl (k := 7) rfl (by rw [ev19]; rfl) (by decide) rfl (fun ls hl => ?_)
      clear ev19
      refine lv_goto (tgt := 30) hx hb dX3_slackFor_81 (by decide) ?_
      exact ih l1 l2 l3 l5 v18 v19 h _ _ ls hP hD hS (lv_sub hl [3, 4, 5, 6, 7, 1, 0] rfl)
set_option maxHeartbeats 4000000 in
set_option maxRecDepth 100000 in
theorem c_X3_slackFor (l : Launch) (D : va_G) (cy : Nat → ClassId) (g : Nat → Nat) (ua : St) (us : St) (ud : St) (p0 : Int32) (p1 : Int32) (p2 : Int64) (r : Int32) (h : f_X3_slackFor us p0 p1 p2 = some r) : CtI l yX3_slackFor wsX3_slackFor (rmH 2) [.ref (g 399), .int p0, .int p1, .long p2] D cy (wD3 cy g ua us ud) (wD3 cy g ua us ud) r := by
  refine ct_enter (D := D) (cy := cy) (cc := cX3_slackFor) (maxL := 9) (ret := (some .int)) (w := wD3 cy g ua us ud) (Qc := fun sz => va_Qi (fun r' (_ : Unit) => r' = r) (Bw D cy (va_A (wD3 cy g ua us ud) sz) (wD3 cy g ua us ud)) (va_A (wD3 cy g ua us ud) sz)) (by decide) rfl (Nat.le_of_ble_eq_true rfl) ?_
  intro p e s m below meth c A C0 hAe ls hl hP hD hS
  have e1 : MQ below ((fun sz => va_Qi (fun r' (_ : Unit) => r' = r) (Bw D cy (va_A (wD3 cy g ua us ud) sz) (wD3 cy g ua us ud)) (va_A (wD3 cy g ua us ud) sz)) s.heap.size) [.ref (g 399), .int p0, .int p1, .long p2].toArray s 0 0 A = QI below [.ref (g 399), .int p0, .int p1, .long p2].toArray s A D cy (wD3 cy g ua us ud) r := by rw [hAe]; rfl
  rw [e1]
  clear e1 hAe
  obtain ⟨hx, hb, hr, hml, hown, hts, hlocks, hK, hA⟩ := id C0
  have hl : lv_has ls 9 [(0, .ref (g 399)), (1, .int p0), (2, .int p1), (3, .long p2)] := hl
  rw [f_X3_slackFor] at h
  refine lv_lload_n hx hb dX3_slackFor_0 rfl (lv_at hl 3 rfl) ?_
  obtain ⟨r1, e2, h⟩ := bd_some h
  refine x_callSI (As := [.long p2]) (rest := []) (n := 1) ⟨hx, hb, hml, hown, hts⟩ (c_X0_isNet l D cy  p2 r1 e2) gX3_slackFor_X0_isNet rfl hd_X0_isNet ⟨Nat.le_of_ble_eq_true rfl, Nat.le_of_ble_eq_true rfl⟩ ⟨rfl, rfl⟩ hK (sp_nil _) (sp_nil _) hP hD hS hA rfl hl.1 rfl (Nat.le_of_ble_eq_true rfl) dX3_slackFor_1 ⟨Nat.zero_le _, Nat.zero_le _⟩ (fun H locs hP hD hS => ?_)
  clear e2
  refine x_if_eq (tgt := 10) hx hb dX3_slackFor_4 (by decide) h (fun _ h => ?_) (fun _ h => ?_)
  · refine lv_aload_n hx hb dX3_slackFor_10 rfl (lv_at hl 0 rfl) ?_
    refine va_get (D := D) (ci := 2) (v := .ref (g 699)) (C := RX3) (T := TX3) (N := 4) hx hb hts ki_X3_slackFor_X3 hown hK hP 10 rfl rfl 1 (by decide) (hts _ k_X3_slackFor_0) (fun _ h9 => h9) rfl dX3_slackFor_11 ?_
    refine lv_iload_n hx hb dX3_slackFor_14 rfl (lv_at hl 1 rfl) ?_
    obtain ⟨r3, e4, h⟩ := bd_some h
    refine x_callVI (As := [.int p0]) (rest := []) (n := 1) ⟨hx, hb, hml, hown, hts⟩ (c_X6_reachOf l D cy g us p0 r3 e4) gX3_slackFor_X6_reachOf rfl hd_X6_reachOf ⟨Nat.le_of_ble_eq_true rfl, Nat.le_of_ble_eq_true rfl⟩ ⟨rfl, rfl⟩ hK (sp3_X6 cy g ua us ud) (sp3_X6 cy g ua us ud) hP hD hS hA 0 rfl rfl rfl hl.1 rfl (Nat.le_of_ble_eq_true rfl) dX3_slackFor_15 ⟨Nat.zero_le _, Nat.zero_le _⟩ (fun H locs hP hD hS => ?_)
    clear e4
    refine lv_istore (lv' := [(5, .int r3), (0, .ref (g 399)), (1, .int p0), (2, .int p1), (3, .long p2)]) hx hb dX3_slackFor_18 hl (by decide) rfl (fun ls hl => ?_)
    refine lv_bipush (v := -100) hx hb dX3_slackFor_20 (by decide) ?_
    refine lv_istore (lv' := [(6, .int (-100 : Int32)), (5, .int r3), (0, .ref (g 399)), (1, .int p0), (2, .int p1), (3, .long p2)]) hx hb dX3_slackFor_22 hl (by decide) rfl (fun ls hl => ?_)
    refine lv_lload_n hx hb dX3_slackFor_24 rfl (lv_at hl 5 rfl) ?_
    obtain ⟨r5, e6, h⟩ := bd_some h
    refine x_callSI (As := [.long p2]) (rest := []) (n := 1) ⟨hx, hb, hml, hown, hts⟩ (c_X0_firstMetOf l D cy  p2 r5 e6) gX3_slackFor_X0_firstMetOf rfl hd_X0_firstMetOf ⟨Nat.le_of_ble_eq_true rfl, Nat.le_of_ble_eq_true rfl⟩ ⟨rfl, rfl⟩ hK (sp_nil _) (sp_nil _) hP hD hS hA rfl hl.1 rfl (Nat.le_of_ble_eq_true rfl) dX3_slackFor_25 ⟨Nat.zero_le _, Nat.zero_le _⟩ (fun H locs hP hD hS => ?_)
    clear e6
    refine lv_istore (lv' := [(7, .int r5), (6, .int (-100 : Int32)), (5, .int r3), (0, .ref (g 399)), (1, .int p0), (2, .int p1), (3, .long p2)]) hx hb dX3_slackFor_28 hl (by decide) rfl (fun ls hl => ?_)
    exact w_X3_slackFor_30 C0 FU p0 p1 p2 r3 (-100 : Int32) r5 h _ _ ls hP hD hS (lv_sub hl [3, 4, 5, 6, 2, 1, 0] rfl)
  · refine lv_bipush (v := -100) hx hb dX3_slackFor_7 (by decide) ?_
    cases h
    exact x_iret hx hb hr hlocks hK hP hD hS dX3_slackFor_9 rfl rfl
theorem k_X3_bestStrike_0 : Cond.fieldLink RX3 18 "FeatherHall$Duel" "air" "LFeatherHall$Air;" ∈ wsX3_bestStrike := (List.mem_cons_of_mem _ (List.mem_append_left _ (List.mem_append_left _ (List.mem_append_left _ (List.mem_append_left _ (List.mem_of_getElem? (i := 0) rfl))))))
theorem ki_X3_bestStrike_X3 : ∀ w ∈ u_ws RX3 TX3 4, w ∈ wsX3_bestStrike := fun _ hh => (List.mem_cons_of_mem _ (List.mem_append_left _ (List.mem_append_left _ (List.mem_append_right _ hh))))
theorem hd_X3_bestStrike : yX3_bestStrike.cls = RX3 ∧ yX3_bestStrike.cls ≠ "java/lang/invoke/MethodHandle" ∧ yX3_bestStrike.cls ≠ "java/lang/invoke/VarHandle" ∧ (parseMethodDescriptor yX3_bestStrike.desc).map (fun d => d.parameters.length) = some 3 := by decide +kernel
set_option maxHeartbeats 4000000 in
set_option maxRecDepth 100000 in
theorem w_X3_bestStrike_70 {p : Program} {l : Launch} {e : Env} {s : State} {m : MethodId} {below : List Frame} {meth : Method} {c : Code} {args : Array Value} {D : va_G} {cy : Nat → ClassId} {g : Nat → Nat} {A : Nat → Prop} {ua : St} {us : St} {ud : St} {r : Int32} (C0 : Cx p s m meth c args cX3_bestStrike 10 (some .int) wsX3_bestStrike RX3 D cy A) {k_9 : Int32 → Int32 → Int32 → Int32 → Int32 → Int32 → Option (Int32)} (hk_9 : ∀ (l1 : Int32) (l2 : Int32) (l3 : Int32) (l4 : Int32) (l5 : Int32) (l6 : Int32), k_9 l1 l2 l3 l4 l5 l6 = some r → ∀ (H : Heap) (locs : List Loc) (ls : Array Slot), va_P D vwCl (wD3 cy g ua us ud) H → va_D A (wD3 cy g ua us ud) → va_S A s.heap H locs → lv_has ls 10 [(0, .ref (g 399)), (1, .int l1), (2, .int l2), (3, .int l3), (4, .int l4), (5, .int l5), (6, .int l6)] → W p l e (rmH 3) s m args below meth c H locs 0 0 (QI below args s A D cy (wD3 cy g ua us ud) r) (F0 m 9 ls [])) : ∀ (l1 : Int32) (l2 : Int32) (l3 : Int32) (l4 : Int32) (l5 : Int32) (l6 : Int32), f_X3_bestStrike_70 ua us k_9 l1 l2 l3 l4 l5 l6 = some r → ∀ (H : Heap) (locs : List Loc) (ls : Array Slot), va_P D vwCl (wD3 cy g ua us ud) H → va_D A (wD3 cy g ua us ud) → va_S A s.heap H locs → lv_has ls 10 [(0, .ref (g 399)), (1, .int l1), (2, .int l2), (3, .int l3), (4, .int l4), (5, .int l5), (6, .int l6)] → W p l e (rmH 3) s m args below meth c H locs 0 0 (QI below args s A D cy (wD3 cy g ua us ud) r) (F0 m 70 ls []) := by
  obtain ⟨hx, hb, hr, hml, hown, hts, hlocks, hK, hA⟩ := id C0
  intro l1 l2 l3 l4 l5 l6 h H locs ls hP hD hS hl
  rw [f_X3_bestStrike_70] at h
  obtain ⟨v7, ev7, h⟩ := nm_ex h
  refine lv_iinc (v := v7) (lv' := [(6, .int v7), (0, .ref (g 399)), (1, .int l1), (2, .int l2), (3, .int l3), (4, .int l4), (5, .int l5)]) hx hb dX3_bestStrike_70 hl (k := 6) rfl (by rw [ev7]; rfl) (by decide) rfl (fun ls hl => ?_)
  clear ev7
  refine lv_goto (tgt := 9) hx hb dX3_bestStrike_73 (by decide) ?_
  exact hk_9 l1 l2 l3 l4 l5 v7 h _ _ ls hP hD hS (lv_sub hl [1, 2, 3, 4, 5, 6, 0] rfl)
set_option maxHeartbeats 4000000 in
set_option maxRecDepth 100000 in
theorem w_X3_bestStrike_62 {p : Program} {l : Launch} {e : Env} {s : State} {m : MethodId} {below : List Frame} {meth : Method} {c : Code} {args : Array Value} {D : va_G} {cy : Nat → ClassId} {g : Nat → Nat} {A : Nat → Prop} {ua : St} {us : St} {ud : St} {r : Int32} (C0 : Cx p s m meth c args cX3_bestStrike 10 (some .int) wsX3_bestStrike RX3 D cy A) {k_9 : Int32 → Int32 → Int32 → Int32 → Int32 → Int32 → Option (Int32)} (hk_9 : ∀ (l1 : Int32) (l2 : Int32) (l3 : Int32) (l4 : Int32) (l5 : Int32) (l6 : Int32), k_9 l1 l2 l3 l4 l5 l6 = some r → ∀ (H : Heap) (locs : List Loc) (ls : Array Slot), va_P D vwCl (wD3 cy g ua us ud) H → va_D A (wD3 cy g ua us ud) → va_S A s.heap H locs → lv_has ls 10 [(0, .ref (g 399)), (1, .int l1), (2, .int l2), (3, .int l3), (4, .int l4), (5, .int l5), (6, .int l6)] → W p l e (rmH 3) s m args below meth c H locs 0 0 (QI below args s A D cy (wD3 cy g ua us ud) r) (F0 m 9 ls [])) : ∀ (l1 : Int32) (l2 : Int32) (l3 : Int32) (l6 : Int32) (l9 : Int32), f_X3_bestStrike_62 ua us k_9 l1 l2 l3 l6 l9 = some r → ∀ (H : Heap) (locs : List Loc) (ls : Array Slot), va_P D vwCl (wD3 cy g ua us ud) H → va_D A (wD3 cy g ua us ud) → va_S A s.heap H locs → lv_has ls 10 [(0, .ref (g 399)), (1, .int l1), (2, .int l2), (3, .int l3), (6, .int l6), (9, .int l9)] → W p l e (rmH 3) s m args below meth c H locs 0 0 (QI below args s A D cy (wD3 cy g ua us ud) r) (F0 m 62 ls []) := by
  obtain ⟨hx, hb, hr, hml, hown, hts, hlocks, hK, hA⟩ := id C0
  intro l1 l2 l3 l6 l9 h H locs ls hP hD hS hl
  rw [f_X3_bestStrike_62] at h
  refine lv_iload hx hb dX3_bestStrike_62 (lv_at hl 4 rfl) ?_
  refine lv_istore (lv' := [(4, .int l6), (0, .ref (g 399)), (1, .int l1), (2, .int l2), (3, .int l3), (6, .int l6), (9, .int l9)]) hx hb dX3_bestStrike_64 hl (by decide) rfl (fun ls hl => ?_)
  refine lv_iload hx hb dX3_bestStrike_66 (lv_at hl 6 rfl) ?_
  refine lv_istore (lv' := [(5, .int l9), (4, .int l6), (0, .ref (g 399)), (1, .int l1), (2, .int l2), (3, .int l3), (6, .int l6), (9, .int l9)]) hx hb dX3_bestStrike_68 hl (by decide) rfl (fun ls hl => ?_)
  exact w_X3_bestStrike_70 C0 hk_9 l1 l2 l3 l6 l9 l6 h _ _ ls hP hD hS (lv_sub hl [2, 3, 4, 5, 1, 0, 6] rfl)
set_option maxHeartbeats 4000000 in
set_option maxRecDepth 100000 in
theorem w_X3_bestStrike_9 {p : Program} {l : Launch} {e : Env} {s : State} {m : MethodId} {below : List Frame} {meth : Method} {c : Code} {args : Array Value} {D : va_G} {cy : Nat → ClassId} {g : Nat → Nat} {A : Nat → Prop} {ua : St} {us : St} {ud : St} {r : Int32} (C0 : Cx p s m meth c args cX3_bestStrike 10 (some .int) wsX3_bestStrike RX3 D cy A) : ∀ (nn : Nat) (l1 : Int32) (l2 : Int32) (l3 : Int32) (l4 : Int32) (l5 : Int32) (l6 : Int32), f_X3_bestStrike_9 ua us nn l1 l2 l3 l4 l5 l6 = some r → ∀ (H : Heap) (locs : List Loc) (ls : Array Slot), va_P D vwCl (wD3 cy g ua us ud) H → va_D A (wD3 cy g ua us ud) → va_S A s.heap H locs → lv_has ls 10 [(0, .ref (g 399)), (1, .int l1), (2, .int l2), (3, .int l3), (4, .int l4), (5, .int l5), (6, .int l6)] → W p l e (rmH 3) s m args below meth c H locs 0 0 (QI below args s A D cy (wD3 cy g ua us ud) r) (F0 m 9 ls []) := by
  obtain ⟨hx, hb, hr, hml, hown, hts, hlocks, hK, hA⟩ := id C0
  intro nn
  induction nn with
  | zero => intro l1 l2 l3 l4 l5 l6 h; rw [f_X3_bestStrike_9] at h; cases h
  | succ nn ih =>
    intro l1 l2 l3 l4 l5 l6 h H locs ls hP hD hS hl
    rw [f_X3_bestStrike_9] at h
    refine lv_iload hx hb dX3_bestStrike_9 (lv_at hl 6 rfl) ?_
    refine lv_bipush (v := 64) hx hb dX3_bestStrike_11 (by decide) ?_
    refine x_icmp_ge (tgt := 76) hx hb dX3_bestStrike_13 (by decide) h (fun _ h => ?_) (fun _ h => ?_)
    · refine lv_iload hx hb dX3_bestStrike_76 (lv_at hl 4 rfl) ?_
      cases h
      exact x_iret hx hb hr hlocks hK hP hD hS dX3_bestStrike_78 rfl rfl
    · refine lv_aload_n hx hb dX3_bestStrike_16 rfl (lv_at hl 0 rfl) ?_
      refine va_get (D := D) (ci := 2) (v := .ref (g 99)) (C := RX3) (T := TX3) (N := 4) hx hb hts ki_X3_bestStrike_X3 hown hK hP 10 rfl rfl 0 (by decide) (hts _ k_X3_bestStrike_0) (fun _ h9 => h9) rfl dX3_bestStrike_17 ?_
      refine lv_iload_n hx hb dX3_bestStrike_20 rfl (lv_at hl 1 rfl) ?_
      refine lv_iload hx hb dX3_bestStrike_21 (lv_at hl 6 rfl) ?_
      obtain ⟨r1, e2, h⟩ := bd_some h
      refine x_callVL (As := [.int l1, .int l6]) (rest := []) (n := 2) ⟨hx, hb, hml, hown, hts⟩ (c_X0_knownPath l D cy g ua l1 l6 r1 e2) gX3_bestStrike_X0_knownPath rfl hd_X0_knownPath ⟨Nat.le_of_ble_eq_true rfl, Nat.le_of_ble_eq_true rfl⟩ ⟨rfl, rfl⟩ hK (sp3_X0 cy g ua us ud) (sp3_X0 cy g ua us ud) hP hD hS hA 0 rfl rfl rfl hl.1 rfl (Nat.le_of_ble_eq_true rfl) dX3_bestStrike_23 ⟨Nat.zero_le _, Nat.zero_le _⟩ (fun H locs hP hD hS => ?_)
      clear e2
      refine lv_lstore (lv' := [(7, .long r1), (0, .ref (g 399)), (1, .int l1), (2, .int l2), (3, .int l3), (4, .int l4), (5, .int l5), (6, .int l6)]) hx hb dX3_bestStrike_26 hl (by decide) rfl (fun ls hl => ?_)
      refine lv_lload hx hb dX3_bestStrike_28 (lv_at hl 0 rfl) ?_
      obtain ⟨r3, e4, h⟩ := bd_some h
      refine x_callSI (As := [.long r1]) (rest := []) (n := 1) ⟨hx, hb, hml, hown, hts⟩ (c_X0_isNet l D cy  r1 r3 e4) gX3_bestStrike_X0_isNet rfl hd_X0_isNet ⟨Nat.le_of_ble_eq_true rfl, Nat.le_of_ble_eq_true rfl⟩ ⟨rfl, rfl⟩ hK (sp_nil _) (sp_nil _) hP hD hS hA rfl hl.1 rfl (Nat.le_of_ble_eq_true rfl) dX3_bestStrike_30 ⟨Nat.zero_le _, Nat.zero_le _⟩ (fun H locs hP hD hS => ?_)
      clear e4
      refine x_if_eq (tgt := 39) hx hb dX3_bestStrike_33 (by decide) h (fun _ h => ?_) (fun _ h => ?_)
      · refine lv_aload_n hx hb dX3_bestStrike_39 rfl (lv_at hl 1 rfl) ?_
        refine lv_iload_n hx hb dX3_bestStrike_40 rfl (lv_at hl 3 rfl) ?_
        refine lv_iload_n hx hb dX3_bestStrike_41 rfl (lv_at hl 4 rfl) ?_
        refine lv_lload hx hb dX3_bestStrike_42 (lv_at hl 0 rfl) ?_
        obtain ⟨r5, e6, h⟩ := bd_some h
        refine x_callVI (As := [.int l2, .int l3, .long r1]) (rest := []) (n := 3) ⟨hx, hb, hml, hown, hts⟩ (c_X3_slackFor l D cy g ua us ud l2 l3 r1 r5 e6) gX3_bestStrike_X3_slackFor rfl hd_X3_slackFor ⟨Nat.le_of_ble_eq_true rfl, Nat.le_of_ble_eq_true rfl⟩ ⟨rfl, rfl⟩ hK (sp_all _) (sp_all _) hP hD hS hA 10 rfl rfl rfl hl.1 rfl (Nat.le_of_ble_eq_true rfl) dX3_bestStrike_44 ⟨Nat.zero_le _, Nat.zero_le _⟩ (fun H locs hP hD hS => ?_)
        clear e6
        refine lv_istore (lv' := [(9, .int r5), (7, .long r1), (0, .ref (g 399)), (1, .int l1), (2, .int l2), (3, .int l3), (4, .int l4), (5, .int l5), (6, .int l6)]) hx hb dX3_bestStrike_47 hl (by decide) rfl (fun ls hl => ?_)
        refine lv_iload hx hb dX3_bestStrike_49 (lv_at hl 6 rfl) ?_
        refine lv_iconst (v := -1) hx hb dX3_bestStrike_51 (by decide) ?_
        refine x_icmp_eq (tgt := 62) hx hb dX3_bestStrike_52 (by decide) h (fun _ h => ?_) (fun _ h => ?_)
        · exact w_X3_bestStrike_62 C0 ih l1 l2 l3 l6 r5 h _ _ ls hP hD hS (lv_sub hl [2, 3, 4, 5, 8, 0] rfl)
        · refine lv_iload hx hb dX3_bestStrike_55 (lv_at hl 0 rfl) ?_
          refine lv_iload hx hb dX3_bestStrike_57 (lv_at hl 7 rfl) ?_
          refine x_icmp_ge (tgt := 70) hx hb dX3_bestStrike_59 (by decide) h (fun _ h => ?_) (fun _ h => ?_)
          · exact w_X3_bestStrike_70 C0 ih l1 l2 l3 l4 l5 l6 h _ _ ls hP hD hS (lv_sub hl [2, 3, 4, 5, 6, 7, 8] rfl)
          · exact w_X3_bestStrike_62 C0 ih l1 l2 l3 l6 r5 h _ _ ls hP hD hS (lv_sub hl [2, 3, 4, 5, 8, 0] rfl)
      · refine lv_goto (tgt := 70) hx hb dX3_bestStrike_36 (by decide) ?_
        exact w_X3_bestStrike_70 C0 ih l1 l2 l3 l4 l5 l6 h _ _ ls hP hD hS (lv_sub hl [1, 2, 3, 4, 5, 6, 7] rfl)
set_option maxHeartbeats 4000000 in
set_option maxRecDepth 100000 in
theorem c_X3_bestStrike (l : Launch) (D : va_G) (cy : Nat → ClassId) (g : Nat → Nat) (ua : St) (us : St) (ud : St) (p0 : Int32) (p1 : Int32) (p2 : Int32) (r : Int32) (h : f_X3_bestStrike ua us p0 p1 p2 = some r) : CtI l yX3_bestStrike wsX3_bestStrike (rmH 3) [.ref (g 399), .int p0, .int p1, .int p2] D cy (wD3 cy g ua us ud) (wD3 cy g ua us ud) r := by
  refine ct_enter (D := D) (cy := cy) (cc := cX3_bestStrike) (maxL := 10) (ret := (some .int)) (w := wD3 cy g ua us ud) (Qc := fun sz => va_Qi (fun r' (_ : Unit) => r' = r) (Bw D cy (va_A (wD3 cy g ua us ud) sz) (wD3 cy g ua us ud)) (va_A (wD3 cy g ua us ud) sz)) (by decide) rfl (Nat.le_of_ble_eq_true rfl) ?_
  intro p e s m below meth c A C0 hAe ls hl hP hD hS
  have e1 : MQ below ((fun sz => va_Qi (fun r' (_ : Unit) => r' = r) (Bw D cy (va_A (wD3 cy g ua us ud) sz) (wD3 cy g ua us ud)) (va_A (wD3 cy g ua us ud) sz)) s.heap.size) [.ref (g 399), .int p0, .int p1, .int p2].toArray s 0 0 A = QI below [.ref (g 399), .int p0, .int p1, .int p2].toArray s A D cy (wD3 cy g ua us ud) r := by rw [hAe]; rfl
  rw [e1]
  clear e1 hAe
  obtain ⟨hx, hb, hr, hml, hown, hts, hlocks, hK, hA⟩ := id C0
  have hl : lv_has ls 10 [(0, .ref (g 399)), (1, .int p0), (2, .int p1), (3, .int p2)] := hl
  rw [f_X3_bestStrike] at h
  refine lv_iconst (v := -1) hx hb dX3_bestStrike_0 (by decide) ?_
  refine lv_istore (lv' := [(4, .int (-1 : Int32)), (0, .ref (g 399)), (1, .int p0), (2, .int p1), (3, .int p2)]) hx hb dX3_bestStrike_1 hl (by decide) rfl (fun ls hl => ?_)
  refine lv_iconst (v := 0) hx hb dX3_bestStrike_3 (by decide) ?_
  refine lv_istore (lv' := [(5, .int (0 : Int32)), (4, .int (-1 : Int32)), (0, .ref (g 399)), (1, .int p0), (2, .int p1), (3, .int p2)]) hx hb dX3_bestStrike_4 hl (by decide) rfl (fun ls hl => ?_)
  refine lv_iconst (v := 0) hx hb dX3_bestStrike_6 (by decide) ?_
  refine lv_istore (lv' := [(6, .int (0 : Int32)), (5, .int (0 : Int32)), (4, .int (-1 : Int32)), (0, .ref (g 399)), (1, .int p0), (2, .int p1), (3, .int p2)]) hx hb dX3_bestStrike_7 hl (by decide) rfl (fun ls hl => ?_)
  exact w_X3_bestStrike_9 C0 FU p0 p1 p2 (-1 : Int32) (0 : Int32) (0 : Int32) h _ _ ls hP hD hS (lv_sub hl [3, 4, 5, 6, 2, 1, 0] rfl)
theorem k_X3_leastSlack_0 : Cond.fieldLink RX3 18 "FeatherHall$Duel" "air" "LFeatherHall$Air;" ∈ wsX3_leastSlack := (List.mem_cons_of_mem _ (List.mem_append_left _ (List.mem_append_left _ (List.mem_append_left _ (List.mem_append_left _ (List.mem_of_getElem? (i := 0) rfl))))))
theorem ki_X3_leastSlack_X3 : ∀ w ∈ u_ws RX3 TX3 4, w ∈ wsX3_leastSlack := fun _ hh => (List.mem_cons_of_mem _ (List.mem_append_left _ (List.mem_append_left _ (List.mem_append_right _ hh))))
theorem hd_X3_leastSlack : yX3_leastSlack.cls = RX3 ∧ yX3_leastSlack.cls ≠ "java/lang/invoke/MethodHandle" ∧ yX3_leastSlack.cls ≠ "java/lang/invoke/VarHandle" ∧ (parseMethodDescriptor yX3_leastSlack.desc).map (fun d => d.parameters.length) = some 3 := by decide +kernel
set_option maxHeartbeats 4000000 in
set_option maxRecDepth 100000 in
theorem c_X3_leastSlack (l : Launch) (D : va_G) (cy : Nat → ClassId) (g : Nat → Nat) (ua : St) (us : St) (ud : St) (p0 : Int32) (p1 : Int32) (p2 : Int32) (r : Int32) (h : f_X3_leastSlack ua us p0 p1 p2 = some r) : CtI l yX3_leastSlack wsX3_leastSlack (rmH 4) [.ref (g 399), .int p0, .int p1, .int p2] D cy (wD3 cy g ua us ud) (wD3 cy g ua us ud) r := by
  refine ct_enter (D := D) (cy := cy) (cc := cX3_leastSlack) (maxL := 5) (ret := (some .int)) (w := wD3 cy g ua us ud) (Qc := fun sz => va_Qi (fun r' (_ : Unit) => r' = r) (Bw D cy (va_A (wD3 cy g ua us ud) sz) (wD3 cy g ua us ud)) (va_A (wD3 cy g ua us ud) sz)) (by decide) rfl (Nat.le_of_ble_eq_true rfl) ?_
  intro p e s m below meth c A C0 hAe ls hl hP hD hS
  have e1 : MQ below ((fun sz => va_Qi (fun r' (_ : Unit) => r' = r) (Bw D cy (va_A (wD3 cy g ua us ud) sz) (wD3 cy g ua us ud)) (va_A (wD3 cy g ua us ud) sz)) s.heap.size) [.ref (g 399), .int p0, .int p1, .int p2].toArray s 0 0 A = QI below [.ref (g 399), .int p0, .int p1, .int p2].toArray s A D cy (wD3 cy g ua us ud) r := by rw [hAe]; rfl
  rw [e1]
  clear e1 hAe
  obtain ⟨hx, hb, hr, hml, hown, hts, hlocks, hK, hA⟩ := id C0
  have hl : lv_has ls 5 [(0, .ref (g 399)), (1, .int p0), (2, .int p1), (3, .int p2)] := hl
  rw [f_X3_leastSlack] at h
  refine lv_aload_n hx hb dX3_leastSlack_0 rfl (lv_at hl 0 rfl) ?_
  refine lv_iload_n hx hb dX3_leastSlack_1 rfl (lv_at hl 1 rfl) ?_
  refine lv_iload_n hx hb dX3_leastSlack_2 rfl (lv_at hl 2 rfl) ?_
  refine lv_iload_n hx hb dX3_leastSlack_3 rfl (lv_at hl 3 rfl) ?_
  obtain ⟨r1, e2, h⟩ := bd_some h
  refine x_callVI (As := [.int p0, .int p1, .int p2]) (rest := []) (n := 3) ⟨hx, hb, hml, hown, hts⟩ (c_X3_bestStrike l D cy g ua us ud p0 p1 p2 r1 e2) gX3_leastSlack_X3_bestStrike rfl hd_X3_bestStrike ⟨Nat.le_of_ble_eq_true rfl, Nat.le_of_ble_eq_true rfl⟩ ⟨rfl, rfl⟩ hK (sp_all _) (sp_all _) hP hD hS hA 10 rfl rfl rfl hl.1 rfl (Nat.le_of_ble_eq_true rfl) dX3_leastSlack_4 ⟨Nat.zero_le _, Nat.zero_le _⟩ (fun H locs hP hD hS => ?_)
  clear e2
  refine lv_istore (lv' := [(4, .int r1), (0, .ref (g 399)), (1, .int p0), (2, .int p1), (3, .int p2)]) hx hb dX3_leastSlack_7 hl (by decide) rfl (fun ls hl => ?_)
  refine lv_iload hx hb dX3_leastSlack_9 (lv_at hl 0 rfl) ?_
  refine lv_iconst (v := -1) hx hb dX3_leastSlack_11 (by decide) ?_
  refine x_icmp_ne (tgt := 20) hx hb dX3_leastSlack_12 (by decide) h (fun _ h => ?_) (fun _ h => ?_)
  · refine lv_bipush (v := -100) hx hb dX3_leastSlack_15 (by decide) ?_
    refine lv_goto (tgt := 36) hx hb dX3_leastSlack_17 (by decide) ?_
    cases h
    exact x_iret hx hb hr hlocks hK hP hD hS dX3_leastSlack_36 rfl rfl
  · refine lv_aload_n hx hb dX3_leastSlack_20 rfl (lv_at hl 1 rfl) ?_
    refine lv_iload_n hx hb dX3_leastSlack_21 rfl (lv_at hl 3 rfl) ?_
    refine lv_iload_n hx hb dX3_leastSlack_22 rfl (lv_at hl 4 rfl) ?_
    refine lv_aload_n hx hb dX3_leastSlack_23 rfl (lv_at hl 1 rfl) ?_
    refine va_get (D := D) (ci := 2) (v := .ref (g 99)) (C := RX3) (T := TX3) (N := 4) hx hb hts ki_X3_leastSlack_X3 hown hK hP 10 rfl rfl 0 (by decide) (hts _ k_X3_leastSlack_0) (fun _ h9 => h9) rfl dX3_leastSlack_24 ?_
    refine lv_iload_n hx hb dX3_leastSlack_27 rfl (lv_at hl 2 rfl) ?_
    refine lv_iload hx hb dX3_leastSlack_28 (lv_at hl 0 rfl) ?_
    obtain ⟨r3, e4, h⟩ := bd_some h
    refine x_callVL (As := [.int p0, .int r1]) (rest := [.int p2, .int p1, .ref (g 399)]) (n := 2) ⟨hx, hb, hml, hown, hts⟩ (c_X0_knownPath l D cy g ua p0 r1 r3 e4) gX3_leastSlack_X0_knownPath rfl hd_X0_knownPath ⟨Nat.le_of_ble_eq_true rfl, Nat.le_of_ble_eq_true rfl⟩ ⟨rfl, rfl⟩ hK (sp3_X0 cy g ua us ud) (sp3_X0 cy g ua us ud) hP hD hS hA 0 rfl rfl rfl hl.1 rfl (Nat.le_of_ble_eq_true rfl) dX3_leastSlack_30 ⟨Nat.zero_le _, Nat.zero_le _⟩ (fun H locs hP hD hS => ?_)
    clear e4
    obtain ⟨r5, e6, h⟩ := bd_some h
    refine x_callVI (As := [.int p1, .int p2, .long r3]) (rest := []) (n := 3) ⟨hx, hb, hml, hown, hts⟩ (c_X3_slackFor l D cy g ua us ud p1 p2 r3 r5 e6) gX3_leastSlack_X3_slackFor rfl hd_X3_slackFor ⟨Nat.le_of_ble_eq_true rfl, Nat.le_of_ble_eq_true rfl⟩ ⟨rfl, rfl⟩ hK (sp_all _) (sp_all _) hP hD hS hA 10 rfl rfl rfl hl.1 rfl (Nat.le_of_ble_eq_true rfl) dX3_leastSlack_33 ⟨Nat.zero_le _, Nat.zero_le _⟩ (fun H locs hP hD hS => ?_)
    clear e6
    cases h
    exact x_iret hx hb hr hlocks hK hP hD hS dX3_leastSlack_36 rfl rfl
theorem hd_X3_bestStand : yX3_bestStand.cls = RX3 ∧ yX3_bestStand.cls ≠ "java/lang/invoke/MethodHandle" ∧ yX3_bestStand.cls ≠ "java/lang/invoke/VarHandle" ∧ (parseMethodDescriptor yX3_bestStand.desc).map (fun d => d.parameters.length) = some 2 := by decide +kernel
set_option maxHeartbeats 4000000 in
set_option maxRecDepth 100000 in
theorem w_X3_bestStand_40 {p : Program} {l : Launch} {e : Env} {s : State} {m : MethodId} {below : List Frame} {meth : Method} {c : Code} {args : Array Value} {D : va_G} {cy : Nat → ClassId} {g : Nat → Nat} {A : Nat → Prop} {ua : St} {us : St} {ud : St} {r : Int32} (C0 : Cx p s m meth c args cX3_bestStand 7 (some .int) wsX3_bestStand RX3 D cy A) {k_9 : Int32 → Int32 → Int32 → Int32 → Int32 → Option (Int32)} (hk_9 : ∀ (l1 : Int32) (l2 : Int32) (l3 : Int32) (l4 : Int32) (l5 : Int32), k_9 l1 l2 l3 l4 l5 = some r → ∀ (H : Heap) (locs : List Loc) (ls : Array Slot), va_P D vwCl (wD3 cy g ua us ud) H → va_D A (wD3 cy g ua us ud) → va_S A s.heap H locs → lv_has ls 7 [(0, .ref (g 399)), (1, .int l1), (2, .int l2), (3, .int l3), (4, .int l4), (5, .int l5)] → W p l e (rmH 5) s m args below meth c H locs 0 0 (QI below args s A D cy (wD3 cy g ua us ud) r) (F0 m 9 ls [])) : ∀ (l1 : Int32) (l2 : Int32) (l3 : Int32) (l4 : Int32) (l5 : Int32), f_X3_bestStand_40 ua us k_9 l1 l2 l3 l4 l5 = some r → ∀ (H : Heap) (locs : List Loc) (ls : Array Slot), va_P D vwCl (wD3 cy g ua us ud) H → va_D A (wD3 cy g ua us ud) → va_S A s.heap H locs → lv_has ls 7 [(0, .ref (g 399)), (1, .int l1), (2, .int l2), (3, .int l3), (4, .int l4), (5, .int l5)] → W p l e (rmH 5) s m args below meth c H locs 0 0 (QI below args s A D cy (wD3 cy g ua us ud) r) (F0 m 40 ls []) := by
  obtain ⟨hx, hb, hr, hml, hown, hts, hlocks, hK, hA⟩ := id C0
  intro l1 l2 l3 l4 l5 h H locs ls hP hD hS hl
  rw [f_X3_bestStand_40] at h
  obtain ⟨v3, ev3, h⟩ := nm_ex h
  refine lv_iinc (v := v3) (lv' := [(5, .int v3), (0, .ref (g 399)), (1, .int l1), (2, .int l2), (3, .int l3), (4, .int l4)]) hx hb dX3_bestStand_40 hl (k := 5) rfl (by rw [ev3]; rfl) (by decide) rfl (fun ls hl => ?_)
  clear ev3
  refine lv_goto (tgt := 9) hx hb dX3_bestStand_43 (by decide) ?_
  exact hk_9 l1 l2 l3 l4 v3 h _ _ ls hP hD hS (lv_sub hl [1, 2, 3, 4, 5, 0] rfl)
set_option maxHeartbeats 4000000 in
set_option maxRecDepth 100000 in
theorem w_X3_bestStand_9 {p : Program} {l : Launch} {e : Env} {s : State} {m : MethodId} {below : List Frame} {meth : Method} {c : Code} {args : Array Value} {D : va_G} {cy : Nat → ClassId} {g : Nat → Nat} {A : Nat → Prop} {ua : St} {us : St} {ud : St} {r : Int32} (C0 : Cx p s m meth c args cX3_bestStand 7 (some .int) wsX3_bestStand RX3 D cy A) : ∀ (nn : Nat) (l1 : Int32) (l2 : Int32) (l3 : Int32) (l4 : Int32) (l5 : Int32), f_X3_bestStand_9 ua us nn l1 l2 l3 l4 l5 = some r → ∀ (H : Heap) (locs : List Loc) (ls : Array Slot), va_P D vwCl (wD3 cy g ua us ud) H → va_D A (wD3 cy g ua us ud) → va_S A s.heap H locs → lv_has ls 7 [(0, .ref (g 399)), (1, .int l1), (2, .int l2), (3, .int l3), (4, .int l4), (5, .int l5)] → W p l e (rmH 5) s m args below meth c H locs 0 0 (QI below args s A D cy (wD3 cy g ua us ud) r) (F0 m 9 ls []) := by
  obtain ⟨hx, hb, hr, hml, hown, hts, hlocks, hK, hA⟩ := id C0
  intro nn
  induction nn with
  | zero => intro l1 l2 l3 l4 l5 h; rw [f_X3_bestStand_9] at h; cases h
  | succ nn ih =>
    intro l1 l2 l3 l4 l5 h H locs ls hP hD hS hl
    rw [f_X3_bestStand_9] at h
    refine lv_iload hx hb dX3_bestStand_9 (lv_at hl 5 rfl) ?_
    refine lv_bipush (v := 16) hx hb dX3_bestStand_11 (by decide) ?_
    refine x_icmp_ge (tgt := 46) hx hb dX3_bestStand_13 (by decide) h (fun _ h => ?_) (fun _ h => ?_)
    · refine lv_iload_n hx hb dX3_bestStand_46 rfl (lv_at hl 3 rfl) ?_
      cases h
      exact x_iret hx hb hr hlocks hK hP hD hS dX3_bestStand_47 rfl rfl
    · refine lv_aload_n hx hb dX3_bestStand_16 rfl (lv_at hl 0 rfl) ?_
      refine lv_iload_n hx hb dX3_bestStand_17 rfl (lv_at hl 2 rfl) ?_
      refine lv_iload_n hx hb dX3_bestStand_18 rfl (lv_at hl 1 rfl) ?_
      refine lv_iload hx hb dX3_bestStand_19 (lv_at hl 5 rfl) ?_
      obtain ⟨r1, e2, h⟩ := bd_some h
      refine x_callVI (As := [.int l2, .int l1, .int l5]) (rest := []) (n := 3) ⟨hx, hb, hml, hown, hts⟩ (c_X3_leastSlack l D cy g ua us ud l2 l1 l5 r1 e2) gX3_bestStand_X3_leastSlack rfl hd_X3_leastSlack ⟨Nat.le_of_ble_eq_true rfl, Nat.le_of_ble_eq_true rfl⟩ ⟨rfl, rfl⟩ hK (sp_all _) (sp_all _) hP hD hS hA 10 rfl rfl rfl hl.1 rfl (Nat.le_of_ble_eq_true rfl) dX3_bestStand_21 ⟨Nat.zero_le _, Nat.zero_le _⟩ (fun H locs hP hD hS => ?_)
      clear e2
      refine lv_istore (lv' := [(6, .int r1), (0, .ref (g 399)), (1, .int l1), (2, .int l2), (3, .int l3), (4, .int l4), (5, .int l5)]) hx hb dX3_bestStand_24 hl (by decide) rfl (fun ls hl => ?_)
      refine lv_iload hx hb dX3_bestStand_26 (lv_at hl 0 rfl) ?_
      refine lv_iload hx hb dX3_bestStand_28 (lv_at hl 5 rfl) ?_
      refine x_icmp_le (tgt := 40) hx hb dX3_bestStand_30 (by decide) h (fun _ h => ?_) (fun _ h => ?_)
      · exact w_X3_bestStand_40 C0 ih l1 l2 l3 l4 l5 h _ _ ls hP hD hS (lv_sub hl [1, 2, 3, 4, 5, 6] rfl)
      · refine lv_iload hx hb dX3_bestStand_33 (lv_at hl 6 rfl) ?_
        refine lv_istore_n (lv' := [(3, .int l5), (6, .int r1), (0, .ref (g 399)), (1, .int l1), (2, .int l2), (4, .int l4), (5, .int l5)]) hx hb dX3_bestStand_35 rfl hl (by decide) rfl (fun ls hl => ?_)
        refine lv_iload hx hb dX3_bestStand_36 (lv_at hl 1 rfl) ?_
        refine lv_istore (lv' := [(4, .int r1), (3, .int l5), (6, .int r1), (0, .ref (g 399)), (1, .int l1), (2, .int l2), (5, .int l5)]) hx hb dX3_bestStand_38 hl (by decide) rfl (fun ls hl => ?_)
        exact w_X3_bestStand_40 C0 ih l1 l2 l5 r1 l5 h _ _ ls hP hD hS (lv_sub hl [3, 4, 5, 1, 0, 6] rfl)
set_option maxHeartbeats 4000000 in
set_option maxRecDepth 100000 in
theorem c_X3_bestStand (l : Launch) (D : va_G) (cy : Nat → ClassId) (g : Nat → Nat) (ua : St) (us : St) (ud : St) (p0 : Int32) (p1 : Int32) (r : Int32) (h : f_X3_bestStand ua us p0 p1 = some r) : CtI l yX3_bestStand wsX3_bestStand (rmH 5) [.ref (g 399), .int p0, .int p1] D cy (wD3 cy g ua us ud) (wD3 cy g ua us ud) r := by
  refine ct_enter (D := D) (cy := cy) (cc := cX3_bestStand) (maxL := 7) (ret := (some .int)) (w := wD3 cy g ua us ud) (Qc := fun sz => va_Qi (fun r' (_ : Unit) => r' = r) (Bw D cy (va_A (wD3 cy g ua us ud) sz) (wD3 cy g ua us ud)) (va_A (wD3 cy g ua us ud) sz)) (by decide) rfl (Nat.le_of_ble_eq_true rfl) ?_
  intro p e s m below meth c A C0 hAe ls hl hP hD hS
  have e1 : MQ below ((fun sz => va_Qi (fun r' (_ : Unit) => r' = r) (Bw D cy (va_A (wD3 cy g ua us ud) sz) (wD3 cy g ua us ud)) (va_A (wD3 cy g ua us ud) sz)) s.heap.size) [.ref (g 399), .int p0, .int p1].toArray s 0 0 A = QI below [.ref (g 399), .int p0, .int p1].toArray s A D cy (wD3 cy g ua us ud) r := by rw [hAe]; rfl
  rw [e1]
  clear e1 hAe
  obtain ⟨hx, hb, hr, hml, hown, hts, hlocks, hK, hA⟩ := id C0
  have hl : lv_has ls 7 [(0, .ref (g 399)), (1, .int p0), (2, .int p1)] := hl
  rw [f_X3_bestStand] at h
  refine lv_iconst (v := -1) hx hb dX3_bestStand_0 (by decide) ?_
  refine lv_istore_n (lv' := [(3, .int (-1 : Int32)), (0, .ref (g 399)), (1, .int p0), (2, .int p1)]) hx hb dX3_bestStand_1 rfl hl (by decide) rfl (fun ls hl => ?_)
  refine lv_bipush (v := -100) hx hb dX3_bestStand_2 (by decide) ?_
  refine lv_istore (lv' := [(4, .int (-100 : Int32)), (3, .int (-1 : Int32)), (0, .ref (g 399)), (1, .int p0), (2, .int p1)]) hx hb dX3_bestStand_4 hl (by decide) rfl (fun ls hl => ?_)
  refine lv_iconst (v := 0) hx hb dX3_bestStand_6 (by decide) ?_
  refine lv_istore (lv' := [(5, .int (0 : Int32)), (4, .int (-100 : Int32)), (3, .int (-1 : Int32)), (0, .ref (g 399)), (1, .int p0), (2, .int p1)]) hx hb dX3_bestStand_7 hl (by decide) rfl (fun ls hl => ?_)
  exact w_X3_bestStand_9 C0 FU p0 p1 (-1 : Int32) (-100 : Int32) (0 : Int32) h _ _ ls hP hD hS (lv_sub hl [3, 4, 5, 2, 1, 0] rfl)
theorem k_X3_missedFrom_0 : Cond.fieldLink RX3 18 "FeatherHall$Duel" "air" "LFeatherHall$Air;" ∈ wsX3_missedFrom := (List.mem_cons_of_mem _ (List.mem_append_left _ (List.mem_append_left _ (List.mem_append_left _ (List.mem_append_left _ (List.mem_of_getElem? (i := 0) rfl))))))
theorem ki_X3_missedFrom_X3 : ∀ w ∈ u_ws RX3 TX3 4, w ∈ wsX3_missedFrom := fun _ hh => (List.mem_cons_of_mem _ (List.mem_append_left _ (List.mem_append_left _ (List.mem_append_right _ hh))))
theorem k_X3_missedFrom_1 : Cond.constant RX3 101 (65535) ∈ wsX3_missedFrom := (List.mem_cons_of_mem _ (List.mem_append_left _ (List.mem_append_left _ (List.mem_append_left _ (List.mem_append_left _ (List.mem_of_getElem? (i := 2) rfl))))))
theorem k_X3_missedFrom_2 : Cond.fieldLink RX3 22 "FeatherHall$Duel" "squad" "LFeatherHall$Squad;" ∈ wsX3_missedFrom := (List.mem_cons_of_mem _ (List.mem_append_left _ (List.mem_append_left _ (List.mem_append_left _ (List.mem_append_left _ (List.mem_of_getElem? (i := 1) rfl))))))
theorem hd_X3_missedFrom : yX3_missedFrom.cls = RX3 ∧ yX3_missedFrom.cls ≠ "java/lang/invoke/MethodHandle" ∧ yX3_missedFrom.cls ≠ "java/lang/invoke/VarHandle" ∧ (parseMethodDescriptor yX3_missedFrom.desc).map (fun d => d.parameters.length) = some 2 := by decide +kernel
set_option maxHeartbeats 4000000 in
set_option maxRecDepth 100000 in
theorem w_X3_missedFrom_93 {p : Program} {l : Launch} {e : Env} {s : State} {m : MethodId} {below : List Frame} {meth : Method} {c : Code} {args : Array Value} {D : va_G} {cy : Nat → ClassId} {g : Nat → Nat} {A : Nat → Prop} {ua : St} {us : St} {ud : St} {r : Int32} (C0 : Cx p s m meth c args cX3_missedFrom 9 (some .int) wsX3_missedFrom RX3 D cy A) {k_5 : Int32 → Int32 → Int32 → Int32 → Option (Int32)} (hk_5 : ∀ (l1 : Int32) (l2 : Int32) (l3 : Int32) (l4 : Int32), k_5 l1 l2 l3 l4 = some r → ∀ (H : Heap) (locs : List Loc) (ls : Array Slot), va_P D vwCl (wD3 cy g ua us ud) H → va_D A (wD3 cy g ua us ud) → va_S A s.heap H locs → lv_has ls 9 [(0, .ref (g 399)), (1, .int l1), (2, .int l2), (3, .int l3), (4, .int l4)] → W p l e (rmH 3) s m args below meth c H locs 0 0 (QI below args s A D cy (wD3 cy g ua us ud) r) (F0 m 5 ls [])) : ∀ (l1 : Int32) (l2 : Int32) (l3 : Int32) (l4 : Int32), f_X3_missedFrom_93 ua us k_5 l1 l2 l3 l4 = some r → ∀ (H : Heap) (locs : List Loc) (ls : Array Slot), va_P D vwCl (wD3 cy g ua us ud) H → va_D A (wD3 cy g ua us ud) → va_S A s.heap H locs → lv_has ls 9 [(0, .ref (g 399)), (1, .int l1), (2, .int l2), (3, .int l3), (4, .int l4)] → W p l e (rmH 3) s m args below meth c H locs 0 0 (QI below args s A D cy (wD3 cy g ua us ud) r) (F0 m 93 ls []) := by
  obtain ⟨hx, hb, hr, hml, hown, hts, hlocks, hK, hA⟩ := id C0
  intro l1 l2 l3 l4 h H locs ls hP hD hS hl
  rw [f_X3_missedFrom_93] at h
  obtain ⟨v16, ev16, h⟩ := nm_ex h
  refine lv_iinc (v := v16) (lv' := [(4, .int v16), (0, .ref (g 399)), (1, .int l1), (2, .int l2), (3, .int l3)]) hx hb dX3_missedFrom_93 hl (k := 4) rfl (by rw [ev16]; rfl) (by decide) rfl (fun ls hl => ?_)
  clear ev16
  refine lv_goto (tgt := 5) hx hb dX3_missedFrom_96 (by decide) ?_
  exact hk_5 l1 l2 l3 v16 h _ _ ls hP hD hS (lv_sub hl [1, 2, 3, 4, 0] rfl)
set_option maxHeartbeats 4000000 in
set_option maxRecDepth 100000 in
theorem w_X3_missedFrom_45 {p : Program} {l : Launch} {e : Env} {s : State} {m : MethodId} {below : List Frame} {meth : Method} {c : Code} {args : Array Value} {D : va_G} {cy : Nat → ClassId} {g : Nat → Nat} {A : Nat → Prop} {ua : St} {us : St} {ud : St} {r : Int32} (C0 : Cx p s m meth c args cX3_missedFrom 9 (some .int) wsX3_missedFrom RX3 D cy A) {k_5 : Int32 → Int32 → Int32 → Int32 → Option (Int32)} (hk_5 : ∀ (l1 : Int32) (l2 : Int32) (l3 : Int32) (l4 : Int32), k_5 l1 l2 l3 l4 = some r → ∀ (H : Heap) (locs : List Loc) (ls : Array Slot), va_P D vwCl (wD3 cy g ua us ud) H → va_D A (wD3 cy g ua us ud) → va_S A s.heap H locs → lv_has ls 9 [(0, .ref (g 399)), (1, .int l1), (2, .int l2), (3, .int l3), (4, .int l4)] → W p l e (rmH 3) s m args below meth c H locs 0 0 (QI below args s A D cy (wD3 cy g ua us ud) r) (F0 m 5 ls [])) : ∀ (nn : Nat) (l1 : Int32) (l2 : Int32) (l3 : Int32) (l4 : Int32) (l5 : Int64) (l7 : Int32) (l8 : Int32), f_X3_missedFrom_45 ua us k_5 nn l1 l2 l3 l4 l5 l7 l8 = some r → ∀ (H : Heap) (locs : List Loc) (ls : Array Slot), va_P D vwCl (wD3 cy g ua us ud) H → va_D A (wD3 cy g ua us ud) → va_S A s.heap H locs → lv_has ls 9 [(0, .ref (g 399)), (1, .int l1), (2, .int l2), (3, .int l3), (4, .int l4), (5, .long l5), (7, .int l7), (8, .int l8)] → W p l e (rmH 3) s m args below meth c H locs 0 0 (QI below args s A D cy (wD3 cy g ua us ud) r) (F0 m 45 ls []) := by
  obtain ⟨hx, hb, hr, hml, hown, hts, hlocks, hK, hA⟩ := id C0
  intro nn
  induction nn with
  | zero => intro l1 l2 l3 l4 l5 l7 l8 h; rw [f_X3_missedFrom_45] at h; cases h
  | succ nn ih =>
    intro l1 l2 l3 l4 l5 l7 l8 h H locs ls hP hD hS hl
    rw [f_X3_missedFrom_45] at h
    refine lv_iload hx hb dX3_missedFrom_45 (lv_at hl 7 rfl) ?_
    refine lv_lload hx hb dX3_missedFrom_47 (lv_at hl 5 rfl) ?_
    obtain ⟨r7, e8, h⟩ := bd_some h
    refine x_callSI (As := [.long l5]) (rest := [.int l8]) (n := 1) ⟨hx, hb, hml, hown, hts⟩ (c_X0_landingOf l D cy  l5 r7 e8) gX3_missedFrom_X0_landingOf rfl hd_X0_landingOf ⟨Nat.le_of_ble_eq_true rfl, Nat.le_of_ble_eq_true rfl⟩ ⟨rfl, rfl⟩ hK (sp_nil _) (sp_nil _) hP hD hS hA rfl hl.1 rfl (Nat.le_of_ble_eq_true rfl) dX3_missedFrom_49 ⟨Nat.zero_le _, Nat.zero_le _⟩ (fun H locs hP hD hS => ?_)
    clear e8
    refine x_icmp_gt (tgt := 83) hx hb dX3_missedFrom_52 (by decide) h (fun _ h => ?_) (fun _ h => ?_)
    · refine lv_iload_n hx hb dX3_missedFrom_83 rfl (lv_at hl 3 rfl) ?_
      refine lv_ldc hx hb hown (hts _ k_X3_missedFrom_1) dX3_missedFrom_84 ?_
      refine lv_iload hx hb dX3_missedFrom_86 (lv_at hl 6 rfl) ?_
      refine lv_iconst (v := -1) hx hb dX3_missedFrom_88 (by decide) ?_
      refine lv_ixor hx hb dX3_missedFrom_89 ?_
      refine lv_iand hx hb dX3_missedFrom_90 ?_
      refine lv_ior hx hb dX3_missedFrom_91 ?_
      refine x_nm h (fun v9 h => ?_)
      refine lv_istore_n (lv' := [(3, .int v9), (0, .ref (g 399)), (1, .int l1), (2, .int l2), (4, .int l4), (5, .long l5), (7, .int l7), (8, .int l8)]) hx hb dX3_missedFrom_92 rfl hl (by decide) rfl (fun ls hl => ?_)
      exact w_X3_missedFrom_93 C0 hk_5 l1 l2 v9 l4 h _ _ ls hP hD hS (lv_sub hl [1, 2, 3, 0, 4] rfl)
    · refine lv_iload hx hb dX3_missedFrom_55 (lv_at hl 6 rfl) ?_
      refine lv_aload_n hx hb dX3_missedFrom_57 rfl (lv_at hl 0 rfl) ?_
      refine va_get (D := D) (ci := 2) (v := .ref (g 699)) (C := RX3) (T := TX3) (N := 4) hx hb hts ki_X3_missedFrom_X3 hown hK hP 10 rfl rfl 1 (by decide) (hts _ k_X3_missedFrom_2) (fun _ h9 => h9) rfl dX3_missedFrom_58 ?_
      refine lv_iload_n hx hb dX3_missedFrom_61 rfl (lv_at hl 1 rfl) ?_
      refine lv_lload hx hb dX3_missedFrom_62 (lv_at hl 5 rfl) ?_
      refine lv_iload hx hb dX3_missedFrom_64 (lv_at hl 7 rfl) ?_
      obtain ⟨r10, e11, h⟩ := bd_some h
      refine x_callSI (As := [.long l5, .int l8]) (rest := [.int l1, .ref (g 699), .int l7]) (n := 2) ⟨hx, hb, hml, hown, hts⟩ (c_X0_cellAt l D cy  l5 l8 r10 e11) gX3_missedFrom_X0_cellAt rfl hd_X0_cellAt ⟨Nat.le_of_ble_eq_true rfl, Nat.le_of_ble_eq_true rfl⟩ ⟨rfl, rfl⟩ hK (sp_nil _) (sp_nil _) hP hD hS hA rfl hl.1 rfl (Nat.le_of_ble_eq_true rfl) dX3_missedFrom_66 ⟨Nat.zero_le _, Nat.zero_le _⟩ (fun H locs hP hD hS => ?_)
      clear e11
      refine lv_iload hx hb dX3_missedFrom_69 (lv_at hl 7 rfl) ?_
      obtain ⟨r12, e13, h⟩ := bd_some h
      refine x_callVI (As := [.int l1, .int r10, .int l8]) (rest := [.int l7]) (n := 3) ⟨hx, hb, hml, hown, hts⟩ (c_X6_meetingCells l D cy g us l1 r10 l8 r12 e13) gX3_missedFrom_X6_meetingCells rfl hd_X6_meetingCells ⟨Nat.le_of_ble_eq_true rfl, Nat.le_of_ble_eq_true rfl⟩ ⟨rfl, rfl⟩ hK (sp3_X6 cy g ua us ud) (sp3_X6 cy g ua us ud) hP hD hS hA 0 rfl rfl rfl hl.1 rfl (Nat.le_of_ble_eq_true rfl) dX3_missedFrom_71 ⟨Nat.zero_le _, Nat.zero_le _⟩ (fun H locs hP hD hS => ?_)
      clear e13
      refine lv_ior hx hb dX3_missedFrom_74 ?_
      refine x_nm h (fun v14 h => ?_)
      refine lv_istore (lv' := [(7, .int v14), (0, .ref (g 399)), (1, .int l1), (2, .int l2), (3, .int l3), (4, .int l4), (5, .long l5), (8, .int l8)]) hx hb dX3_missedFrom_75 hl (by decide) rfl (fun ls hl => ?_)
      obtain ⟨v15, ev15, h⟩ := nm_ex h
      refine lv_iinc (v := v15) (lv' := [(8, .int v15), (7, .int v14), (0, .ref (g 399)), (1, .int l1), (2, .int l2), (3, .int l3), (4, .int l4), (5, .long l5)]) hx hb dX3_missedFrom_77 hl (k := 7) rfl (by rw [ev15]; rfl) (by decide) rfl (fun ls hl => ?_)
      clear ev15
      refine lv_goto (tgt := 45) hx hb dX3_missedFrom_80 (by decide) ?_
      exact ih l1 l2 l3 l4 l5 v14 v15 h _ _ ls hP hD hS (lv_sub hl [2, 3, 4, 5, 6, 7, 1, 0] rfl)
set_option maxHeartbeats 4000000 in
set_option maxRecDepth 100000 in
theorem w_X3_missedFrom_5 {p : Program} {l : Launch} {e : Env} {s : State} {m : MethodId} {below : List Frame} {meth : Method} {c : Code} {args : Array Value} {D : va_G} {cy : Nat → ClassId} {g : Nat → Nat} {A : Nat → Prop} {ua : St} {us : St} {ud : St} {r : Int32} (C0 : Cx p s m meth c args cX3_missedFrom 9 (some .int) wsX3_missedFrom RX3 D cy A) : ∀ (nn : Nat) (l1 : Int32) (l2 : Int32) (l3 : Int32) (l4 : Int32), f_X3_missedFrom_5 ua us nn l1 l2 l3 l4 = some r → ∀ (H : Heap) (locs : List Loc) (ls : Array Slot), va_P D vwCl (wD3 cy g ua us ud) H → va_D A (wD3 cy g ua us ud) → va_S A s.heap H locs → lv_has ls 9 [(0, .ref (g 399)), (1, .int l1), (2, .int l2), (3, .int l3), (4, .int l4)] → W p l e (rmH 3) s m args below meth c H locs 0 0 (QI below args s A D cy (wD3 cy g ua us ud) r) (F0 m 5 ls []) := by
  obtain ⟨hx, hb, hr, hml, hown, hts, hlocks, hK, hA⟩ := id C0
  intro nn
  induction nn with
  | zero => intro l1 l2 l3 l4 h; rw [f_X3_missedFrom_5] at h; cases h
  | succ nn ih =>
    intro l1 l2 l3 l4 h H locs ls hP hD hS hl
    rw [f_X3_missedFrom_5] at h
    refine lv_iload hx hb dX3_missedFrom_5 (lv_at hl 4 rfl) ?_
    refine lv_bipush (v := 64) hx hb dX3_missedFrom_7 (by decide) ?_
    refine x_icmp_ge (tgt := 99) hx hb dX3_missedFrom_9 (by decide) h (fun _ h => ?_) (fun _ h => ?_)
    · refine lv_iload_n hx hb dX3_missedFrom_99 rfl (lv_at hl 3 rfl) ?_
      cases h
      exact x_iret hx hb hr hlocks hK hP hD hS dX3_missedFrom_100 rfl rfl
    · refine lv_aload_n hx hb dX3_missedFrom_12 rfl (lv_at hl 0 rfl) ?_
      refine va_get (D := D) (ci := 2) (v := .ref (g 99)) (C := RX3) (T := TX3) (N := 4) hx hb hts ki_X3_missedFrom_X3 hown hK hP 10 rfl rfl 0 (by decide) (hts _ k_X3_missedFrom_0) (fun _ h9 => h9) rfl dX3_missedFrom_13 ?_
      refine lv_iload_n hx hb dX3_missedFrom_16 rfl (lv_at hl 2 rfl) ?_
      refine lv_iload hx hb dX3_missedFrom_17 (lv_at hl 4 rfl) ?_
      obtain ⟨r1, e2, h⟩ := bd_some h
      refine x_callVL (As := [.int l2, .int l4]) (rest := []) (n := 2) ⟨hx, hb, hml, hown, hts⟩ (c_X0_knownPath l D cy g ua l2 l4 r1 e2) gX3_missedFrom_X0_knownPath rfl hd_X0_knownPath ⟨Nat.le_of_ble_eq_true rfl, Nat.le_of_ble_eq_true rfl⟩ ⟨rfl, rfl⟩ hK (sp3_X0 cy g ua us ud) (sp3_X0 cy g ua us ud) hP hD hS hA 0 rfl rfl rfl hl.1 rfl (Nat.le_of_ble_eq_true rfl) dX3_missedFrom_19 ⟨Nat.zero_le _, Nat.zero_le _⟩ (fun H locs hP hD hS => ?_)
      clear e2
      refine lv_lstore (lv' := [(5, .long r1), (0, .ref (g 399)), (1, .int l1), (2, .int l2), (3, .int l3), (4, .int l4)]) hx hb dX3_missedFrom_22 hl (by decide) rfl (fun ls hl => ?_)
      refine lv_lload hx hb dX3_missedFrom_24 (lv_at hl 0 rfl) ?_
      obtain ⟨r3, e4, h⟩ := bd_some h
      refine x_callSI (As := [.long r1]) (rest := []) (n := 1) ⟨hx, hb, hml, hown, hts⟩ (c_X0_isNet l D cy  r1 r3 e4) gX3_missedFrom_X0_isNet rfl hd_X0_isNet ⟨Nat.le_of_ble_eq_true rfl, Nat.le_of_ble_eq_true rfl⟩ ⟨rfl, rfl⟩ hK (sp_nil _) (sp_nil _) hP hD hS hA rfl hl.1 rfl (Nat.le_of_ble_eq_true rfl) dX3_missedFrom_26 ⟨Nat.zero_le _, Nat.zero_le _⟩ (fun H locs hP hD hS => ?_)
      clear e4
      refine x_if_eq (tgt := 35) hx hb dX3_missedFrom_29 (by decide) h (fun _ h => ?_) (fun _ h => ?_)
      · refine lv_iconst (v := 0) hx hb dX3_missedFrom_35 (by decide) ?_
        refine lv_istore (lv' := [(7, .int (0 : Int32)), (5, .long r1), (0, .ref (g 399)), (1, .int l1), (2, .int l2), (3, .int l3), (4, .int l4)]) hx hb dX3_missedFrom_36 hl (by decide) rfl (fun ls hl => ?_)
        refine lv_lload hx hb dX3_missedFrom_38 (lv_at hl 1 rfl) ?_
        obtain ⟨r5, e6, h⟩ := bd_some h
        refine x_callSI (As := [.long r1]) (rest := []) (n := 1) ⟨hx, hb, hml, hown, hts⟩ (c_X0_firstMetOf l D cy  r1 r5 e6) gX3_missedFrom_X0_firstMetOf rfl hd_X0_firstMetOf ⟨Nat.le_of_ble_eq_true rfl, Nat.le_of_ble_eq_true rfl⟩ ⟨rfl, rfl⟩ hK (sp_nil _) (sp_nil _) hP hD hS hA rfl hl.1 rfl (Nat.le_of_ble_eq_true rfl) dX3_missedFrom_40 ⟨Nat.zero_le _, Nat.zero_le _⟩ (fun H locs hP hD hS => ?_)
        clear e6
        refine lv_istore (lv' := [(8, .int r5), (7, .int (0 : Int32)), (5, .long r1), (0, .ref (g 399)), (1, .int l1), (2, .int l2), (3, .int l3), (4, .int l4)]) hx hb dX3_missedFrom_43 hl (by decide) rfl (fun ls hl => ?_)
        exact w_X3_missedFrom_45 C0 ih FU l1 l2 l3 l4 r1 (0 : Int32) r5 h _ _ ls hP hD hS (lv_sub hl [3, 4, 5, 6, 7, 2, 1, 0] rfl)
      · refine lv_goto (tgt := 93) hx hb dX3_missedFrom_32 (by decide) ?_
        exact w_X3_missedFrom_93 C0 ih l1 l2 l3 l4 h _ _ ls hP hD hS (lv_sub hl [1, 2, 3, 4, 5] rfl)
set_option maxHeartbeats 4000000 in
set_option maxRecDepth 100000 in
theorem c_X3_missedFrom (l : Launch) (D : va_G) (cy : Nat → ClassId) (g : Nat → Nat) (ua : St) (us : St) (ud : St) (p0 : Int32) (p1 : Int32) (r : Int32) (h : f_X3_missedFrom ua us p0 p1 = some r) : CtI l yX3_missedFrom wsX3_missedFrom (rmH 3) [.ref (g 399), .int p0, .int p1] D cy (wD3 cy g ua us ud) (wD3 cy g ua us ud) r := by
  refine ct_enter (D := D) (cy := cy) (cc := cX3_missedFrom) (maxL := 9) (ret := (some .int)) (w := wD3 cy g ua us ud) (Qc := fun sz => va_Qi (fun r' (_ : Unit) => r' = r) (Bw D cy (va_A (wD3 cy g ua us ud) sz) (wD3 cy g ua us ud)) (va_A (wD3 cy g ua us ud) sz)) (by decide) rfl (Nat.le_of_ble_eq_true rfl) ?_
  intro p e s m below meth c A C0 hAe ls hl hP hD hS
  have e1 : MQ below ((fun sz => va_Qi (fun r' (_ : Unit) => r' = r) (Bw D cy (va_A (wD3 cy g ua us ud) sz) (wD3 cy g ua us ud)) (va_A (wD3 cy g ua us ud) sz)) s.heap.size) [.ref (g 399), .int p0, .int p1].toArray s 0 0 A = QI below [.ref (g 399), .int p0, .int p1].toArray s A D cy (wD3 cy g ua us ud) r := by rw [hAe]; rfl
  rw [e1]
  clear e1 hAe
  obtain ⟨hx, hb, hr, hml, hown, hts, hlocks, hK, hA⟩ := id C0
  have hl : lv_has ls 9 [(0, .ref (g 399)), (1, .int p0), (2, .int p1)] := hl
  rw [f_X3_missedFrom] at h
  refine lv_iconst (v := 0) hx hb dX3_missedFrom_0 (by decide) ?_
  refine lv_istore_n (lv' := [(3, .int (0 : Int32)), (0, .ref (g 399)), (1, .int p0), (2, .int p1)]) hx hb dX3_missedFrom_1 rfl hl (by decide) rfl (fun ls hl => ?_)
  refine lv_iconst (v := 0) hx hb dX3_missedFrom_2 (by decide) ?_
  refine lv_istore (lv' := [(4, .int (0 : Int32)), (3, .int (0 : Int32)), (0, .ref (g 399)), (1, .int p0), (2, .int p1)]) hx hb dX3_missedFrom_3 hl (by decide) rfl (fun ls hl => ?_)
  exact w_X3_missedFrom_5 C0 FU p0 p1 (0 : Int32) (0 : Int32) h _ _ ls hP hD hS (lv_sub hl [2, 3, 4, 1, 0] rfl)
theorem k_X3_heldAgainst_0 : Cond.constant RX3 101 (65535) ∈ wsX3_heldAgainst := (List.mem_cons_of_mem _ (List.mem_append_left _ (List.mem_append_left _ (List.mem_append_left _ (List.mem_append_left _ (List.mem_of_getElem? (i := 0) rfl))))))
theorem k_X3_heldAgainst_1 : Cond.fieldLink RX3 18 "FeatherHall$Duel" "air" "LFeatherHall$Air;" ∈ wsX3_heldAgainst := (List.mem_cons_of_mem _ (List.mem_append_left _ (List.mem_append_left _ (List.mem_append_left _ (List.mem_append_left _ (List.mem_of_getElem? (i := 1) rfl))))))
theorem ki_X3_heldAgainst_X3 : ∀ w ∈ u_ws RX3 TX3 4, w ∈ wsX3_heldAgainst := fun _ hh => (List.mem_cons_of_mem _ (List.mem_append_left _ (List.mem_append_left _ (List.mem_append_right _ hh))))
theorem k_X3_heldAgainst_2 : Cond.fieldLink RX3 22 "FeatherHall$Duel" "squad" "LFeatherHall$Squad;" ∈ wsX3_heldAgainst := (List.mem_cons_of_mem _ (List.mem_append_left _ (List.mem_append_left _ (List.mem_append_left _ (List.mem_append_left _ (List.mem_of_getElem? (i := 2) rfl))))))
theorem k_X3_heldAgainst_3 : Cond.fieldLink RX3 9 "FeatherHall$Duel" "won" "[I" ∈ wsX3_heldAgainst := (List.mem_cons_of_mem _ (List.mem_append_left _ (List.mem_append_left _ (List.mem_append_left _ (List.mem_append_left _ (List.mem_of_getElem? (i := 3) rfl))))))
theorem hd_X3_heldAgainst : yX3_heldAgainst.cls = RX3 ∧ yX3_heldAgainst.cls ≠ "java/lang/invoke/MethodHandle" ∧ yX3_heldAgainst.cls ≠ "java/lang/invoke/VarHandle" ∧ (parseMethodDescriptor yX3_heldAgainst.desc).map (fun d => d.parameters.length) = some 3 := by decide +kernel
set_option maxHeartbeats 4000000 in
set_option maxRecDepth 100000 in
theorem w_X3_heldAgainst_134 {p : Program} {l : Launch} {e : Env} {s : State} {m : MethodId} {below : List Frame} {meth : Method} {c : Code} {args : Array Value} {D : va_G} {cy : Nat → ClassId} {g : Nat → Nat} {A : Nat → Prop} {ua : St} {us : St} {ud : St} {r : Int32} (C0 : Cx p s m meth c args cX3_heldAgainst 13 (some .int) wsX3_heldAgainst RX3 D cy A) {k_7 : Int32 → Int32 → Int32 → Int32 → Int32 → Option (Int32)} (hk_7 : ∀ (l1 : Int32) (l2 : Int32) (l3 : Int32) (l4 : Int32) (l5 : Int32), k_7 l1 l2 l3 l4 l5 = some r → ∀ (H : Heap) (locs : List Loc) (ls : Array Slot), va_P D vwCl (wD3 cy g ua us ud) H → va_D A (wD3 cy g ua us ud) → va_S A s.heap H locs → lv_has ls 13 [(0, .ref (g 399)), (1, .int l1), (2, .int l2), (3, .int l3), (4, .int l4), (5, .int l5)] → W p l e (rmH 3) s m args below meth c H locs 0 0 (QI below args s A D cy (wD3 cy g ua us ud) r) (F0 m 7 ls [])) {k_55 : Int32 → Int32 → Int32 → Int32 → Int32 → Int64 → Int32 → Int32 → Int32 → Option (Int32)} (hk_55 : ∀ (l1 : Int32) (l2 : Int32) (l3 : Int32) (l4 : Int32) (l5 : Int32) (l6 : Int64) (l8 : Int32) (l9 : Int32) (l10 : Int32), k_55 l1 l2 l3 l4 l5 l6 l8 l9 l10 = some r → ∀ (H : Heap) (locs : List Loc) (ls : Array Slot), va_P D vwCl (wD3 cy g ua us ud) H → va_D A (wD3 cy g ua us ud) → va_S A s.heap H locs → lv_has ls 13 [(0, .ref (g 399)), (1, .int l1), (2, .int l2), (3, .int l3), (4, .int l4), (5, .int l5), (6, .long l6), (8, .int l8), (9, .int l9), (10, .int l10)] → W p l e (rmH 3) s m args below meth c H locs 0 0 (QI below args s A D cy (wD3 cy g ua us ud) r) (F0 m 55 ls [])) : ∀ (l1 : Int32) (l2 : Int32) (l3 : Int32) (l4 : Int32) (l5 : Int32) (l6 : Int64) (l8 : Int32) (l9 : Int32) (l10 : Int32), f_X3_heldAgainst_134 ua us ud k_7 k_55 l1 l2 l3 l4 l5 l6 l8 l9 l10 = some r → ∀ (H : Heap) (locs : List Loc) (ls : Array Slot), va_P D vwCl (wD3 cy g ua us ud) H → va_D A (wD3 cy g ua us ud) → va_S A s.heap H locs → lv_has ls 13 [(0, .ref (g 399)), (1, .int l1), (2, .int l2), (3, .int l3), (4, .int l4), (5, .int l5), (6, .long l6), (8, .int l8), (9, .int l9), (10, .int l10)] → W p l e (rmH 3) s m args below meth c H locs 0 0 (QI below args s A D cy (wD3 cy g ua us ud) r) (F0 m 134 ls []) := by
  obtain ⟨hx, hb, hr, hml, hown, hts, hlocks, hK, hA⟩ := id C0
  intro l1 l2 l3 l4 l5 l6 l8 l9 l10 h H locs ls hP hD hS hl
  rw [f_X3_heldAgainst_134] at h
  obtain ⟨v23, ev23, h⟩ := nm_ex h
  refine lv_iinc (v := v23) (lv' := [(10, .int v23), (0, .ref (g 399)), (1, .int l1), (2, .int l2), (3, .int l3), (4, .int l4), (5, .int l5), (6, .long l6), (8, .int l8), (9, .int l9)]) hx hb dX3_heldAgainst_134 hl (k := 9) rfl (by rw [ev23]; rfl) (by decide) rfl (fun ls hl => ?_)
  clear ev23
  refine lv_goto (tgt := 55) hx hb dX3_heldAgainst_137 (by decide) ?_
  exact hk_55 l1 l2 l3 l4 l5 l6 l8 l9 v23 h _ _ ls hP hD hS (lv_sub hl [1, 2, 3, 4, 5, 6, 7, 8, 9, 0] rfl)
set_option maxHeartbeats 4000000 in
set_option maxRecDepth 100000 in
theorem w_X3_heldAgainst_147 {p : Program} {l : Launch} {e : Env} {s : State} {m : MethodId} {below : List Frame} {meth : Method} {c : Code} {args : Array Value} {D : va_G} {cy : Nat → ClassId} {g : Nat → Nat} {A : Nat → Prop} {ua : St} {us : St} {ud : St} {r : Int32} (C0 : Cx p s m meth c args cX3_heldAgainst 13 (some .int) wsX3_heldAgainst RX3 D cy A) {k_7 : Int32 → Int32 → Int32 → Int32 → Int32 → Option (Int32)} (hk_7 : ∀ (l1 : Int32) (l2 : Int32) (l3 : Int32) (l4 : Int32) (l5 : Int32), k_7 l1 l2 l3 l4 l5 = some r → ∀ (H : Heap) (locs : List Loc) (ls : Array Slot), va_P D vwCl (wD3 cy g ua us ud) H → va_D A (wD3 cy g ua us ud) → va_S A s.heap H locs → lv_has ls 13 [(0, .ref (g 399)), (1, .int l1), (2, .int l2), (3, .int l3), (4, .int l4), (5, .int l5)] → W p l e (rmH 3) s m args below meth c H locs 0 0 (QI below args s A D cy (wD3 cy g ua us ud) r) (F0 m 7 ls [])) : ∀ (l1 : Int32) (l2 : Int32) (l3 : Int32) (l4 : Int32) (l5 : Int32), f_X3_heldAgainst_147 ua us ud k_7 l1 l2 l3 l4 l5 = some r → ∀ (H : Heap) (locs : List Loc) (ls : Array Slot), va_P D vwCl (wD3 cy g ua us ud) H → va_D A (wD3 cy g ua us ud) → va_S A s.heap H locs → lv_has ls 13 [(0, .ref (g 399)), (1, .int l1), (2, .int l2), (3, .int l3), (4, .int l4), (5, .int l5)] → W p l e (rmH 3) s m args below meth c H locs 0 0 (QI below args s A D cy (wD3 cy g ua us ud) r) (F0 m 147 ls []) := by
  obtain ⟨hx, hb, hr, hml, hown, hts, hlocks, hK, hA⟩ := id C0
  intro l1 l2 l3 l4 l5 h H locs ls hP hD hS hl
  rw [f_X3_heldAgainst_147] at h
  obtain ⟨v22, ev22, h⟩ := nm_ex h
  refine lv_iinc (v := v22) (lv' := [(5, .int v22), (0, .ref (g 399)), (1, .int l1), (2, .int l2), (3, .int l3), (4, .int l4)]) hx hb dX3_heldAgainst_147 hl (k := 5) rfl (by rw [ev22]; rfl) (by decide) rfl (fun ls hl => ?_)
  clear ev22
  refine lv_goto (tgt := 7) hx hb dX3_heldAgainst_150 (by decide) ?_
  exact hk_7 l1 l2 l3 l4 v22 h _ _ ls hP hD hS (lv_sub hl [1, 2, 3, 4, 5, 0] rfl)
set_option maxHeartbeats 4000000 in
set_option maxRecDepth 100000 in
theorem w_X3_heldAgainst_55 {p : Program} {l : Launch} {e : Env} {s : State} {m : MethodId} {below : List Frame} {meth : Method} {c : Code} {args : Array Value} {D : va_G} {cy : Nat → ClassId} {g : Nat → Nat} {A : Nat → Prop} {ua : St} {us : St} {ud : St} {r : Int32} (C0 : Cx p s m meth c args cX3_heldAgainst 13 (some .int) wsX3_heldAgainst RX3 D cy A) {k_7 : Int32 → Int32 → Int32 → Int32 → Int32 → Option (Int32)} (hk_7 : ∀ (l1 : Int32) (l2 : Int32) (l3 : Int32) (l4 : Int32) (l5 : Int32), k_7 l1 l2 l3 l4 l5 = some r → ∀ (H : Heap) (locs : List Loc) (ls : Array Slot), va_P D vwCl (wD3 cy g ua us ud) H → va_D A (wD3 cy g ua us ud) → va_S A s.heap H locs → lv_has ls 13 [(0, .ref (g 399)), (1, .int l1), (2, .int l2), (3, .int l3), (4, .int l4), (5, .int l5)] → W p l e (rmH 3) s m args below meth c H locs 0 0 (QI below args s A D cy (wD3 cy g ua us ud) r) (F0 m 7 ls [])) : ∀ (nn : Nat) (l1 : Int32) (l2 : Int32) (l3 : Int32) (l4 : Int32) (l5 : Int32) (l6 : Int64) (l8 : Int32) (l9 : Int32) (l10 : Int32), f_X3_heldAgainst_55 ua us ud k_7 nn l1 l2 l3 l4 l5 l6 l8 l9 l10 = some r → ∀ (H : Heap) (locs : List Loc) (ls : Array Slot), va_P D vwCl (wD3 cy g ua us ud) H → va_D A (wD3 cy g ua us ud) → va_S A s.heap H locs → lv_has ls 13 [(0, .ref (g 399)), (1, .int l1), (2, .int l2), (3, .int l3), (4, .int l4), (5, .int l5), (6, .long l6), (8, .int l8), (9, .int l9), (10, .int l10)] → W p l e (rmH 3) s m args below meth c H locs 0 0 (QI below args s A D cy (wD3 cy g ua us ud) r) (F0 m 55 ls []) := by
  obtain ⟨hx, hb, hr, hml, hown, hts, hlocks, hK, hA⟩ := id C0
  intro nn
  induction nn with
  | zero => intro l1 l2 l3 l4 l5 l6 l8 l9 l10 h; rw [f_X3_heldAgainst_55] at h; cases h
  | succ nn ih =>
    intro l1 l2 l3 l4 l5 l6 l8 l9 l10 h H locs ls hP hD hS hl
    rw [f_X3_heldAgainst_55] at h
    refine lv_iload hx hb dX3_heldAgainst_55 (lv_at hl 9 rfl) ?_
    refine lv_lload hx hb dX3_heldAgainst_57 (lv_at hl 6 rfl) ?_
    obtain ⟨r7, e8, h⟩ := bd_some h
    refine x_callSI (As := [.long l6]) (rest := [.int l10]) (n := 1) ⟨hx, hb, hml, hown, hts⟩ (c_X0_landingOf l D cy  l6 r7 e8) gX3_heldAgainst_X0_landingOf rfl hd_X0_landingOf ⟨Nat.le_of_ble_eq_true rfl, Nat.le_of_ble_eq_true rfl⟩ ⟨rfl, rfl⟩ hK (sp_nil _) (sp_nil _) hP hD hS hA rfl hl.1 rfl (Nat.le_of_ble_eq_true rfl) dX3_heldAgainst_59 ⟨Nat.zero_le _, Nat.zero_le _⟩ (fun H locs hP hD hS => ?_)
    clear e8
    refine x_icmp_gt (tgt := 140) hx hb dX3_heldAgainst_62 (by decide) h (fun _ h => ?_) (fun _ h => ?_)
    · refine lv_iload hx hb dX3_heldAgainst_140 (lv_at hl 4 rfl) ?_
      refine lv_iload hx hb dX3_heldAgainst_142 (lv_at hl 8 rfl) ?_
      refine lv_iand hx hb dX3_heldAgainst_144 ?_
      refine x_nm h (fun v9 h => ?_)
      refine lv_istore (lv' := [(4, .int v9), (0, .ref (g 399)), (1, .int l1), (2, .int l2), (3, .int l3), (5, .int l5), (6, .long l6), (8, .int l8), (9, .int l9), (10, .int l10)]) hx hb dX3_heldAgainst_145 hl (by decide) rfl (fun ls hl => ?_)
      exact w_X3_heldAgainst_147 C0 hk_7 l1 l2 l3 v9 l5 h _ _ ls hP hD hS (lv_sub hl [1, 2, 3, 4, 0, 5] rfl)
    · refine lv_lload hx hb dX3_heldAgainst_65 (lv_at hl 6 rfl) ?_
      refine lv_iload hx hb dX3_heldAgainst_67 (lv_at hl 9 rfl) ?_
      obtain ⟨r10, e11, h⟩ := bd_some h
      refine x_callSI (As := [.long l6, .int l10]) (rest := []) (n := 2) ⟨hx, hb, hml, hown, hts⟩ (c_X0_cellAt l D cy  l6 l10 r10 e11) gX3_heldAgainst_X0_cellAt rfl hd_X0_cellAt ⟨Nat.le_of_ble_eq_true rfl, Nat.le_of_ble_eq_true rfl⟩ ⟨rfl, rfl⟩ hK (sp_nil _) (sp_nil _) hP hD hS hA rfl hl.1 rfl (Nat.le_of_ble_eq_true rfl) dX3_heldAgainst_69 ⟨Nat.zero_le _, Nat.zero_le _⟩ (fun H locs hP hD hS => ?_)
      clear e11
      refine lv_istore (lv' := [(11, .int r10), (0, .ref (g 399)), (1, .int l1), (2, .int l2), (3, .int l3), (4, .int l4), (5, .int l5), (6, .long l6), (8, .int l8), (9, .int l9), (10, .int l10)]) hx hb dX3_heldAgainst_72 hl (by decide) rfl (fun ls hl => ?_)
      refine lv_aload_n hx hb dX3_heldAgainst_74 rfl (lv_at hl 1 rfl) ?_
      refine va_get (D := D) (ci := 2) (v := .ref (g 699)) (C := RX3) (T := TX3) (N := 4) hx hb hts ki_X3_heldAgainst_X3 hown hK hP 10 rfl rfl 1 (by decide) (hts _ k_X3_heldAgainst_2) (fun _ h9 => h9) rfl dX3_heldAgainst_75 ?_
      refine lv_iload_n hx hb dX3_heldAgainst_78 rfl (lv_at hl 2 rfl) ?_
      refine lv_iload hx hb dX3_heldAgainst_79 (lv_at hl 0 rfl) ?_
      refine lv_iload hx hb dX3_heldAgainst_81 (lv_at hl 10 rfl) ?_
      obtain ⟨r12, e13, h⟩ := bd_some h
      refine x_callVI (As := [.int l1, .int r10, .int l10]) (rest := []) (n := 3) ⟨hx, hb, hml, hown, hts⟩ (c_X6_meetingCells l D cy g us l1 r10 l10 r12 e13) gX3_heldAgainst_X6_meetingCells rfl hd_X6_meetingCells ⟨Nat.le_of_ble_eq_true rfl, Nat.le_of_ble_eq_true rfl⟩ ⟨rfl, rfl⟩ hK (sp3_X6 cy g ua us ud) (sp3_X6 cy g ua us ud) hP hD hS hA 0 rfl rfl rfl hl.1 rfl (Nat.le_of_ble_eq_true rfl) dX3_heldAgainst_83 ⟨Nat.zero_le _, Nat.zero_le _⟩ (fun H locs hP hD hS => ?_)
      clear e13
      refine lv_iload hx hb dX3_heldAgainst_86 (lv_at hl 8 rfl) ?_
      refine lv_iconst (v := -1) hx hb dX3_heldAgainst_88 (by decide) ?_
      refine lv_ixor hx hb dX3_heldAgainst_89 ?_
      refine lv_iand hx hb dX3_heldAgainst_90 ?_
      refine x_nm h (fun v14 h => ?_)
      refine lv_istore (lv' := [(12, .int v14), (11, .int r10), (0, .ref (g 399)), (1, .int l1), (2, .int l2), (3, .int l3), (4, .int l4), (5, .int l5), (6, .long l6), (8, .int l8), (9, .int l9), (10, .int l10)]) hx hb dX3_heldAgainst_91 hl (by decide) rfl (fun ls hl => ?_)
      refine lv_iload hx hb dX3_heldAgainst_93 (lv_at hl 9 rfl) ?_
      refine lv_iload hx hb dX3_heldAgainst_95 (lv_at hl 0 rfl) ?_
      refine lv_ior hx hb dX3_heldAgainst_97 ?_
      refine x_nm h (fun v15 h => ?_)
      refine lv_istore (lv' := [(8, .int v15), (12, .int v14), (11, .int r10), (0, .ref (g 399)), (1, .int l1), (2, .int l2), (3, .int l3), (4, .int l4), (5, .int l5), (6, .long l6), (9, .int l9), (10, .int l10)]) hx hb dX3_heldAgainst_98 hl (by decide) rfl (fun ls hl => ?_)
      refine lv_iload_n hx hb dX3_heldAgainst_100 rfl (lv_at hl 6 rfl) ?_
      refine lv_aload_n hx hb dX3_heldAgainst_101 rfl (lv_at hl 3 rfl) ?_
      refine va_get (D := D) (ci := 2) (v := .ref (g 699)) (C := RX3) (T := TX3) (N := 4) hx hb hts ki_X3_heldAgainst_X3 hown hK hP 10 rfl rfl 1 (by decide) (hts _ k_X3_heldAgainst_2) (fun _ h9 => h9) rfl dX3_heldAgainst_102 ?_
      refine lv_iload_n hx hb dX3_heldAgainst_105 rfl (lv_at hl 5 rfl) ?_
      refine lv_iload hx hb dX3_heldAgainst_106 (lv_at hl 11 rfl) ?_
      obtain ⟨r16, e17, h⟩ := bd_some h
      refine x_callVI (As := [.int l2, .int l10]) (rest := [.int l3]) (n := 2) ⟨hx, hb, hml, hown, hts⟩ (c_X6_comes l D cy g us l2 l10 r16 e17) gX3_heldAgainst_X6_comes rfl hd_X6_comes ⟨Nat.le_of_ble_eq_true rfl, Nat.le_of_ble_eq_true rfl⟩ ⟨rfl, rfl⟩ hK (sp3_X6 cy g ua us ud) (sp3_X6 cy g ua us ud) hP hD hS hA 0 rfl rfl rfl hl.1 rfl (Nat.le_of_ble_eq_true rfl) dX3_heldAgainst_108 ⟨Nat.zero_le _, Nat.zero_le _⟩ (fun H locs hP hD hS => ?_)
      clear e17
      obtain ⟨r18, e19, h⟩ := bd_some h
      refine x_callSI (As := [.int l3, .int r16]) (rest := []) (n := 2) ⟨hx, hb, hml, hown, hts⟩ (c_X2_near l D cy  l3 r16 r18 e19) gX3_heldAgainst_X2_near rfl hd_X2_near ⟨Nat.le_of_ble_eq_true rfl, Nat.le_of_ble_eq_true rfl⟩ ⟨rfl, rfl⟩ hK (sp_nil _) (sp_nil _) hP hD hS hA rfl hl.1 rfl (Nat.le_of_ble_eq_true rfl) dX3_heldAgainst_111 ⟨Nat.zero_le _, Nat.zero_le _⟩ (fun H locs hP hD hS => ?_)
      clear e19
      refine lv_aload_n hx hb dX3_heldAgainst_114 rfl (lv_at hl 3 rfl) ?_
      refine va_get (D := D) (ci := 2) (v := .ref (g 302)) (C := RX3) (T := TX3) (N := 4) hx hb hts ki_X3_heldAgainst_X3 hown hK hP 10 rfl rfl 2 (by decide) (hts _ k_X3_heldAgainst_3) (fun _ h9 => h9) rfl dX3_heldAgainst_115 ?_
      refine lv_iload hx hb dX3_heldAgainst_118 (lv_at hl 2 rfl) ?_
      refine x_iald hx hb hK hP 11 rfl rfl h dX3_heldAgainst_120 (fun v20 h => ?_)
      refine lv_iconst (v := -1) hx hb dX3_heldAgainst_121 (by decide) ?_
      refine lv_ixor hx hb dX3_heldAgainst_122 ?_
      refine lv_iand hx hb dX3_heldAgainst_123 ?_
      refine x_if_ne (tgt := 134) hx hb dX3_heldAgainst_124 (by decide) h (fun _ h => ?_) (fun _ h => ?_)
      · refine lv_iload hx hb dX3_heldAgainst_127 (lv_at hl 10 rfl) ?_
        refine lv_iload hx hb dX3_heldAgainst_129 (lv_at hl 1 rfl) ?_
        refine lv_ior hx hb dX3_heldAgainst_131 ?_
        refine x_nm h (fun v21 h => ?_)
        refine lv_istore (lv' := [(9, .int v21), (8, .int v15), (12, .int v14), (11, .int r10), (0, .ref (g 399)), (1, .int l1), (2, .int l2), (3, .int l3), (4, .int l4), (5, .int l5), (6, .long l6), (10, .int l10)]) hx hb dX3_heldAgainst_132 hl (by decide) rfl (fun ls hl => ?_)
        exact w_X3_heldAgainst_134 C0 hk_7 ih l1 l2 l3 l4 l5 l6 v15 v21 l10 h _ _ ls hP hD hS (lv_sub hl [4, 5, 6, 7, 8, 9, 10, 1, 0, 11] rfl)
      · exact w_X3_heldAgainst_134 C0 hk_7 ih l1 l2 l3 l4 l5 l6 v15 l9 l10 h _ _ ls hP hD hS (lv_sub hl [3, 4, 5, 6, 7, 8, 9, 0, 10, 11] rfl)
set_option maxHeartbeats 4000000 in
set_option maxRecDepth 100000 in
theorem w_X3_heldAgainst_7 {p : Program} {l : Launch} {e : Env} {s : State} {m : MethodId} {below : List Frame} {meth : Method} {c : Code} {args : Array Value} {D : va_G} {cy : Nat → ClassId} {g : Nat → Nat} {A : Nat → Prop} {ua : St} {us : St} {ud : St} {r : Int32} (C0 : Cx p s m meth c args cX3_heldAgainst 13 (some .int) wsX3_heldAgainst RX3 D cy A) : ∀ (nn : Nat) (l1 : Int32) (l2 : Int32) (l3 : Int32) (l4 : Int32) (l5 : Int32), f_X3_heldAgainst_7 ua us ud nn l1 l2 l3 l4 l5 = some r → ∀ (H : Heap) (locs : List Loc) (ls : Array Slot), va_P D vwCl (wD3 cy g ua us ud) H → va_D A (wD3 cy g ua us ud) → va_S A s.heap H locs → lv_has ls 13 [(0, .ref (g 399)), (1, .int l1), (2, .int l2), (3, .int l3), (4, .int l4), (5, .int l5)] → W p l e (rmH 3) s m args below meth c H locs 0 0 (QI below args s A D cy (wD3 cy g ua us ud) r) (F0 m 7 ls []) := by
  obtain ⟨hx, hb, hr, hml, hown, hts, hlocks, hK, hA⟩ := id C0
  intro nn
  induction nn with
  | zero => intro l1 l2 l3 l4 l5 h; rw [f_X3_heldAgainst_7] at h; cases h
  | succ nn ih =>
    intro l1 l2 l3 l4 l5 h H locs ls hP hD hS hl
    rw [f_X3_heldAgainst_7] at h
    refine lv_iload hx hb dX3_heldAgainst_7 (lv_at hl 5 rfl) ?_
    refine lv_bipush (v := 64) hx hb dX3_heldAgainst_9 (by decide) ?_
    refine x_icmp_ge (tgt := 153) hx hb dX3_heldAgainst_11 (by decide) h (fun _ h => ?_) (fun _ h => ?_)
    · refine lv_iload hx hb dX3_heldAgainst_153 (lv_at hl 4 rfl) ?_
      cases h
      exact x_iret hx hb hr hlocks hK hP hD hS dX3_heldAgainst_155 rfl rfl
    · refine lv_iload hx hb dX3_heldAgainst_14 (lv_at hl 4 rfl) ?_
      refine x_if_eq (tgt := 153) hx hb dX3_heldAgainst_16 (by decide) h (fun _ h => ?_) (fun _ h => ?_)
      · refine lv_iload hx hb dX3_heldAgainst_153 (lv_at hl 4 rfl) ?_
        cases h
        exact x_iret hx hb hr hlocks hK hP hD hS dX3_heldAgainst_155 rfl rfl
      · refine lv_aload_n hx hb dX3_heldAgainst_19 rfl (lv_at hl 0 rfl) ?_
        refine va_get (D := D) (ci := 2) (v := .ref (g 99)) (C := RX3) (T := TX3) (N := 4) hx hb hts ki_X3_heldAgainst_X3 hown hK hP 10 rfl rfl 0 (by decide) (hts _ k_X3_heldAgainst_1) (fun _ h9 => h9) rfl dX3_heldAgainst_20 ?_
        refine lv_iload_n hx hb dX3_heldAgainst_23 rfl (lv_at hl 3 rfl) ?_
        refine lv_iload hx hb dX3_heldAgainst_24 (lv_at hl 5 rfl) ?_
        obtain ⟨r1, e2, h⟩ := bd_some h
        refine x_callVL (As := [.int l3, .int l5]) (rest := []) (n := 2) ⟨hx, hb, hml, hown, hts⟩ (c_X0_knownPath l D cy g ua l3 l5 r1 e2) gX3_heldAgainst_X0_knownPath rfl hd_X0_knownPath ⟨Nat.le_of_ble_eq_true rfl, Nat.le_of_ble_eq_true rfl⟩ ⟨rfl, rfl⟩ hK (sp3_X0 cy g ua us ud) (sp3_X0 cy g ua us ud) hP hD hS hA 0 rfl rfl rfl hl.1 rfl (Nat.le_of_ble_eq_true rfl) dX3_heldAgainst_26 ⟨Nat.zero_le _, Nat.zero_le _⟩ (fun H locs hP hD hS => ?_)
        clear e2
        refine lv_lstore (lv' := [(6, .long r1), (0, .ref (g 399)), (1, .int l1), (2, .int l2), (3, .int l3), (4, .int l4), (5, .int l5)]) hx hb dX3_heldAgainst_29 hl (by decide) rfl (fun ls hl => ?_)
        refine lv_lload hx hb dX3_heldAgainst_31 (lv_at hl 0 rfl) ?_
        obtain ⟨r3, e4, h⟩ := bd_some h
        refine x_callSI (As := [.long r1]) (rest := []) (n := 1) ⟨hx, hb, hml, hown, hts⟩ (c_X0_isNet l D cy  r1 r3 e4) gX3_heldAgainst_X0_isNet rfl hd_X0_isNet ⟨Nat.le_of_ble_eq_true rfl, Nat.le_of_ble_eq_true rfl⟩ ⟨rfl, rfl⟩ hK (sp_nil _) (sp_nil _) hP hD hS hA rfl hl.1 rfl (Nat.le_of_ble_eq_true rfl) dX3_heldAgainst_33 ⟨Nat.zero_le _, Nat.zero_le _⟩ (fun H locs hP hD hS => ?_)
        clear e4
        refine x_if_eq (tgt := 42) hx hb dX3_heldAgainst_36 (by decide) h (fun _ h => ?_) (fun _ h => ?_)
        · refine lv_iconst (v := 0) hx hb dX3_heldAgainst_42 (by decide) ?_
          refine lv_istore (lv' := [(8, .int (0 : Int32)), (6, .long r1), (0, .ref (g 399)), (1, .int l1), (2, .int l2), (3, .int l3), (4, .int l4), (5, .int l5)]) hx hb dX3_heldAgainst_43 hl (by decide) rfl (fun ls hl => ?_)
          refine lv_iconst (v := 0) hx hb dX3_heldAgainst_45 (by decide) ?_
          refine lv_istore (lv' := [(9, .int (0 : Int32)), (8, .int (0 : Int32)), (6, .long r1), (0, .ref (g 399)), (1, .int l1), (2, .int l2), (3, .int l3), (4, .int l4), (5, .int l5)]) hx hb dX3_heldAgainst_46 hl (by decide) rfl (fun ls hl => ?_)
          refine lv_lload hx hb dX3_heldAgainst_48 (lv_at hl 2 rfl) ?_
          obtain ⟨r5, e6, h⟩ := bd_some h
          refine x_callSI (As := [.long r1]) (rest := []) (n := 1) ⟨hx, hb, hml, hown, hts⟩ (c_X0_firstMetOf l D cy  r1 r5 e6) gX3_heldAgainst_X0_firstMetOf rfl hd_X0_firstMetOf ⟨Nat.le_of_ble_eq_true rfl, Nat.le_of_ble_eq_true rfl⟩ ⟨rfl, rfl⟩ hK (sp_nil _) (sp_nil _) hP hD hS hA rfl hl.1 rfl (Nat.le_of_ble_eq_true rfl) dX3_heldAgainst_50 ⟨Nat.zero_le _, Nat.zero_le _⟩ (fun H locs hP hD hS => ?_)
          clear e6
          refine lv_istore (lv' := [(10, .int r5), (9, .int (0 : Int32)), (8, .int (0 : Int32)), (6, .long r1), (0, .ref (g 399)), (1, .int l1), (2, .int l2), (3, .int l3), (4, .int l4), (5, .int l5)]) hx hb dX3_heldAgainst_53 hl (by decide) rfl (fun ls hl => ?_)
          exact w_X3_heldAgainst_55 C0 ih FU l1 l2 l3 l4 l5 r1 (0 : Int32) (0 : Int32) r5 h _ _ ls hP hD hS (lv_sub hl [4, 5, 6, 7, 8, 9, 3, 2, 1, 0] rfl)
        · refine lv_goto (tgt := 147) hx hb dX3_heldAgainst_39 (by decide) ?_
          exact w_X3_heldAgainst_147 C0 ih l1 l2 l3 l4 l5 h _ _ ls hP hD hS (lv_sub hl [1, 2, 3, 4, 5, 6] rfl)
set_option maxHeartbeats 4000000 in
set_option maxRecDepth 100000 in
theorem c_X3_heldAgainst (l : Launch) (D : va_G) (cy : Nat → ClassId) (g : Nat → Nat) (ua : St) (us : St) (ud : St) (p0 : Int32) (p1 : Int32) (p2 : Int32) (r : Int32) (h : f_X3_heldAgainst ua us ud p0 p1 p2 = some r) : CtI l yX3_heldAgainst wsX3_heldAgainst (rmH 3) [.ref (g 399), .int p0, .int p1, .int p2] D cy (wD3 cy g ua us ud) (wD3 cy g ua us ud) r := by
  refine ct_enter (D := D) (cy := cy) (cc := cX3_heldAgainst) (maxL := 13) (ret := (some .int)) (w := wD3 cy g ua us ud) (Qc := fun sz => va_Qi (fun r' (_ : Unit) => r' = r) (Bw D cy (va_A (wD3 cy g ua us ud) sz) (wD3 cy g ua us ud)) (va_A (wD3 cy g ua us ud) sz)) (by decide) rfl (Nat.le_of_ble_eq_true rfl) ?_
  intro p e s m below meth c A C0 hAe ls hl hP hD hS
  have e1 : MQ below ((fun sz => va_Qi (fun r' (_ : Unit) => r' = r) (Bw D cy (va_A (wD3 cy g ua us ud) sz) (wD3 cy g ua us ud)) (va_A (wD3 cy g ua us ud) sz)) s.heap.size) [.ref (g 399), .int p0, .int p1, .int p2].toArray s 0 0 A = QI below [.ref (g 399), .int p0, .int p1, .int p2].toArray s A D cy (wD3 cy g ua us ud) r := by rw [hAe]; rfl
  rw [e1]
  clear e1 hAe
  obtain ⟨hx, hb, hr, hml, hown, hts, hlocks, hK, hA⟩ := id C0
  have hl : lv_has ls 13 [(0, .ref (g 399)), (1, .int p0), (2, .int p1), (3, .int p2)] := hl
  rw [f_X3_heldAgainst] at h
  refine lv_ldc hx hb hown (hts _ k_X3_heldAgainst_0) dX3_heldAgainst_0 ?_
  refine lv_istore (lv' := [(4, .int (65535 : Int32)), (0, .ref (g 399)), (1, .int p0), (2, .int p1), (3, .int p2)]) hx hb dX3_heldAgainst_2 hl (by decide) rfl (fun ls hl => ?_)
  refine lv_iconst (v := 0) hx hb dX3_heldAgainst_4 (by decide) ?_
  refine lv_istore (lv' := [(5, .int (0 : Int32)), (4, .int (65535 : Int32)), (0, .ref (g 399)), (1, .int p0), (2, .int p1), (3, .int p2)]) hx hb dX3_heldAgainst_5 hl (by decide) rfl (fun ls hl => ?_)
  exact w_X3_heldAgainst_7 C0 FU p0 p1 p2 (65535 : Int32) (0 : Int32) h _ _ ls hP hD hS (lv_sub hl [2, 3, 4, 5, 1, 0] rfl)
theorem k_X3_forcedFrom_0 : Cond.fieldLink RX3 18 "FeatherHall$Duel" "air" "LFeatherHall$Air;" ∈ wsX3_forcedFrom := (List.mem_cons_of_mem _ (List.mem_append_left _ (List.mem_append_left _ (List.mem_append_left _ (List.mem_append_left _ (List.mem_of_getElem? (i := 0) rfl))))))
theorem ki_X3_forcedFrom_X3 : ∀ w ∈ u_ws RX3 TX3 4, w ∈ wsX3_forcedFrom := fun _ hh => (List.mem_cons_of_mem _ (List.mem_append_left _ (List.mem_append_left _ (List.mem_append_right _ hh))))
theorem k_X3_forcedFrom_1 : Cond.fieldLink RX3 22 "FeatherHall$Duel" "squad" "LFeatherHall$Squad;" ∈ wsX3_forcedFrom := (List.mem_cons_of_mem _ (List.mem_append_left _ (List.mem_append_left _ (List.mem_append_left _ (List.mem_append_left _ (List.mem_of_getElem? (i := 1) rfl))))))
theorem k_X3_forcedFrom_2 : Cond.fieldLink RX3 15 "FeatherHall$Duel" "held" "[I" ∈ wsX3_forcedFrom := (List.mem_cons_of_mem _ (List.mem_append_left _ (List.mem_append_left _ (List.mem_append_left _ (List.mem_append_left _ (List.mem_of_getElem? (i := 2) rfl))))))
theorem hd_X3_forcedFrom : yX3_forcedFrom.cls = RX3 ∧ yX3_forcedFrom.cls ≠ "java/lang/invoke/MethodHandle" ∧ yX3_forcedFrom.cls ≠ "java/lang/invoke/VarHandle" ∧ (parseMethodDescriptor yX3_forcedFrom.desc).map (fun d => d.parameters.length) = some 3 := by decide +kernel
set_option maxHeartbeats 4000000 in
set_option maxRecDepth 100000 in
theorem w_X3_forcedFrom_123 {p : Program} {l : Launch} {e : Env} {s : State} {m : MethodId} {below : List Frame} {meth : Method} {c : Code} {args : Array Value} {D : va_G} {cy : Nat → ClassId} {g : Nat → Nat} {A : Nat → Prop} {ua : St} {us : St} {ud : St} {r : Int32} (C0 : Cx p s m meth c args cX3_forcedFrom 12 (some .int) wsX3_forcedFrom RX3 D cy A) {k_6 : Int32 → Int32 → Int32 → Int32 → Int32 → Option (Int32)} (hk_6 : ∀ (l1 : Int32) (l2 : Int32) (l3 : Int32) (l4 : Int32) (l5 : Int32), k_6 l1 l2 l3 l4 l5 = some r → ∀ (H : Heap) (locs : List Loc) (ls : Array Slot), va_P D vwCl (wD3 cy g ua us ud) H → va_D A (wD3 cy g ua us ud) → va_S A s.heap H locs → lv_has ls 12 [(0, .ref (g 399)), (1, .int l1), (2, .int l2), (3, .int l3), (4, .int l4), (5, .int l5)] → W p l e (rmH 3) s m args below meth c H locs 0 0 (QI below args s A D cy (wD3 cy g ua us ud) r) (F0 m 6 ls [])) {k_46 : Int32 → Int32 → Int32 → Int32 → Int32 → Int64 → Int32 → Int32 → Option (Int32)} (hk_46 : ∀ (l1 : Int32) (l2 : Int32) (l3 : Int32) (l4 : Int32) (l5 : Int32) (l6 : Int64) (l8 : Int32) (l9 : Int32), k_46 l1 l2 l3 l4 l5 l6 l8 l9 = some r → ∀ (H : Heap) (locs : List Loc) (ls : Array Slot), va_P D vwCl (wD3 cy g ua us ud) H → va_D A (wD3 cy g ua us ud) → va_S A s.heap H locs → lv_has ls 12 [(0, .ref (g 399)), (1, .int l1), (2, .int l2), (3, .int l3), (4, .int l4), (5, .int l5), (6, .long l6), (8, .int l8), (9, .int l9)] → W p l e (rmH 3) s m args below meth c H locs 0 0 (QI below args s A D cy (wD3 cy g ua us ud) r) (F0 m 46 ls [])) : ∀ (l1 : Int32) (l2 : Int32) (l3 : Int32) (l4 : Int32) (l5 : Int32) (l6 : Int64) (l8 : Int32) (l9 : Int32), f_X3_forcedFrom_123 ua us ud k_6 k_46 l1 l2 l3 l4 l5 l6 l8 l9 = some r → ∀ (H : Heap) (locs : List Loc) (ls : Array Slot), va_P D vwCl (wD3 cy g ua us ud) H → va_D A (wD3 cy g ua us ud) → va_S A s.heap H locs → lv_has ls 12 [(0, .ref (g 399)), (1, .int l1), (2, .int l2), (3, .int l3), (4, .int l4), (5, .int l5), (6, .long l6), (8, .int l8), (9, .int l9)] → W p l e (rmH 3) s m args below meth c H locs 0 0 (QI below args s A D cy (wD3 cy g ua us ud) r) (F0 m 123 ls []) := by
  obtain ⟨hx, hb, hr, hml, hown, hts, hlocks, hK, hA⟩ := id C0
  intro l1 l2 l3 l4 l5 l6 l8 l9 h H locs ls hP hD hS hl
  rw [f_X3_forcedFrom_123] at h
  obtain ⟨v22, ev22, h⟩ := nm_ex h
  refine lv_iinc (v := v22) (lv' := [(9, .int v22), (0, .ref (g 399)), (1, .int l1), (2, .int l2), (3, .int l3), (4, .int l4), (5, .int l5), (6, .long l6), (8, .int l8)]) hx hb dX3_forcedFrom_123 hl (k := 8) rfl (by rw [ev22]; rfl) (by decide) rfl (fun ls hl => ?_)
  clear ev22
  refine lv_goto (tgt := 46) hx hb dX3_forcedFrom_126 (by decide) ?_
  exact hk_46 l1 l2 l3 l4 l5 l6 l8 v22 h _ _ ls hP hD hS (lv_sub hl [1, 2, 3, 4, 5, 6, 7, 8, 0] rfl)
set_option maxHeartbeats 4000000 in
set_option maxRecDepth 100000 in
theorem w_X3_forcedFrom_129 {p : Program} {l : Launch} {e : Env} {s : State} {m : MethodId} {below : List Frame} {meth : Method} {c : Code} {args : Array Value} {D : va_G} {cy : Nat → ClassId} {g : Nat → Nat} {A : Nat → Prop} {ua : St} {us : St} {ud : St} {r : Int32} (C0 : Cx p s m meth c args cX3_forcedFrom 12 (some .int) wsX3_forcedFrom RX3 D cy A) {k_6 : Int32 → Int32 → Int32 → Int32 → Int32 → Option (Int32)} (hk_6 : ∀ (l1 : Int32) (l2 : Int32) (l3 : Int32) (l4 : Int32) (l5 : Int32), k_6 l1 l2 l3 l4 l5 = some r → ∀ (H : Heap) (locs : List Loc) (ls : Array Slot), va_P D vwCl (wD3 cy g ua us ud) H → va_D A (wD3 cy g ua us ud) → va_S A s.heap H locs → lv_has ls 12 [(0, .ref (g 399)), (1, .int l1), (2, .int l2), (3, .int l3), (4, .int l4), (5, .int l5)] → W p l e (rmH 3) s m args below meth c H locs 0 0 (QI below args s A D cy (wD3 cy g ua us ud) r) (F0 m 6 ls [])) : ∀ (l1 : Int32) (l2 : Int32) (l3 : Int32) (l4 : Int32) (l5 : Int32), f_X3_forcedFrom_129 ua us ud k_6 l1 l2 l3 l4 l5 = some r → ∀ (H : Heap) (locs : List Loc) (ls : Array Slot), va_P D vwCl (wD3 cy g ua us ud) H → va_D A (wD3 cy g ua us ud) → va_S A s.heap H locs → lv_has ls 12 [(0, .ref (g 399)), (1, .int l1), (2, .int l2), (3, .int l3), (4, .int l4), (5, .int l5)] → W p l e (rmH 3) s m args below meth c H locs 0 0 (QI below args s A D cy (wD3 cy g ua us ud) r) (F0 m 129 ls []) := by
  obtain ⟨hx, hb, hr, hml, hown, hts, hlocks, hK, hA⟩ := id C0
  intro l1 l2 l3 l4 l5 h H locs ls hP hD hS hl
  rw [f_X3_forcedFrom_129] at h
  obtain ⟨v21, ev21, h⟩ := nm_ex h
  refine lv_iinc (v := v21) (lv' := [(5, .int v21), (0, .ref (g 399)), (1, .int l1), (2, .int l2), (3, .int l3), (4, .int l4)]) hx hb dX3_forcedFrom_129 hl (k := 5) rfl (by rw [ev21]; rfl) (by decide) rfl (fun ls hl => ?_)
  clear ev21
  refine lv_goto (tgt := 6) hx hb dX3_forcedFrom_132 (by decide) ?_
  exact hk_6 l1 l2 l3 l4 v21 h _ _ ls hP hD hS (lv_sub hl [1, 2, 3, 4, 5, 0] rfl)
set_option maxHeartbeats 4000000 in
set_option maxRecDepth 100000 in
theorem w_X3_forcedFrom_46 {p : Program} {l : Launch} {e : Env} {s : State} {m : MethodId} {below : List Frame} {meth : Method} {c : Code} {args : Array Value} {D : va_G} {cy : Nat → ClassId} {g : Nat → Nat} {A : Nat → Prop} {ua : St} {us : St} {ud : St} {r : Int32} (C0 : Cx p s m meth c args cX3_forcedFrom 12 (some .int) wsX3_forcedFrom RX3 D cy A) {k_6 : Int32 → Int32 → Int32 → Int32 → Int32 → Option (Int32)} (hk_6 : ∀ (l1 : Int32) (l2 : Int32) (l3 : Int32) (l4 : Int32) (l5 : Int32), k_6 l1 l2 l3 l4 l5 = some r → ∀ (H : Heap) (locs : List Loc) (ls : Array Slot), va_P D vwCl (wD3 cy g ua us ud) H → va_D A (wD3 cy g ua us ud) → va_S A s.heap H locs → lv_has ls 12 [(0, .ref (g 399)), (1, .int l1), (2, .int l2), (3, .int l3), (4, .int l4), (5, .int l5)] → W p l e (rmH 3) s m args below meth c H locs 0 0 (QI below args s A D cy (wD3 cy g ua us ud) r) (F0 m 6 ls [])) : ∀ (nn : Nat) (l1 : Int32) (l2 : Int32) (l3 : Int32) (l4 : Int32) (l5 : Int32) (l6 : Int64) (l8 : Int32) (l9 : Int32), f_X3_forcedFrom_46 ua us ud k_6 nn l1 l2 l3 l4 l5 l6 l8 l9 = some r → ∀ (H : Heap) (locs : List Loc) (ls : Array Slot), va_P D vwCl (wD3 cy g ua us ud) H → va_D A (wD3 cy g ua us ud) → va_S A s.heap H locs → lv_has ls 12 [(0, .ref (g 399)), (1, .int l1), (2, .int l2), (3, .int l3), (4, .int l4), (5, .int l5), (6, .long l6), (8, .int l8), (9, .int l9)] → W p l e (rmH 3) s m args below meth c H locs 0 0 (QI below args s A D cy (wD3 cy g ua us ud) r) (F0 m 46 ls []) := by
  obtain ⟨hx, hb, hr, hml, hown, hts, hlocks, hK, hA⟩ := id C0
  intro nn
  induction nn with
  | zero => intro l1 l2 l3 l4 l5 l6 l8 l9 h; rw [f_X3_forcedFrom_46] at h; cases h
  | succ nn ih =>
    intro l1 l2 l3 l4 l5 l6 l8 l9 h H locs ls hP hD hS hl
    rw [f_X3_forcedFrom_46] at h
    refine lv_iload hx hb dX3_forcedFrom_46 (lv_at hl 8 rfl) ?_
    refine lv_lload hx hb dX3_forcedFrom_48 (lv_at hl 6 rfl) ?_
    obtain ⟨r7, e8, h⟩ := bd_some h
    refine x_callSI (As := [.long l6]) (rest := [.int l9]) (n := 1) ⟨hx, hb, hml, hown, hts⟩ (c_X0_landingOf l D cy  l6 r7 e8) gX3_forcedFrom_X0_landingOf rfl hd_X0_landingOf ⟨Nat.le_of_ble_eq_true rfl, Nat.le_of_ble_eq_true rfl⟩ ⟨rfl, rfl⟩ hK (sp_nil _) (sp_nil _) hP hD hS hA rfl hl.1 rfl (Nat.le_of_ble_eq_true rfl) dX3_forcedFrom_50 ⟨Nat.zero_le _, Nat.zero_le _⟩ (fun H locs hP hD hS => ?_)
    clear e8
    refine x_icmp_gt (tgt := 129) hx hb dX3_forcedFrom_53 (by decide) h (fun _ h => ?_) (fun _ h => ?_)
    · exact w_X3_forcedFrom_129 C0 hk_6 l1 l2 l3 l4 l5 h _ _ ls hP hD hS (lv_sub hl [0, 1, 2, 3, 4, 5] rfl)
    · refine lv_lload hx hb dX3_forcedFrom_56 (lv_at hl 6 rfl) ?_
      refine lv_iload hx hb dX3_forcedFrom_58 (lv_at hl 8 rfl) ?_
      obtain ⟨r9, e10, h⟩ := bd_some h
      refine x_callSI (As := [.long l6, .int l9]) (rest := []) (n := 2) ⟨hx, hb, hml, hown, hts⟩ (c_X0_cellAt l D cy  l6 l9 r9 e10) gX3_forcedFrom_X0_cellAt rfl hd_X0_cellAt ⟨Nat.le_of_ble_eq_true rfl, Nat.le_of_ble_eq_true rfl⟩ ⟨rfl, rfl⟩ hK (sp_nil _) (sp_nil _) hP hD hS hA rfl hl.1 rfl (Nat.le_of_ble_eq_true rfl) dX3_forcedFrom_60 ⟨Nat.zero_le _, Nat.zero_le _⟩ (fun H locs hP hD hS => ?_)
      clear e10
      refine lv_istore (lv' := [(10, .int r9), (0, .ref (g 399)), (1, .int l1), (2, .int l2), (3, .int l3), (4, .int l4), (5, .int l5), (6, .long l6), (8, .int l8), (9, .int l9)]) hx hb dX3_forcedFrom_63 hl (by decide) rfl (fun ls hl => ?_)
      refine lv_aload_n hx hb dX3_forcedFrom_65 rfl (lv_at hl 1 rfl) ?_
      refine va_get (D := D) (ci := 2) (v := .ref (g 699)) (C := RX3) (T := TX3) (N := 4) hx hb hts ki_X3_forcedFrom_X3 hown hK hP 10 rfl rfl 1 (by decide) (hts _ k_X3_forcedFrom_1) (fun _ h9 => h9) rfl dX3_forcedFrom_66 ?_
      refine lv_iload_n hx hb dX3_forcedFrom_69 rfl (lv_at hl 3 rfl) ?_
      refine lv_iload hx hb dX3_forcedFrom_70 (lv_at hl 0 rfl) ?_
      refine lv_iload hx hb dX3_forcedFrom_72 (lv_at hl 9 rfl) ?_
      obtain ⟨r11, e12, h⟩ := bd_some h
      refine x_callVI (As := [.int l2, .int r9, .int l9]) (rest := []) (n := 3) ⟨hx, hb, hml, hown, hts⟩ (c_X6_meetingCells l D cy g us l2 r9 l9 r11 e12) gX3_forcedFrom_X6_meetingCells rfl hd_X6_meetingCells ⟨Nat.le_of_ble_eq_true rfl, Nat.le_of_ble_eq_true rfl⟩ ⟨rfl, rfl⟩ hK (sp3_X6 cy g ua us ud) (sp3_X6 cy g ua us ud) hP hD hS hA 0 rfl rfl rfl hl.1 rfl (Nat.le_of_ble_eq_true rfl) dX3_forcedFrom_74 ⟨Nat.zero_le _, Nat.zero_le _⟩ (fun H locs hP hD hS => ?_)
      clear e12
      refine lv_iload hx hb dX3_forcedFrom_77 (lv_at hl 8 rfl) ?_
      refine lv_iconst (v := -1) hx hb dX3_forcedFrom_79 (by decide) ?_
      refine lv_ixor hx hb dX3_forcedFrom_80 ?_
      refine lv_iand hx hb dX3_forcedFrom_81 ?_
      refine x_nm h (fun v13 h => ?_)
      refine lv_istore (lv' := [(11, .int v13), (10, .int r9), (0, .ref (g 399)), (1, .int l1), (2, .int l2), (3, .int l3), (4, .int l4), (5, .int l5), (6, .long l6), (8, .int l8), (9, .int l9)]) hx hb dX3_forcedFrom_82 hl (by decide) rfl (fun ls hl => ?_)
      refine lv_iload hx hb dX3_forcedFrom_84 (lv_at hl 9 rfl) ?_
      refine lv_iload hx hb dX3_forcedFrom_86 (lv_at hl 0 rfl) ?_
      refine lv_ior hx hb dX3_forcedFrom_88 ?_
      refine x_nm h (fun v14 h => ?_)
      refine lv_istore (lv' := [(8, .int v14), (11, .int v13), (10, .int r9), (0, .ref (g 399)), (1, .int l1), (2, .int l2), (3, .int l3), (4, .int l4), (5, .int l5), (6, .long l6), (9, .int l9)]) hx hb dX3_forcedFrom_89 hl (by decide) rfl (fun ls hl => ?_)
      refine lv_iload_n hx hb dX3_forcedFrom_91 rfl (lv_at hl 6 rfl) ?_
      refine lv_aload_n hx hb dX3_forcedFrom_92 rfl (lv_at hl 3 rfl) ?_
      refine va_get (D := D) (ci := 2) (v := .ref (g 699)) (C := RX3) (T := TX3) (N := 4) hx hb hts ki_X3_forcedFrom_X3 hown hK hP 10 rfl rfl 1 (by decide) (hts _ k_X3_forcedFrom_1) (fun _ h9 => h9) rfl dX3_forcedFrom_93 ?_
      refine lv_iload_n hx hb dX3_forcedFrom_96 rfl (lv_at hl 4 rfl) ?_
      refine lv_iload hx hb dX3_forcedFrom_97 (lv_at hl 10 rfl) ?_
      obtain ⟨r15, e16, h⟩ := bd_some h
      refine x_callVI (As := [.int l1, .int l9]) (rest := [.int l3]) (n := 2) ⟨hx, hb, hml, hown, hts⟩ (c_X6_comes l D cy g us l1 l9 r15 e16) gX3_forcedFrom_X6_comes rfl hd_X6_comes ⟨Nat.le_of_ble_eq_true rfl, Nat.le_of_ble_eq_true rfl⟩ ⟨rfl, rfl⟩ hK (sp3_X6 cy g ua us ud) (sp3_X6 cy g ua us ud) hP hD hS hA 0 rfl rfl rfl hl.1 rfl (Nat.le_of_ble_eq_true rfl) dX3_forcedFrom_99 ⟨Nat.zero_le _, Nat.zero_le _⟩ (fun H locs hP hD hS => ?_)
      clear e16
      obtain ⟨r17, e18, h⟩ := bd_some h
      refine x_callSI (As := [.int l3, .int r15]) (rest := []) (n := 2) ⟨hx, hb, hml, hown, hts⟩ (c_X2_near l D cy  l3 r15 r17 e18) gX3_forcedFrom_X2_near rfl hd_X2_near ⟨Nat.le_of_ble_eq_true rfl, Nat.le_of_ble_eq_true rfl⟩ ⟨rfl, rfl⟩ hK (sp_nil _) (sp_nil _) hP hD hS hA rfl hl.1 rfl (Nat.le_of_ble_eq_true rfl) dX3_forcedFrom_102 ⟨Nat.zero_le _, Nat.zero_le _⟩ (fun H locs hP hD hS => ?_)
      clear e18
      refine lv_aload_n hx hb dX3_forcedFrom_105 rfl (lv_at hl 3 rfl) ?_
      refine va_get (D := D) (ci := 2) (v := .ref (g 303)) (C := RX3) (T := TX3) (N := 4) hx hb hts ki_X3_forcedFrom_X3 hown hK hP 10 rfl rfl 3 (by decide) (hts _ k_X3_forcedFrom_2) (fun _ h9 => h9) rfl dX3_forcedFrom_106 ?_
      refine lv_iload hx hb dX3_forcedFrom_109 (lv_at hl 2 rfl) ?_
      refine x_iald hx hb hK hP 12 rfl rfl h dX3_forcedFrom_111 (fun v19 h => ?_)
      refine lv_iand hx hb dX3_forcedFrom_112 ?_
      refine x_if_eq (tgt := 123) hx hb dX3_forcedFrom_113 (by decide) h (fun _ h => ?_) (fun _ h => ?_)
      · exact w_X3_forcedFrom_123 C0 hk_6 ih l1 l2 l3 l4 l5 l6 v14 l9 h _ _ ls hP hD hS (lv_sub hl [3, 4, 5, 6, 7, 8, 9, 0, 10] rfl)
      · refine lv_iload hx hb dX3_forcedFrom_116 (lv_at hl 7 rfl) ?_
        refine lv_iload hx hb dX3_forcedFrom_118 (lv_at hl 1 rfl) ?_
        refine lv_ior hx hb dX3_forcedFrom_120 ?_
        refine x_nm h (fun v20 h => ?_)
        refine lv_istore (lv' := [(4, .int v20), (8, .int v14), (11, .int v13), (10, .int r9), (0, .ref (g 399)), (1, .int l1), (2, .int l2), (3, .int l3), (5, .int l5), (6, .long l6), (9, .int l9)]) hx hb dX3_forcedFrom_121 hl (by decide) rfl (fun ls hl => ?_)
        exact w_X3_forcedFrom_123 C0 hk_6 ih l1 l2 l3 v20 l5 l6 v14 l9 h _ _ ls hP hD hS (lv_sub hl [4, 5, 6, 7, 0, 8, 9, 1, 10] rfl)
set_option maxHeartbeats 4000000 in
set_option maxRecDepth 100000 in
theorem w_X3_forcedFrom_6 {p : Program} {l : Launch} {e : Env} {s : State} {m : MethodId} {below : List Frame} {meth : Method} {c : Code} {args : Array Value} {D : va_G} {cy : Nat → ClassId} {g : Nat → Nat} {A : Nat → Prop} {ua : St} {us : St} {ud : St} {r : Int32} (C0 : Cx p s m meth c args cX3_forcedFrom 12 (some .int) wsX3_forcedFrom RX3 D cy A) : ∀ (nn : Nat) (l1 : Int32) (l2 : Int32) (l3 : Int32) (l4 : Int32) (l5 : Int32), f_X3_forcedFrom_6 ua us ud nn l1 l2 l3 l4 l5 = some r → ∀ (H : Heap) (locs : List Loc) (ls : Array Slot), va_P D vwCl (wD3 cy g ua us ud) H → va_D A (wD3 cy g ua us ud) → va_S A s.heap H locs → lv_has ls 12 [(0, .ref (g 399)), (1, .int l1), (2, .int l2), (3, .int l3), (4, .int l4), (5, .int l5)] → W p l e (rmH 3) s m args below meth c H locs 0 0 (QI below args s A D cy (wD3 cy g ua us ud) r) (F0 m 6 ls []) := by
  obtain ⟨hx, hb, hr, hml, hown, hts, hlocks, hK, hA⟩ := id C0
  intro nn
  induction nn with
  | zero => intro l1 l2 l3 l4 l5 h; rw [f_X3_forcedFrom_6] at h; cases h
  | succ nn ih =>
    intro l1 l2 l3 l4 l5 h H locs ls hP hD hS hl
    rw [f_X3_forcedFrom_6] at h
    refine lv_iload hx hb dX3_forcedFrom_6 (lv_at hl 5 rfl) ?_
    refine lv_bipush (v := 64) hx hb dX3_forcedFrom_8 (by decide) ?_
    refine x_icmp_ge (tgt := 135) hx hb dX3_forcedFrom_10 (by decide) h (fun _ h => ?_) (fun _ h => ?_)
    · refine lv_iload hx hb dX3_forcedFrom_135 (lv_at hl 4 rfl) ?_
      cases h
      exact x_iret hx hb hr hlocks hK hP hD hS dX3_forcedFrom_137 rfl rfl
    · refine lv_aload_n hx hb dX3_forcedFrom_13 rfl (lv_at hl 0 rfl) ?_
      refine va_get (D := D) (ci := 2) (v := .ref (g 99)) (C := RX3) (T := TX3) (N := 4) hx hb hts ki_X3_forcedFrom_X3 hown hK hP 10 rfl rfl 0 (by decide) (hts _ k_X3_forcedFrom_0) (fun _ h9 => h9) rfl dX3_forcedFrom_14 ?_
      refine lv_iload_n hx hb dX3_forcedFrom_17 rfl (lv_at hl 3 rfl) ?_
      refine lv_iload hx hb dX3_forcedFrom_18 (lv_at hl 5 rfl) ?_
      obtain ⟨r1, e2, h⟩ := bd_some h
      refine x_callVL (As := [.int l3, .int l5]) (rest := []) (n := 2) ⟨hx, hb, hml, hown, hts⟩ (c_X0_knownPath l D cy g ua l3 l5 r1 e2) gX3_forcedFrom_X0_knownPath rfl hd_X0_knownPath ⟨Nat.le_of_ble_eq_true rfl, Nat.le_of_ble_eq_true rfl⟩ ⟨rfl, rfl⟩ hK (sp3_X0 cy g ua us ud) (sp3_X0 cy g ua us ud) hP hD hS hA 0 rfl rfl rfl hl.1 rfl (Nat.le_of_ble_eq_true rfl) dX3_forcedFrom_20 ⟨Nat.zero_le _, Nat.zero_le _⟩ (fun H locs hP hD hS => ?_)
      clear e2
      refine lv_lstore (lv' := [(6, .long r1), (0, .ref (g 399)), (1, .int l1), (2, .int l2), (3, .int l3), (4, .int l4), (5, .int l5)]) hx hb dX3_forcedFrom_23 hl (by decide) rfl (fun ls hl => ?_)
      refine lv_lload hx hb dX3_forcedFrom_25 (lv_at hl 0 rfl) ?_
      obtain ⟨r3, e4, h⟩ := bd_some h
      refine x_callSI (As := [.long r1]) (rest := []) (n := 1) ⟨hx, hb, hml, hown, hts⟩ (c_X0_isNet l D cy  r1 r3 e4) gX3_forcedFrom_X0_isNet rfl hd_X0_isNet ⟨Nat.le_of_ble_eq_true rfl, Nat.le_of_ble_eq_true rfl⟩ ⟨rfl, rfl⟩ hK (sp_nil _) (sp_nil _) hP hD hS hA rfl hl.1 rfl (Nat.le_of_ble_eq_true rfl) dX3_forcedFrom_27 ⟨Nat.zero_le _, Nat.zero_le _⟩ (fun H locs hP hD hS => ?_)
      clear e4
      refine x_if_eq (tgt := 36) hx hb dX3_forcedFrom_30 (by decide) h (fun _ h => ?_) (fun _ h => ?_)
      · refine lv_iconst (v := 0) hx hb dX3_forcedFrom_36 (by decide) ?_
        refine lv_istore (lv' := [(8, .int (0 : Int32)), (6, .long r1), (0, .ref (g 399)), (1, .int l1), (2, .int l2), (3, .int l3), (4, .int l4), (5, .int l5)]) hx hb dX3_forcedFrom_37 hl (by decide) rfl (fun ls hl => ?_)
        refine lv_lload hx hb dX3_forcedFrom_39 (lv_at hl 1 rfl) ?_
        obtain ⟨r5, e6, h⟩ := bd_some h
        refine x_callSI (As := [.long r1]) (rest := []) (n := 1) ⟨hx, hb, hml, hown, hts⟩ (c_X0_firstMetOf l D cy  r1 r5 e6) gX3_forcedFrom_X0_firstMetOf rfl hd_X0_firstMetOf ⟨Nat.le_of_ble_eq_true rfl, Nat.le_of_ble_eq_true rfl⟩ ⟨rfl, rfl⟩ hK (sp_nil _) (sp_nil _) hP hD hS hA rfl hl.1 rfl (Nat.le_of_ble_eq_true rfl) dX3_forcedFrom_41 ⟨Nat.zero_le _, Nat.zero_le _⟩ (fun H locs hP hD hS => ?_)
        clear e6
        refine lv_istore (lv' := [(9, .int r5), (8, .int (0 : Int32)), (6, .long r1), (0, .ref (g 399)), (1, .int l1), (2, .int l2), (3, .int l3), (4, .int l4), (5, .int l5)]) hx hb dX3_forcedFrom_44 hl (by decide) rfl (fun ls hl => ?_)
        exact w_X3_forcedFrom_46 C0 ih FU l1 l2 l3 l4 l5 r1 (0 : Int32) r5 h _ _ ls hP hD hS (lv_sub hl [3, 4, 5, 6, 7, 8, 2, 1, 0] rfl)
      · refine lv_goto (tgt := 129) hx hb dX3_forcedFrom_33 (by decide) ?_
        exact w_X3_forcedFrom_129 C0 ih l1 l2 l3 l4 l5 h _ _ ls hP hD hS (lv_sub hl [1, 2, 3, 4, 5, 6] rfl)
set_option maxHeartbeats 4000000 in
set_option maxRecDepth 100000 in
theorem c_X3_forcedFrom (l : Launch) (D : va_G) (cy : Nat → ClassId) (g : Nat → Nat) (ua : St) (us : St) (ud : St) (p0 : Int32) (p1 : Int32) (p2 : Int32) (r : Int32) (h : f_X3_forcedFrom ua us ud p0 p1 p2 = some r) : CtI l yX3_forcedFrom wsX3_forcedFrom (rmH 3) [.ref (g 399), .int p0, .int p1, .int p2] D cy (wD3 cy g ua us ud) (wD3 cy g ua us ud) r := by
  refine ct_enter (D := D) (cy := cy) (cc := cX3_forcedFrom) (maxL := 12) (ret := (some .int)) (w := wD3 cy g ua us ud) (Qc := fun sz => va_Qi (fun r' (_ : Unit) => r' = r) (Bw D cy (va_A (wD3 cy g ua us ud) sz) (wD3 cy g ua us ud)) (va_A (wD3 cy g ua us ud) sz)) (by decide) rfl (Nat.le_of_ble_eq_true rfl) ?_
  intro p e s m below meth c A C0 hAe ls hl hP hD hS
  have e1 : MQ below ((fun sz => va_Qi (fun r' (_ : Unit) => r' = r) (Bw D cy (va_A (wD3 cy g ua us ud) sz) (wD3 cy g ua us ud)) (va_A (wD3 cy g ua us ud) sz)) s.heap.size) [.ref (g 399), .int p0, .int p1, .int p2].toArray s 0 0 A = QI below [.ref (g 399), .int p0, .int p1, .int p2].toArray s A D cy (wD3 cy g ua us ud) r := by rw [hAe]; rfl
  rw [e1]
  clear e1 hAe
  obtain ⟨hx, hb, hr, hml, hown, hts, hlocks, hK, hA⟩ := id C0
  have hl : lv_has ls 12 [(0, .ref (g 399)), (1, .int p0), (2, .int p1), (3, .int p2)] := hl
  rw [f_X3_forcedFrom] at h
  refine lv_iconst (v := 0) hx hb dX3_forcedFrom_0 (by decide) ?_
  refine lv_istore (lv' := [(4, .int (0 : Int32)), (0, .ref (g 399)), (1, .int p0), (2, .int p1), (3, .int p2)]) hx hb dX3_forcedFrom_1 hl (by decide) rfl (fun ls hl => ?_)
  refine lv_iconst (v := 0) hx hb dX3_forcedFrom_3 (by decide) ?_
  refine lv_istore (lv' := [(5, .int (0 : Int32)), (4, .int (0 : Int32)), (0, .ref (g 399)), (1, .int p0), (2, .int p1), (3, .int p2)]) hx hb dX3_forcedFrom_4 hl (by decide) rfl (fun ls hl => ?_)
  exact w_X3_forcedFrom_6 C0 FU p0 p1 p2 (0 : Int32) (0 : Int32) h _ _ ls hP hD hS (lv_sub hl [2, 3, 4, 5, 1, 0] rfl)
theorem k_X3_widenWon_0 : Cond.fieldLink RX3 15 "FeatherHall$Duel" "held" "[I" ∈ wsX3_widenWon := (List.mem_cons_of_mem _ (List.mem_append_left _ (List.mem_append_left _ (List.mem_append_left _ (List.mem_append_left _ (List.mem_of_getElem? (i := 0) rfl))))))
theorem ki_X3_widenWon_X3 : ∀ w ∈ u_ws RX3 TX3 4, w ∈ wsX3_widenWon := fun _ hh => (List.mem_cons_of_mem _ (List.mem_append_left _ (List.mem_append_left _ (List.mem_append_right _ hh))))
theorem k_X3_widenWon_1 : Cond.fieldLink RX3 9 "FeatherHall$Duel" "won" "[I" ∈ wsX3_widenWon := (List.mem_cons_of_mem _ (List.mem_append_left _ (List.mem_append_left _ (List.mem_append_left _ (List.mem_append_left _ (List.mem_of_getElem? (i := 1) rfl))))))
theorem hd_X3_widenWon : yX3_widenWon.cls = RX3 ∧ yX3_widenWon.cls ≠ "java/lang/invoke/MethodHandle" ∧ yX3_widenWon.cls ≠ "java/lang/invoke/VarHandle" ∧ (parseMethodDescriptor yX3_widenWon.desc).map (fun d => d.parameters.length) = some 2 := by decide +kernel
set_option maxHeartbeats 4000000 in
set_option maxRecDepth 100000 in
theorem w_X3_widenWon_78 {p : Program} {l : Launch} {e : Env} {s : State} {m : MethodId} {below : List Frame} {meth : Method} {c : Code} {args : Array Value} {D : va_G} {cy : Nat → ClassId} {g : Nat → Nat} {A : Nat → Prop} {ua : St} {us : St} {r : Int32} {ud' : St} (C0 : Cx p s m meth c args cX3_widenWon 6 (some .boolean) wsX3_widenWon RX3 D cy A) {k_32 : Int32 → Int32 → Int32 → Int32 → St → Option (Int32 × St)} (hk_32 : ∀ (l1 : Int32) (l2 : Int32) (l3 : Int32) (l4 : Int32) (ud : St), k_32 l1 l2 l3 l4 ud = some (r, ud') → ∀ (H : Heap) (locs : List Loc) (ls : Array Slot), va_P D vwCl (wD3 cy g ua us ud) H → va_D A (wD3 cy g ua us ud) → va_S A s.heap H locs → lv_has ls 6 [(0, .ref (g 399)), (1, .int l1), (2, .int l2), (3, .int l3), (4, .int l4)] → W p l e (rmH 4) s m args below meth c H locs 0 0 (QI below args s A D cy (wD3 cy g ua us ud') r) (F0 m 32 ls [])) : ∀ (l1 : Int32) (l2 : Int32) (l4 : Int32) (l5 : Int32) (s0 : Int32) (ud : St), f_X3_widenWon_78 ua us k_32 l1 l2 l4 l5 s0 ud = some (r, ud') → ∀ (H : Heap) (locs : List Loc) (ls : Array Slot), va_P D vwCl (wD3 cy g ua us ud) H → va_D A (wD3 cy g ua us ud) → va_S A s.heap H locs → lv_has ls 6 [(0, .ref (g 399)), (1, .int l1), (2, .int l2), (4, .int l4), (5, .int l5)] → W p l e (rmH 4) s m args below meth c H locs 0 0 (QI below args s A D cy (wD3 cy g ua us ud') r) (F0 m 78 ls [.int s0]) := by
  obtain ⟨hx, hb, hr, hml, hown, hts, hlocks, hK, hA⟩ := id C0
  intro l1 l2 l4 l5 s0 ud h H locs ls hP hD hS hl
  rw [f_X3_widenWon_78] at h
  refine lv_istore_n (lv' := [(3, .int s0), (0, .ref (g 399)), (1, .int l1), (2, .int l2), (4, .int l4), (5, .int l5)]) hx hb dX3_widenWon_78 rfl hl (by decide) rfl (fun ls hl => ?_)
  refine lv_aload_n hx hb dX3_widenWon_79 rfl (lv_at hl 1 rfl) ?_
  refine va_get (D := D) (ci := 2) (v := .ref (g 302)) (C := RX3) (T := TX3) (N := 4) hx hb hts ki_X3_widenWon_X3 hown hK hP 10 rfl rfl 2 (by decide) (hts _ k_X3_widenWon_1) (fun _ h9 => h9) rfl dX3_widenWon_80 ?_
  refine lv_iload hx hb dX3_widenWon_83 (lv_at hl 4 rfl) ?_
  refine lv_iload hx hb dX3_widenWon_85 (lv_at hl 5 rfl) ?_
  refine x_iast (Wd := (fun uz => wD3 cy g ua us uz)) (u := ud) (k := 2) hx hb hK hP hD hS 11 rfl rfl (fun _ => rfl) h dX3_widenWon_87 (fun ud10 H locs h hP hD hS => ?_)
  obtain ⟨v11, ev11, h⟩ := nm_ex h
  refine lv_iinc (v := v11) (lv' := [(4, .int v11), (3, .int s0), (0, .ref (g 399)), (1, .int l1), (2, .int l2), (5, .int l5)]) hx hb dX3_widenWon_88 hl (k := 4) rfl (by rw [ev11]; rfl) (by decide) rfl (fun ls hl => ?_)
  clear ev11
  refine lv_goto (tgt := 32) hx hb dX3_widenWon_91 (by decide) ?_
  exact hk_32 l1 l2 s0 v11 ud10 h _ _ ls hP hD hS (lv_sub hl [2, 3, 4, 1, 0] rfl)
set_option maxHeartbeats 4000000 in
set_option maxRecDepth 100000 in
theorem w_X3_widenWon_73 {p : Program} {l : Launch} {e : Env} {s : State} {m : MethodId} {below : List Frame} {meth : Method} {c : Code} {args : Array Value} {D : va_G} {cy : Nat → ClassId} {g : Nat → Nat} {A : Nat → Prop} {ua : St} {us : St} {r : Int32} {ud' : St} (C0 : Cx p s m meth c args cX3_widenWon 6 (some .boolean) wsX3_widenWon RX3 D cy A) {k_32 : Int32 → Int32 → Int32 → Int32 → St → Option (Int32 × St)} (hk_32 : ∀ (l1 : Int32) (l2 : Int32) (l3 : Int32) (l4 : Int32) (ud : St), k_32 l1 l2 l3 l4 ud = some (r, ud') → ∀ (H : Heap) (locs : List Loc) (ls : Array Slot), va_P D vwCl (wD3 cy g ua us ud) H → va_D A (wD3 cy g ua us ud) → va_S A s.heap H locs → lv_has ls 6 [(0, .ref (g 399)), (1, .int l1), (2, .int l2), (3, .int l3), (4, .int l4)] → W p l e (rmH 4) s m args below meth c H locs 0 0 (QI below args s A D cy (wD3 cy g ua us ud') r) (F0 m 32 ls [])) : ∀ (l1 : Int32) (l2 : Int32) (l4 : Int32) (l5 : Int32) (ud : St), f_X3_widenWon_73 ua us k_32 l1 l2 l4 l5 ud = some (r, ud') → ∀ (H : Heap) (locs : List Loc) (ls : Array Slot), va_P D vwCl (wD3 cy g ua us ud) H → va_D A (wD3 cy g ua us ud) → va_S A s.heap H locs → lv_has ls 6 [(0, .ref (g 399)), (1, .int l1), (2, .int l2), (4, .int l4), (5, .int l5)] → W p l e (rmH 4) s m args below meth c H locs 0 0 (QI below args s A D cy (wD3 cy g ua us ud') r) (F0 m 73 ls []) := by
  obtain ⟨hx, hb, hr, hml, hown, hts, hlocks, hK, hA⟩ := id C0
  intro l1 l2 l4 l5 ud h H locs ls hP hD hS hl
  rw [f_X3_widenWon_73] at h
  refine lv_iconst (v := 1) hx hb dX3_widenWon_73 (by decide) ?_
  refine lv_goto (tgt := 78) hx hb dX3_widenWon_74 (by decide) ?_
  exact w_X3_widenWon_78 C0 hk_32 l1 l2 l4 l5 (1 : Int32) ud h _ _ ls hP hD hS (lv_sub hl [0, 1, 2, 3, 4] rfl)
set_option maxHeartbeats 4000000 in
set_option maxRecDepth 100000 in
theorem w_X3_widenWon_32 {p : Program} {l : Launch} {e : Env} {s : State} {m : MethodId} {below : List Frame} {meth : Method} {c : Code} {args : Array Value} {D : va_G} {cy : Nat → ClassId} {g : Nat → Nat} {A : Nat → Prop} {ua : St} {us : St} {r : Int32} {ud' : St} (C0 : Cx p s m meth c args cX3_widenWon 6 (some .boolean) wsX3_widenWon RX3 D cy A) : ∀ (nn : Nat) (l1 : Int32) (l2 : Int32) (l3 : Int32) (l4 : Int32) (ud : St), f_X3_widenWon_32 ua us nn l1 l2 l3 l4 ud = some (r, ud') → ∀ (H : Heap) (locs : List Loc) (ls : Array Slot), va_P D vwCl (wD3 cy g ua us ud) H → va_D A (wD3 cy g ua us ud) → va_S A s.heap H locs → lv_has ls 6 [(0, .ref (g 399)), (1, .int l1), (2, .int l2), (3, .int l3), (4, .int l4)] → W p l e (rmH 4) s m args below meth c H locs 0 0 (QI below args s A D cy (wD3 cy g ua us ud') r) (F0 m 32 ls []) := by
  obtain ⟨hx, hb, hr, hml, hown, hts, hlocks, hK, hA⟩ := id C0
  intro nn
  induction nn with
  | zero => intro l1 l2 l3 l4 ud h; rw [f_X3_widenWon_32] at h; cases h
  | succ nn ih =>
    intro l1 l2 l3 l4 ud h H locs ls hP hD hS hl
    rw [f_X3_widenWon_32] at h
    refine lv_iload hx hb dX3_widenWon_32 (lv_at hl 4 rfl) ?_
    refine lv_bipush (v := 16) hx hb dX3_widenWon_34 (by decide) ?_
    refine x_icmp_ge (tgt := 94) hx hb dX3_widenWon_36 (by decide) h (fun _ h => ?_) (fun _ h => ?_)
    · refine lv_iload_n hx hb dX3_widenWon_94 rfl (lv_at hl 3 rfl) ?_
      obtain ⟨hz, h⟩ := bk_some h
      cases h
      exact x_zret hx hb hr hlocks hK hP hD hS hz dX3_widenWon_95 rfl rfl
    · refine lv_aload_n hx hb dX3_widenWon_39 rfl (lv_at hl 0 rfl) ?_
      refine va_get (D := D) (ci := 2) (v := .ref (g 302)) (C := RX3) (T := TX3) (N := 4) hx hb hts ki_X3_widenWon_X3 hown hK hP 10 rfl rfl 2 (by decide) (hts _ k_X3_widenWon_1) (fun _ h9 => h9) rfl dX3_widenWon_40 ?_
      refine lv_iload hx hb dX3_widenWon_43 (lv_at hl 4 rfl) ?_
      refine x_iald hx hb hK hP 11 rfl rfl h dX3_widenWon_45 (fun v5 h => ?_)
      refine lv_aload_n hx hb dX3_widenWon_46 rfl (lv_at hl 0 rfl) ?_
      refine lv_iload_n hx hb dX3_widenWon_47 rfl (lv_at hl 1 rfl) ?_
      refine lv_iload_n hx hb dX3_widenWon_48 rfl (lv_at hl 2 rfl) ?_
      refine lv_iload hx hb dX3_widenWon_49 (lv_at hl 4 rfl) ?_
      obtain ⟨r6, e7, h⟩ := bd_some h
      refine x_callVI (As := [.int l1, .int l2, .int l4]) (rest := [.int v5]) (n := 3) ⟨hx, hb, hml, hown, hts⟩ (c_X3_forcedFrom l D cy g ua us ud l1 l2 l4 r6 e7) gX3_widenWon_X3_forcedFrom rfl hd_X3_forcedFrom ⟨Nat.le_of_ble_eq_true rfl, Nat.le_of_ble_eq_true rfl⟩ ⟨rfl, rfl⟩ hK (sp_all _) (sp_all _) hP hD hS hA 10 rfl rfl rfl hl.1 rfl (Nat.le_of_ble_eq_true rfl) dX3_widenWon_51 ⟨Nat.zero_le _, Nat.zero_le _⟩ (fun H locs hP hD hS => ?_)
      clear e7
      refine lv_ior hx hb dX3_widenWon_54 ?_
      refine x_nm h (fun v8 h => ?_)
      refine lv_istore (lv' := [(5, .int v8), (0, .ref (g 399)), (1, .int l1), (2, .int l2), (3, .int l3), (4, .int l4)]) hx hb dX3_widenWon_55 hl (by decide) rfl (fun ls hl => ?_)
      refine lv_iload_n hx hb dX3_widenWon_57 rfl (lv_at hl 4 rfl) ?_
      refine x_if_ne (tgt := 73) hx hb dX3_widenWon_58 (by decide) h (fun _ h => ?_) (fun _ h => ?_)
      · refine lv_iload hx hb dX3_widenWon_61 (lv_at hl 0 rfl) ?_
        refine lv_aload_n hx hb dX3_widenWon_63 rfl (lv_at hl 1 rfl) ?_
        refine va_get (D := D) (ci := 2) (v := .ref (g 302)) (C := RX3) (T := TX3) (N := 4) hx hb hts ki_X3_widenWon_X3 hown hK hP 10 rfl rfl 2 (by decide) (hts _ k_X3_widenWon_1) (fun _ h9 => h9) rfl dX3_widenWon_64 ?_
        refine lv_iload hx hb dX3_widenWon_67 (lv_at hl 5 rfl) ?_
        refine x_iald hx hb hK hP 11 rfl rfl h dX3_widenWon_69 (fun v9 h => ?_)
        refine x_icmp_eq (tgt := 77) hx hb dX3_widenWon_70 (by decide) h (fun _ h => ?_) (fun _ h => ?_)
        · refine lv_iconst (v := 0) hx hb dX3_widenWon_77 (by decide) ?_
          exact w_X3_widenWon_78 C0 ih l1 l2 l4 v8 (0 : Int32) ud h _ _ ls hP hD hS (lv_sub hl [1, 2, 3, 5, 0] rfl)
        · exact w_X3_widenWon_73 C0 ih l1 l2 l4 v8 ud h _ _ ls hP hD hS (lv_sub hl [1, 2, 3, 5, 0] rfl)
      · exact w_X3_widenWon_73 C0 ih l1 l2 l4 v8 ud h _ _ ls hP hD hS (lv_sub hl [1, 2, 3, 5, 0] rfl)
set_option maxHeartbeats 4000000 in
set_option maxRecDepth 100000 in
theorem w_X3_widenWon_2 {p : Program} {l : Launch} {e : Env} {s : State} {m : MethodId} {below : List Frame} {meth : Method} {c : Code} {args : Array Value} {D : va_G} {cy : Nat → ClassId} {g : Nat → Nat} {A : Nat → Prop} {ua : St} {us : St} {r : Int32} {ud' : St} (C0 : Cx p s m meth c args cX3_widenWon 6 (some .boolean) wsX3_widenWon RX3 D cy A) : ∀ (nn : Nat) (l1 : Int32) (l2 : Int32) (l3 : Int32) (ud : St), f_X3_widenWon_2 ua us nn l1 l2 l3 ud = some (r, ud') → ∀ (H : Heap) (locs : List Loc) (ls : Array Slot), va_P D vwCl (wD3 cy g ua us ud) H → va_D A (wD3 cy g ua us ud) → va_S A s.heap H locs → lv_has ls 6 [(0, .ref (g 399)), (1, .int l1), (2, .int l2), (3, .int l3)] → W p l e (rmH 4) s m args below meth c H locs 0 0 (QI below args s A D cy (wD3 cy g ua us ud') r) (F0 m 2 ls []) := by
  obtain ⟨hx, hb, hr, hml, hown, hts, hlocks, hK, hA⟩ := id C0
  intro nn
  induction nn with
  | zero => intro l1 l2 l3 ud h; rw [f_X3_widenWon_2] at h; cases h
  | succ nn ih =>
    intro l1 l2 l3 ud h H locs ls hP hD hS hl
    rw [f_X3_widenWon_2] at h
    refine lv_iload_n hx hb dX3_widenWon_2 rfl (lv_at hl 3 rfl) ?_
    refine lv_bipush (v := 16) hx hb dX3_widenWon_3 (by decide) ?_
    refine x_icmp_ge (tgt := 27) hx hb dX3_widenWon_5 (by decide) h (fun _ h => ?_) (fun _ h => ?_)
    · refine lv_iconst (v := 0) hx hb dX3_widenWon_27 (by decide) ?_
      refine lv_istore_n (lv' := [(3, .int (0 : Int32)), (0, .ref (g 399)), (1, .int l1), (2, .int l2)]) hx hb dX3_widenWon_28 rfl hl (by decide) rfl (fun ls hl => ?_)
      refine lv_iconst (v := 0) hx hb dX3_widenWon_29 (by decide) ?_
      refine lv_istore (lv' := [(4, .int (0 : Int32)), (3, .int (0 : Int32)), (0, .ref (g 399)), (1, .int l1), (2, .int l2)]) hx hb dX3_widenWon_30 hl (by decide) rfl (fun ls hl => ?_)
      exact w_X3_widenWon_32 C0 FU l1 l2 (0 : Int32) (0 : Int32) ud h _ _ ls hP hD hS (lv_sub hl [2, 3, 4, 1, 0] rfl)
    · refine lv_aload_n hx hb dX3_widenWon_8 rfl (lv_at hl 0 rfl) ?_
      refine va_get (D := D) (ci := 2) (v := .ref (g 303)) (C := RX3) (T := TX3) (N := 4) hx hb hts ki_X3_widenWon_X3 hown hK hP 10 rfl rfl 3 (by decide) (hts _ k_X3_widenWon_0) (fun _ h9 => h9) rfl dX3_widenWon_9 ?_
      refine lv_iload_n hx hb dX3_widenWon_12 rfl (lv_at hl 3 rfl) ?_
      refine lv_aload_n hx hb dX3_widenWon_13 rfl (lv_at hl 0 rfl) ?_
      refine lv_iload_n hx hb dX3_widenWon_14 rfl (lv_at hl 1 rfl) ?_
      refine lv_iload_n hx hb dX3_widenWon_15 rfl (lv_at hl 2 rfl) ?_
      refine lv_iload_n hx hb dX3_widenWon_16 rfl (lv_at hl 3 rfl) ?_
      obtain ⟨r1, e2, h⟩ := bd_some h
      refine x_callVI (As := [.int l1, .int l2, .int l3]) (rest := [.int l3, .ref (g 303)]) (n := 3) ⟨hx, hb, hml, hown, hts⟩ (c_X3_heldAgainst l D cy g ua us ud l1 l2 l3 r1 e2) gX3_widenWon_X3_heldAgainst rfl hd_X3_heldAgainst ⟨Nat.le_of_ble_eq_true rfl, Nat.le_of_ble_eq_true rfl⟩ ⟨rfl, rfl⟩ hK (sp_all _) (sp_all _) hP hD hS hA 10 rfl rfl rfl hl.1 rfl (Nat.le_of_ble_eq_true rfl) dX3_widenWon_17 ⟨Nat.zero_le _, Nat.zero_le _⟩ (fun H locs hP hD hS => ?_)
      clear e2
      refine x_iast (Wd := (fun uz => wD3 cy g ua us uz)) (u := ud) (k := 3) hx hb hK hP hD hS 12 rfl rfl (fun _ => rfl) h dX3_widenWon_20 (fun ud3 H locs h hP hD hS => ?_)
      obtain ⟨v4, ev4, h⟩ := nm_ex h
      refine lv_iinc (v := v4) (lv' := [(3, .int v4), (0, .ref (g 399)), (1, .int l1), (2, .int l2)]) hx hb dX3_widenWon_21 hl (k := 3) rfl (by rw [ev4]; rfl) (by decide) rfl (fun ls hl => ?_)
      clear ev4
      refine lv_goto (tgt := 2) hx hb dX3_widenWon_24 (by decide) ?_
      exact ih l1 l2 v4 ud3 h _ _ ls hP hD hS (lv_sub hl [1, 2, 3, 0] rfl)
set_option maxHeartbeats 4000000 in
set_option maxRecDepth 100000 in
theorem c_X3_widenWon (l : Launch) (D : va_G) (cy : Nat → ClassId) (g : Nat → Nat) (ua : St) (us : St) (ud : St) (p0 : Int32) (p1 : Int32) (r : Int32) (ud' : St) (h : f_X3_widenWon ua us p0 p1 ud = some (r, ud')) : CtI l yX3_widenWon wsX3_widenWon (rmH 4) [.ref (g 399), .int p0, .int p1] D cy (wD3 cy g ua us ud) (wD3 cy g ua us ud') r := by
  refine ct_enter (D := D) (cy := cy) (cc := cX3_widenWon) (maxL := 6) (ret := (some .boolean)) (w := wD3 cy g ua us ud) (Qc := fun sz => va_Qi (fun r' (_ : Unit) => r' = r) (Bw D cy (va_A (wD3 cy g ua us ud) sz) (wD3 cy g ua us ud')) (va_A (wD3 cy g ua us ud) sz)) (by decide) rfl (Nat.le_of_ble_eq_true rfl) ?_
  intro p e s m below meth c A C0 hAe ls hl hP hD hS
  have e1 : MQ below ((fun sz => va_Qi (fun r' (_ : Unit) => r' = r) (Bw D cy (va_A (wD3 cy g ua us ud) sz) (wD3 cy g ua us ud')) (va_A (wD3 cy g ua us ud) sz)) s.heap.size) [.ref (g 399), .int p0, .int p1].toArray s 0 0 A = QI below [.ref (g 399), .int p0, .int p1].toArray s A D cy (wD3 cy g ua us ud') r := by rw [hAe]; rfl
  rw [e1]
  clear e1 hAe
  obtain ⟨hx, hb, hr, hml, hown, hts, hlocks, hK, hA⟩ := id C0
  have hl : lv_has ls 6 [(0, .ref (g 399)), (1, .int p0), (2, .int p1)] := hl
  rw [f_X3_widenWon] at h
  refine lv_iconst (v := 0) hx hb dX3_widenWon_0 (by decide) ?_
  refine lv_istore_n (lv' := [(3, .int (0 : Int32)), (0, .ref (g 399)), (1, .int p0), (2, .int p1)]) hx hb dX3_widenWon_1 rfl hl (by decide) rfl (fun ls hl => ?_)
  exact w_X3_widenWon_2 C0 FU p0 p1 (0 : Int32) ud h _ _ ls hP hD hS (lv_sub hl [1, 2, 3, 0] rfl)
theorem k_X3_canForce_0 : Cond.fieldLink RX3 18 "FeatherHall$Duel" "air" "LFeatherHall$Air;" ∈ wsX3_canForce := (List.mem_cons_of_mem _ (List.mem_append_left _ (List.mem_append_left _ (List.mem_append_left _ (List.mem_append_left _ (List.mem_of_getElem? (i := 0) rfl))))))
theorem ki_X3_canForce_X3 : ∀ w ∈ u_ws RX3 TX3 4, w ∈ wsX3_canForce := fun _ hh => (List.mem_cons_of_mem _ (List.mem_append_left _ (List.mem_append_left _ (List.mem_append_right _ hh))))
theorem k_X3_canForce_1 : Cond.fieldLink RX3 9 "FeatherHall$Duel" "won" "[I" ∈ wsX3_canForce := (List.mem_cons_of_mem _ (List.mem_append_left _ (List.mem_append_left _ (List.mem_append_left _ (List.mem_append_left _ (List.mem_of_getElem? (i := 1) rfl))))))
theorem hd_X3_canForce : yX3_canForce.cls = RX3 ∧ yX3_canForce.cls ≠ "java/lang/invoke/MethodHandle" ∧ yX3_canForce.cls ≠ "java/lang/invoke/VarHandle" ∧ (parseMethodDescriptor yX3_canForce.desc).map (fun d => d.parameters.length) = some 5 := by decide +kernel
set_option maxHeartbeats 4000000 in
set_option maxRecDepth 100000 in
theorem w_X3_canForce_103 {p : Program} {l : Launch} {e : Env} {s : State} {m : MethodId} {below : List Frame} {meth : Method} {c : Code} {args : Array Value} {D : va_G} {cy : Nat → ClassId} {g : Nat → Nat} {A : Nat → Prop} {us : St} {r : Int32} {ua' : St} {ud' : St} (C0 : Cx p s m meth c args cX3_canForce 8 (some .boolean) wsX3_canForce RX3 D cy A) : ∀ (l3 : Int32) (l4 : Int32) (ua : St) (ud : St), f_X3_canForce_103 us l3 l4 ua ud = some (r, ua', ud') → ∀ (H : Heap) (locs : List Loc) (ls : Array Slot), va_P D vwCl (wD3 cy g ua us ud) H → va_D A (wD3 cy g ua us ud) → va_S A s.heap H locs → lv_has ls 8 [(0, .ref (g 399)), (3, .int l3), (4, .int l4)] → W p l e (rmH 5) s m args below meth c H locs 0 0 (QI below args s A D cy (wD3 cy g ua' us ud') r) (F0 m 103 ls []) := by
  obtain ⟨hx, hb, hr, hml, hown, hts, hlocks, hK, hA⟩ := id C0
  intro l3 l4 ua ud h H locs ls hP hD hS hl
  rw [f_X3_canForce_103] at h
  refine lv_aload_n hx hb dX3_canForce_103 rfl (lv_at hl 0 rfl) ?_
  refine va_get (D := D) (ci := 2) (v := .ref (g 302)) (C := RX3) (T := TX3) (N := 4) hx hb hts ki_X3_canForce_X3 hown hK hP 10 rfl rfl 2 (by decide) (hts _ k_X3_canForce_1) (fun _ h9 => h9) rfl dX3_canForce_104 ?_
  refine lv_iload_n hx hb dX3_canForce_107 rfl (lv_at hl 1 rfl) ?_
  refine x_iald hx hb hK hP 11 rfl rfl h dX3_canForce_108 (fun v17 h => ?_)
  refine lv_iload hx hb dX3_canForce_109 (lv_at hl 2 rfl) ?_
  obtain ⟨r18, e19, h⟩ := bd_some h
  refine x_callSI (As := [.int v17, .int l4]) (rest := []) (n := 2) ⟨hx, hb, hml, hown, hts⟩ (c_X2_holds l D cy  v17 l4 r18 e19) gX3_canForce_X2_holds rfl hd_X2_holds ⟨Nat.le_of_ble_eq_true rfl, Nat.le_of_ble_eq_true rfl⟩ ⟨rfl, rfl⟩ hK (sp_nil _) (sp_nil _) hP hD hS hA rfl hl.1 rfl (Nat.le_of_ble_eq_true rfl) dX3_canForce_111 ⟨Nat.zero_le _, Nat.zero_le _⟩ (fun H locs hP hD hS => ?_)
  clear e19
  obtain ⟨hz, h⟩ := bk_some h
  cases h
  exact x_zret hx hb hr hlocks hK hP hD hS hz dX3_canForce_114 rfl rfl
set_option maxHeartbeats 4000000 in
set_option maxRecDepth 100000 in
theorem w_X3_canForce_77 {p : Program} {l : Launch} {e : Env} {s : State} {m : MethodId} {below : List Frame} {meth : Method} {c : Code} {args : Array Value} {D : va_G} {cy : Nat → ClassId} {g : Nat → Nat} {A : Nat → Prop} {us : St} {r : Int32} {ua' : St} {ud' : St} (C0 : Cx p s m meth c args cX3_canForce 8 (some .boolean) wsX3_canForce RX3 D cy A) : ∀ (nn : Nat) (l1 : Int32) (l2 : Int32) (l3 : Int32) (l4 : Int32) (l5 : Int32) (l6 : Int32) (l7 : Int32) (ua : St) (ud : St), f_X3_canForce_77 us nn l1 l2 l3 l4 l5 l6 l7 ua ud = some (r, ua', ud') → ∀ (H : Heap) (locs : List Loc) (ls : Array Slot), va_P D vwCl (wD3 cy g ua us ud) H → va_D A (wD3 cy g ua us ud) → va_S A s.heap H locs → lv_has ls 8 [(0, .ref (g 399)), (1, .int l1), (2, .int l2), (3, .int l3), (4, .int l4), (5, .int l5), (6, .int l6), (7, .int l7)] → W p l e (rmH 5) s m args below meth c H locs 0 0 (QI below args s A D cy (wD3 cy g ua' us ud') r) (F0 m 77 ls []) := by
  obtain ⟨hx, hb, hr, hml, hown, hts, hlocks, hK, hA⟩ := id C0
  intro nn
  induction nn with
  | zero => intro l1 l2 l3 l4 l5 l6 l7 ua ud h; rw [f_X3_canForce_77] at h; cases h
  | succ nn ih =>
    intro l1 l2 l3 l4 l5 l6 l7 ua ud h H locs ls hP hD hS hl
    rw [f_X3_canForce_77] at h
    refine lv_iload hx hb dX3_canForce_77 (lv_at hl 7 rfl) ?_
    refine lv_iload hx hb dX3_canForce_79 (lv_at hl 5 rfl) ?_
    refine x_icmp_gt (tgt := 103) hx hb dX3_canForce_81 (by decide) h (fun _ h => ?_) (fun _ h => ?_)
    · exact w_X3_canForce_103 C0 l3 l4 ua ud h _ _ ls hP hD hS (lv_sub hl [0, 3, 4] rfl)
    · refine lv_iload hx hb dX3_canForce_84 (lv_at hl 6 rfl) ?_
      refine x_if_eq (tgt := 103) hx hb dX3_canForce_86 (by decide) h (fun _ h => ?_) (fun _ h => ?_)
      · exact w_X3_canForce_103 C0 l3 l4 ua ud h _ _ ls hP hD hS (lv_sub hl [0, 3, 4] rfl)
      · refine lv_aload_n hx hb dX3_canForce_89 rfl (lv_at hl 0 rfl) ?_
        refine lv_iload_n hx hb dX3_canForce_90 rfl (lv_at hl 1 rfl) ?_
        refine lv_iload_n hx hb dX3_canForce_91 rfl (lv_at hl 2 rfl) ?_
        obtain ⟨r14, ud13, e15, h⟩ := bd2_some h
        refine x_callVI (As := [.int l1, .int l2]) (rest := []) (n := 2) ⟨hx, hb, hml, hown, hts⟩ (c_X3_widenWon l D cy g ua us ud l1 l2 r14 ud13 e15) gX3_canForce_X3_widenWon rfl hd_X3_widenWon ⟨Nat.le_of_ble_eq_true rfl, Nat.le_of_ble_eq_true rfl⟩ ⟨rfl, rfl⟩ hK (sp_all _) (sp_all _) hP hD hS hA 10 rfl rfl rfl hl.1 rfl (Nat.le_of_ble_eq_true rfl) dX3_canForce_92 ⟨Nat.zero_le _, Nat.zero_le _⟩ (fun H locs hP hD hS => ?_)
        clear e15
        refine lv_istore (lv' := [(6, .int r14), (0, .ref (g 399)), (1, .int l1), (2, .int l2), (3, .int l3), (4, .int l4), (5, .int l5), (7, .int l7)]) hx hb dX3_canForce_95 hl (by decide) rfl (fun ls hl => ?_)
        obtain ⟨v16, ev16, h⟩ := nm_ex h
        refine lv_iinc (v := v16) (lv' := [(7, .int v16), (6, .int r14), (0, .ref (g 399)), (1, .int l1), (2, .int l2), (3, .int l3), (4, .int l4), (5, .int l5)]) hx hb dX3_canForce_97 hl (k := 7) rfl (by rw [ev16]; rfl) (by decide) rfl (fun ls hl => ?_)
        clear ev16
        refine lv_goto (tgt := 77) hx hb dX3_canForce_100 (by decide) ?_
        exact ih l1 l2 l3 l4 l5 r14 v16 ua ud13 h _ _ ls hP hD hS (lv_sub hl [2, 3, 4, 5, 6, 7, 1, 0] rfl)
set_option maxHeartbeats 4000000 in
set_option maxRecDepth 100000 in
theorem w_X3_canForce_35 {p : Program} {l : Launch} {e : Env} {s : State} {m : MethodId} {below : List Frame} {meth : Method} {c : Code} {args : Array Value} {D : va_G} {cy : Nat → ClassId} {g : Nat → Nat} {A : Nat → Prop} {us : St} {r : Int32} {ua' : St} {ud' : St} (C0 : Cx p s m meth c args cX3_canForce 8 (some .boolean) wsX3_canForce RX3 D cy A) : ∀ (nn : Nat) (l1 : Int32) (l2 : Int32) (l3 : Int32) (l4 : Int32) (l5 : Int32) (l6 : Int32) (ua : St) (ud : St), f_X3_canForce_35 us nn l1 l2 l3 l4 l5 l6 ua ud = some (r, ua', ud') → ∀ (H : Heap) (locs : List Loc) (ls : Array Slot), va_P D vwCl (wD3 cy g ua us ud) H → va_D A (wD3 cy g ua us ud) → va_S A s.heap H locs → lv_has ls 8 [(0, .ref (g 399)), (1, .int l1), (2, .int l2), (3, .int l3), (4, .int l4), (5, .int l5), (6, .int l6)] → W p l e (rmH 5) s m args below meth c H locs 0 0 (QI below args s A D cy (wD3 cy g ua' us ud') r) (F0 m 35 ls []) := by
  obtain ⟨hx, hb, hr, hml, hown, hts, hlocks, hK, hA⟩ := id C0
  intro nn
  induction nn with
  | zero => intro l1 l2 l3 l4 l5 l6 ua ud h; rw [f_X3_canForce_35] at h; cases h
  | succ nn ih =>
    intro l1 l2 l3 l4 l5 l6 ua ud h H locs ls hP hD hS hl
    rw [f_X3_canForce_35] at h
    refine lv_iload hx hb dX3_canForce_35 (lv_at hl 6 rfl) ?_
    refine lv_bipush (v := 16) hx hb dX3_canForce_37 (by decide) ?_
    refine x_icmp_ge (tgt := 71) hx hb dX3_canForce_39 (by decide) h (fun _ h => ?_) (fun _ h => ?_)
    · refine lv_iconst (v := 1) hx hb dX3_canForce_71 (by decide) ?_
      refine lv_istore (lv' := [(6, .int (1 : Int32)), (0, .ref (g 399)), (1, .int l1), (2, .int l2), (3, .int l3), (4, .int l4), (5, .int l5)]) hx hb dX3_canForce_72 hl (by decide) rfl (fun ls hl => ?_)
      refine lv_iconst (v := 2) hx hb dX3_canForce_74 (by decide) ?_
      refine lv_istore (lv' := [(7, .int (2 : Int32)), (6, .int (1 : Int32)), (0, .ref (g 399)), (1, .int l1), (2, .int l2), (3, .int l3), (4, .int l4), (5, .int l5)]) hx hb dX3_canForce_75 hl (by decide) rfl (fun ls hl => ?_)
      exact w_X3_canForce_77 C0 FU l1 l2 l3 l4 l5 (1 : Int32) (2 : Int32) ua ud h _ _ ls hP hD hS (lv_sub hl [2, 3, 4, 5, 6, 7, 1, 0] rfl)
    · refine lv_aload_n hx hb dX3_canForce_42 rfl (lv_at hl 0 rfl) ?_
      refine va_get (D := D) (ci := 2) (v := .ref (g 99)) (C := RX3) (T := TX3) (N := 4) hx hb hts ki_X3_canForce_X3 hown hK hP 10 rfl rfl 0 (by decide) (hts _ k_X3_canForce_0) (fun _ h9 => h9) rfl dX3_canForce_43 ?_
      refine lv_iload hx hb dX3_canForce_46 (lv_at hl 6 rfl) ?_
      obtain ⟨ua7, e8, h⟩ := bd_some h
      refine x_callVV (As := [.int l6]) (rest := []) (n := 1) ⟨hx, hb, hml, hown, hts⟩ (c_X0_workOutFrom l D cy g ua l6 ua7 e8) gX3_canForce_X0_workOutFrom rfl hd_X0_workOutFrom ⟨Nat.le_of_ble_eq_true rfl, Nat.le_of_ble_eq_true rfl⟩ ⟨rfl, rfl⟩ hK (sp3_X0 cy g ua us ud) (sp3_X0 cy g ua7 us ud) hP hD hS hA 0 rfl rfl rfl hl.1 rfl (Nat.le_of_ble_eq_true rfl) dX3_canForce_48 ⟨Nat.zero_le _, Nat.zero_le _⟩ (fun H locs hP hD hS => ?_)
      clear e8
      refine lv_aload_n hx hb dX3_canForce_51 rfl (lv_at hl 0 rfl) ?_
      refine va_get (D := D) (ci := 2) (v := .ref (g 302)) (C := RX3) (T := TX3) (N := 4) hx hb hts ki_X3_canForce_X3 hown hK hP 10 rfl rfl 2 (by decide) (hts _ k_X3_canForce_1) (fun _ h9 => h9) rfl dX3_canForce_52 ?_
      refine lv_iload hx hb dX3_canForce_55 (lv_at hl 6 rfl) ?_
      refine lv_aload_n hx hb dX3_canForce_57 rfl (lv_at hl 0 rfl) ?_
      refine lv_iload_n hx hb dX3_canForce_58 rfl (lv_at hl 2 rfl) ?_
      refine lv_iload hx hb dX3_canForce_59 (lv_at hl 6 rfl) ?_
      obtain ⟨r9, e10, h⟩ := bd_some h
      refine x_callVI (As := [.int l2, .int l6]) (rest := [.int l6, .ref (g 302)]) (n := 2) ⟨hx, hb, hml, hown, hts⟩ (c_X3_missedFrom l D cy g ua7 us ud l2 l6 r9 e10) gX3_canForce_X3_missedFrom rfl hd_X3_missedFrom ⟨Nat.le_of_ble_eq_true rfl, Nat.le_of_ble_eq_true rfl⟩ ⟨rfl, rfl⟩ hK (sp_all _) (sp_all _) hP hD hS hA 10 rfl rfl rfl hl.1 rfl (Nat.le_of_ble_eq_true rfl) dX3_canForce_61 ⟨Nat.zero_le _, Nat.zero_le _⟩ (fun H locs hP hD hS => ?_)
      clear e10
      refine x_iast (Wd := (fun uz => wD3 cy g ua7 us uz)) (u := ud) (k := 2) hx hb hK hP hD hS 11 rfl rfl (fun _ => rfl) h dX3_canForce_64 (fun ud11 H locs h hP hD hS => ?_)
      obtain ⟨v12, ev12, h⟩ := nm_ex h
      refine lv_iinc (v := v12) (lv' := [(6, .int v12), (0, .ref (g 399)), (1, .int l1), (2, .int l2), (3, .int l3), (4, .int l4), (5, .int l5)]) hx hb dX3_canForce_65 hl (k := 6) rfl (by rw [ev12]; rfl) (by decide) rfl (fun ls hl => ?_)
      clear ev12
      refine lv_goto (tgt := 35) hx hb dX3_canForce_68 (by decide) ?_
      exact ih l1 l2 l3 l4 l5 v12 ua7 ud11 h _ _ ls hP hD hS (lv_sub hl [1, 2, 3, 4, 5, 6, 0] rfl)
set_option maxHeartbeats 4000000 in
set_option maxRecDepth 100000 in
theorem c_X3_canForce (l : Launch) (D : va_G) (cy : Nat → ClassId) (g : Nat → Nat) (ua : St) (us : St) (ud : St) (p0 : Int32) (p1 : Int32) (p2 : Int32) (p3 : Int32) (p4 : Int32) (r : Int32) (ua' : St) (ud' : St) (h : f_X3_canForce us p0 p1 p2 p3 p4 ua ud = some (r, ua', ud')) : CtI l yX3_canForce wsX3_canForce (rmH 5) [.ref (g 399), .int p0, .int p1, .int p2, .int p3, .int p4] D cy (wD3 cy g ua us ud) (wD3 cy g ua' us ud') r := by
  refine ct_enter (D := D) (cy := cy) (cc := cX3_canForce) (maxL := 8) (ret := (some .boolean)) (w := wD3 cy g ua us ud) (Qc := fun sz => va_Qi (fun r' (_ : Unit) => r' = r) (Bw D cy (va_A (wD3 cy g ua us ud) sz) (wD3 cy g ua' us ud')) (va_A (wD3 cy g ua us ud) sz)) (by decide) rfl (Nat.le_of_ble_eq_true rfl) ?_
  intro p e s m below meth c A C0 hAe ls hl hP hD hS
  have e1 : MQ below ((fun sz => va_Qi (fun r' (_ : Unit) => r' = r) (Bw D cy (va_A (wD3 cy g ua us ud) sz) (wD3 cy g ua' us ud')) (va_A (wD3 cy g ua us ud) sz)) s.heap.size) [.ref (g 399), .int p0, .int p1, .int p2, .int p3, .int p4].toArray s 0 0 A = QI below [.ref (g 399), .int p0, .int p1, .int p2, .int p3, .int p4].toArray s A D cy (wD3 cy g ua' us ud') r := by rw [hAe]; rfl
  rw [e1]
  clear e1 hAe
  obtain ⟨hx, hb, hr, hml, hown, hts, hlocks, hK, hA⟩ := id C0
  have hl : lv_has ls 8 [(0, .ref (g 399)), (1, .int p0), (2, .int p1), (3, .int p2), (4, .int p3), (5, .int p4)] := hl
  rw [f_X3_canForce] at h
  refine lv_aload_n hx hb dX3_canForce_0 rfl (lv_at hl 0 rfl) ?_
  refine va_get (D := D) (ci := 2) (v := .ref (g 99)) (C := RX3) (T := TX3) (N := 4) hx hb hts ki_X3_canForce_X3 hown hK hP 10 rfl rfl 0 (by decide) (hts _ k_X3_canForce_0) (fun _ h9 => h9) rfl dX3_canForce_1 ?_
  refine lv_iload_n hx hb dX3_canForce_4 rfl (lv_at hl 3 rfl) ?_
  obtain ⟨ua1, e2, h⟩ := bd_some h
  refine x_callVV (As := [.int p2]) (rest := []) (n := 1) ⟨hx, hb, hml, hown, hts⟩ (c_X0_workOutFrom l D cy g ua p2 ua1 e2) gX3_canForce_X0_workOutFrom rfl hd_X0_workOutFrom ⟨Nat.le_of_ble_eq_true rfl, Nat.le_of_ble_eq_true rfl⟩ ⟨rfl, rfl⟩ hK (sp3_X0 cy g ua us ud) (sp3_X0 cy g ua1 us ud) hP hD hS hA 0 rfl rfl rfl hl.1 rfl (Nat.le_of_ble_eq_true rfl) dX3_canForce_5 ⟨Nat.zero_le _, Nat.zero_le _⟩ (fun H locs hP hD hS => ?_)
  clear e2
  refine lv_aload_n hx hb dX3_canForce_8 rfl (lv_at hl 0 rfl) ?_
  refine lv_iload_n hx hb dX3_canForce_9 rfl (lv_at hl 2 rfl) ?_
  refine lv_iload_n hx hb dX3_canForce_10 rfl (lv_at hl 3 rfl) ?_
  obtain ⟨r3, e4, h⟩ := bd_some h
  refine x_callVI (As := [.int p1, .int p2]) (rest := []) (n := 2) ⟨hx, hb, hml, hown, hts⟩ (c_X3_missedFrom l D cy g ua1 us ud p1 p2 r3 e4) gX3_canForce_X3_missedFrom rfl hd_X3_missedFrom ⟨Nat.le_of_ble_eq_true rfl, Nat.le_of_ble_eq_true rfl⟩ ⟨rfl, rfl⟩ hK (sp_all _) (sp_all _) hP hD hS hA 10 rfl rfl rfl hl.1 rfl (Nat.le_of_ble_eq_true rfl) dX3_canForce_11 ⟨Nat.zero_le _, Nat.zero_le _⟩ (fun H locs hP hD hS => ?_)
  clear e4
  refine lv_iload hx hb dX3_canForce_14 (lv_at hl 4 rfl) ?_
  obtain ⟨r5, e6, h⟩ := bd_some h
  refine x_callSI (As := [.int r3, .int p3]) (rest := []) (n := 2) ⟨hx, hb, hml, hown, hts⟩ (c_X2_holds l D cy  r3 p3 r5 e6) gX3_canForce_X2_holds rfl hd_X2_holds ⟨Nat.le_of_ble_eq_true rfl, Nat.le_of_ble_eq_true rfl⟩ ⟨rfl, rfl⟩ hK (sp_nil _) (sp_nil _) hP hD hS hA rfl hl.1 rfl (Nat.le_of_ble_eq_true rfl) dX3_canForce_16 ⟨Nat.zero_le _, Nat.zero_le _⟩ (fun H locs hP hD hS => ?_)
  clear e6
  refine x_if_eq (tgt := 24) hx hb dX3_canForce_19 (by decide) h (fun _ h => ?_) (fun _ h => ?_)
  · refine lv_iload hx hb dX3_canForce_24 (lv_at hl 5 rfl) ?_
    refine lv_iconst (v := 1) hx hb dX3_canForce_26 (by decide) ?_
    refine x_icmp_ne (tgt := 32) hx hb dX3_canForce_27 (by decide) h (fun _ h => ?_) (fun _ h => ?_)
    · refine lv_iconst (v := 0) hx hb dX3_canForce_30 (by decide) ?_
      cases h
      exact x_zret hx hb hr hlocks hK hP hD hS (Or.inl rfl) dX3_canForce_31 rfl rfl
    · refine lv_iconst (v := 0) hx hb dX3_canForce_32 (by decide) ?_
      refine lv_istore (lv' := [(6, .int (0 : Int32)), (0, .ref (g 399)), (1, .int p0), (2, .int p1), (3, .int p2), (4, .int p3), (5, .int p4)]) hx hb dX3_canForce_33 hl (by decide) rfl (fun ls hl => ?_)
      exact w_X3_canForce_35 C0 FU p0 p1 p2 p3 p4 (0 : Int32) ua1 ud h _ _ ls hP hD hS (lv_sub hl [1, 2, 3, 4, 5, 6, 0] rfl)
  · refine lv_iconst (v := 1) hx hb dX3_canForce_22 (by decide) ?_
    cases h
    exact x_zret hx hb hr hlocks hK hP hD hS (Or.inr rfl) dX3_canForce_23 rfl rfl
