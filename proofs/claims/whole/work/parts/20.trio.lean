theorem k_X7_aloneNow_0 : Cond.fieldLink RX7 11 "FeatherHall$Trio" "scores" "[I" ∈ wsX7_aloneNow := (List.mem_cons_of_mem _ (List.mem_append_left _ (List.mem_of_getElem? (i := 0) rfl)))
theorem ki_X7_aloneNow_X7 : ∀ w ∈ u_ws RX7 TX7 2, w ∈ wsX7_aloneNow := fun _ hh => (List.mem_cons_of_mem _ (List.mem_append_right _ hh))
theorem hd_X7_aloneNow : yX7_aloneNow.cls = RX7 ∧ yX7_aloneNow.cls ≠ "java/lang/invoke/MethodHandle" ∧ yX7_aloneNow.cls ≠ "java/lang/invoke/VarHandle" ∧ (parseMethodDescriptor yX7_aloneNow.desc).map (fun d => d.parameters.length) = some 0 := by decide +kernel
set_option maxHeartbeats 4000000 in
set_option maxRecDepth 100000 in
theorem w_X7_aloneNow_26 {p : Program} {l : Launch} {e : Env} {s : State} {m : MethodId} {below : List Frame} {meth : Method} {c : Code} {args : Array Value} {D : va_G} {cy : Nat → ClassId} {g : Nat → Nat} {A : Nat → Prop} {ut : St} {r : Int32} (C0 : Cx p s m meth c args cX7_aloneNow 3 (some .int) wsX7_aloneNow RX7 D cy A) {k_4 : Int32 → Int32 → Option (Int32)} (hk_4 : ∀ (l1 : Int32) (l2 : Int32), k_4 l1 l2 = some r → ∀ (H : Heap) (locs : List Loc) (ls : Array Slot), va_P D vwCl (wX7 cy g ut) H → va_D A (wX7 cy g ut) → va_S A s.heap H locs → lv_has ls 3 [(0, .ref (g 799)), (1, .int l1), (2, .int l2)] → W p l e (rmH 0) s m args below meth c H locs 0 0 (QI below args s A D cy (wX7 cy g ut) r) (F0 m 4 ls [])) : ∀ (l1 : Int32) (l2 : Int32), f_X7_aloneNow_26 ut k_4 l1 l2 = some r → ∀ (H : Heap) (locs : List Loc) (ls : Array Slot), va_P D vwCl (wX7 cy g ut) H → va_D A (wX7 cy g ut) → va_S A s.heap H locs → lv_has ls 3 [(0, .ref (g 799)), (1, .int l1), (2, .int l2)] → W p l e (rmH 0) s m args below meth c H locs 0 0 (QI below args s A D cy (wX7 cy g ut) r) (F0 m 26 ls []) := by
  obtain ⟨hx, hb, hr, hml, hown, hts, hlocks, hK, hA⟩ := id C0
  intro l1 l2 h H locs ls hP hD hS hl
  rw [f_X7_aloneNow_26] at h
  obtain ⟨v3, ev3, h⟩ := nm_ex h
  refine lv_iinc (v := v3) (lv' := [(2, .int v3), (0, .ref (g 799)), (1, .int l1)]) hx hb dX7_aloneNow_26 hl (k := 2) rfl (by rw [ev3]; rfl) (by decide) rfl (fun ls hl => ?_)
  clear ev3
  refine lv_goto (tgt := 4) hx hb dX7_aloneNow_29 (by decide) ?_
  exact hk_4 l1 v3 h _ _ ls hP hD hS (lv_sub hl [1, 2, 0] rfl)
set_option maxHeartbeats 4000000 in
set_option maxRecDepth 100000 in
theorem w_X7_aloneNow_4 {p : Program} {l : Launch} {e : Env} {s : State} {m : MethodId} {below : List Frame} {meth : Method} {c : Code} {args : Array Value} {D : va_G} {cy : Nat → ClassId} {g : Nat → Nat} {A : Nat → Prop} {ut : St} {r : Int32} (C0 : Cx p s m meth c args cX7_aloneNow 3 (some .int) wsX7_aloneNow RX7 D cy A) : ∀ (nn : Nat) (l1 : Int32) (l2 : Int32), f_X7_aloneNow_4 ut nn l1 l2 = some r → ∀ (H : Heap) (locs : List Loc) (ls : Array Slot), va_P D vwCl (wX7 cy g ut) H → va_D A (wX7 cy g ut) → va_S A s.heap H locs → lv_has ls 3 [(0, .ref (g 799)), (1, .int l1), (2, .int l2)] → W p l e (rmH 0) s m args below meth c H locs 0 0 (QI below args s A D cy (wX7 cy g ut) r) (F0 m 4 ls []) := by
  obtain ⟨hx, hb, hr, hml, hown, hts, hlocks, hK, hA⟩ := id C0
  intro nn
  induction nn with
  | zero => intro l1 l2 h; rw [f_X7_aloneNow_4] at h; cases h
  | succ nn ih =>
    intro l1 l2 h H locs ls hP hD hS hl
    rw [f_X7_aloneNow_4] at h
    refine lv_iload_n hx hb dX7_aloneNow_4 rfl (lv_at hl 2 rfl) ?_
    refine lv_iconst (v := 3) hx hb dX7_aloneNow_5 (by decide) ?_
    refine x_icmp_ge (tgt := 32) hx hb dX7_aloneNow_6 (by decide) h (fun _ h => ?_) (fun _ h => ?_)
    · refine lv_iload_n hx hb dX7_aloneNow_32 rfl (lv_at hl 1 rfl) ?_
      cases h
      exact x_iret hx hb hr hlocks hK hP hD hS dX7_aloneNow_33 rfl rfl
    · refine lv_aload_n hx hb dX7_aloneNow_9 rfl (lv_at hl 0 rfl) ?_
      refine va_get (D := D) (ci := 6) (v := .ref (g 700)) (C := RX7) (T := TX7) (N := 2) hx hb hts ki_X7_aloneNow_X7 hown hK hP 0 rfl rfl 0 (by decide) (hts _ k_X7_aloneNow_0) (fun _ h9 => h9) rfl dX7_aloneNow_10 ?_
      refine lv_iload_n hx hb dX7_aloneNow_13 rfl (lv_at hl 2 rfl) ?_
      refine x_iald hx hb hK hP 1 rfl rfl h dX7_aloneNow_14 (fun v1 h => ?_)
      refine lv_aload_n hx hb dX7_aloneNow_15 rfl (lv_at hl 0 rfl) ?_
      refine va_get (D := D) (ci := 6) (v := .ref (g 700)) (C := RX7) (T := TX7) (N := 2) hx hb hts ki_X7_aloneNow_X7 hown hK hP 0 rfl rfl 0 (by decide) (hts _ k_X7_aloneNow_0) (fun _ h9 => h9) rfl dX7_aloneNow_16 ?_
      refine lv_iload_n hx hb dX7_aloneNow_19 rfl (lv_at hl 1 rfl) ?_
      refine x_iald hx hb hK hP 1 rfl rfl h dX7_aloneNow_20 (fun v2 h => ?_)
      refine x_icmp_le (tgt := 26) hx hb dX7_aloneNow_21 (by decide) h (fun _ h => ?_) (fun _ h => ?_)
      · exact w_X7_aloneNow_26 C0 ih l1 l2 h _ _ ls hP hD hS (lv_sub hl [0, 1, 2] rfl)
      · refine lv_iload_n hx hb dX7_aloneNow_24 rfl (lv_at hl 2 rfl) ?_
        refine lv_istore_n (lv' := [(1, .int l2), (0, .ref (g 799)), (2, .int l2)]) hx hb dX7_aloneNow_25 rfl hl (by decide) rfl (fun ls hl => ?_)
        exact w_X7_aloneNow_26 C0 ih l2 l2 h _ _ ls hP hD hS (lv_sub hl [1, 0, 2] rfl)
set_option maxHeartbeats 4000000 in
set_option maxRecDepth 100000 in
theorem c_X7_aloneNow (l : Launch) (D : va_G) (cy : Nat → ClassId) (g : Nat → Nat) (ut : St) (r : Int32) (h : f_X7_aloneNow ut = some r) : CtI l yX7_aloneNow wsX7_aloneNow (rmH 0) [.ref (g 799)] D cy (wX7 cy g ut) (wX7 cy g ut) r := by
  refine ct_enter (D := D) (cy := cy) (cc := cX7_aloneNow) (maxL := 3) (ret := (some .int)) (w := wX7 cy g ut) (Qc := fun sz => va_Qi (fun r' (_ : Unit) => r' = r) (Bw D cy (va_A (wX7 cy g ut) sz) (wX7 cy g ut)) (va_A (wX7 cy g ut) sz)) (by decide) rfl (Nat.le_of_ble_eq_true rfl) ?_
  intro p e s m below meth c A C0 hAe ls hl hP hD hS
  have e1 : MQ below ((fun sz => va_Qi (fun r' (_ : Unit) => r' = r) (Bw D cy (va_A (wX7 cy g ut) sz) (wX7 cy g ut)) (va_A (wX7 cy g ut) sz)) s.heap.size) [.ref (g 799)].toArray s 0 0 A = QI below [.ref (g 799)].toArray s A D cy (wX7 cy g ut) r := by rw [hAe]; rfl
  rw [e1]
  clear e1 hAe
  obtain ⟨hx, hb, hr, hml, hown, hts, hlocks, hK, hA⟩ := id C0
  have hl : lv_has ls 3 [(0, .ref (g 799))] := hl
  rw [f_X7_aloneNow] at h
  refine lv_iconst (v := 0) hx hb dX7_aloneNow_0 (by decide) ?_
  refine lv_istore_n (lv' := [(1, .int (0 : Int32)), (0, .ref (g 799))]) hx hb dX7_aloneNow_1 rfl hl (by decide) rfl (fun ls hl => ?_)
  refine lv_iconst (v := 1) hx hb dX7_aloneNow_2 (by decide) ?_
  refine lv_istore_n (lv' := [(2, .int (1 : Int32)), (1, .int (0 : Int32)), (0, .ref (g 799))]) hx hb dX7_aloneNow_3 rfl hl (by decide) rfl (fun ls hl => ?_)
  exact w_X7_aloneNow_4 C0 FU (0 : Int32) (1 : Int32) h _ _ ls hP hD hS (lv_sub hl [2, 1, 0] rfl)
theorem k_X7_isOver_0 : Cond.fieldLink RX7 11 "FeatherHall$Trio" "scores" "[I" ∈ wsX7_isOver := (List.mem_cons_of_mem _ (List.mem_append_left _ (List.mem_of_getElem? (i := 0) rfl)))
theorem ki_X7_isOver_X7 : ∀ w ∈ u_ws RX7 TX7 2, w ∈ wsX7_isOver := fun _ hh => (List.mem_cons_of_mem _ (List.mem_append_right _ hh))
theorem hd_X7_isOver : yX7_isOver.cls = RX7 ∧ yX7_isOver.cls ≠ "java/lang/invoke/MethodHandle" ∧ yX7_isOver.cls ≠ "java/lang/invoke/VarHandle" ∧ (parseMethodDescriptor yX7_isOver.desc).map (fun d => d.parameters.length) = some 0 := by decide +kernel
set_option maxHeartbeats 4000000 in
set_option maxRecDepth 100000 in
theorem c_X7_isOver (l : Launch) (D : va_G) (cy : Nat → ClassId) (g : Nat → Nat) (ut : St) (r : Int32) (h : f_X7_isOver ut = some r) : CtI l yX7_isOver wsX7_isOver (rmH 1) [.ref (g 799)] D cy (wX7 cy g ut) (wX7 cy g ut) r := by
  refine ct_enter (D := D) (cy := cy) (cc := cX7_isOver) (maxL := 1) (ret := (some .boolean)) (w := wX7 cy g ut) (Qc := fun sz => va_Qi (fun r' (_ : Unit) => r' = r) (Bw D cy (va_A (wX7 cy g ut) sz) (wX7 cy g ut)) (va_A (wX7 cy g ut) sz)) (by decide) rfl (Nat.le_of_ble_eq_true rfl) ?_
  intro p e s m below meth c A C0 hAe ls hl hP hD hS
  have e1 : MQ below ((fun sz => va_Qi (fun r' (_ : Unit) => r' = r) (Bw D cy (va_A (wX7 cy g ut) sz) (wX7 cy g ut)) (va_A (wX7 cy g ut) sz)) s.heap.size) [.ref (g 799)].toArray s 0 0 A = QI below [.ref (g 799)].toArray s A D cy (wX7 cy g ut) r := by rw [hAe]; rfl
  rw [e1]
  clear e1 hAe
  obtain ⟨hx, hb, hr, hml, hown, hts, hlocks, hK, hA⟩ := id C0
  have hl : lv_has ls 1 [(0, .ref (g 799))] := hl
  rw [f_X7_isOver] at h
  refine lv_aload_n hx hb dX7_isOver_0 rfl (lv_at hl 0 rfl) ?_
  refine va_get (D := D) (ci := 6) (v := .ref (g 700)) (C := RX7) (T := TX7) (N := 2) hx hb hts ki_X7_isOver_X7 hown hK hP 0 rfl rfl 0 (by decide) (hts _ k_X7_isOver_0) (fun _ h9 => h9) rfl dX7_isOver_1 ?_
  refine lv_aload_n hx hb dX7_isOver_4 rfl (lv_at hl 0 rfl) ?_
  obtain ⟨r1, e2, h⟩ := bd_some h
  refine x_callVI (As := []) (rest := [.ref (g 700)]) (n := 0) ⟨hx, hb, hml, hown, hts⟩ (c_X7_aloneNow l D cy g ut r1 e2) gX7_isOver_X7_aloneNow rfl hd_X7_aloneNow ⟨Nat.le_of_ble_eq_true rfl, Nat.le_of_ble_eq_true rfl⟩ ⟨rfl, rfl⟩ hK (sp_all _) (sp_all _) hP hD hS hA 0 rfl rfl rfl hl.1 rfl (Nat.le_of_ble_eq_true rfl) dX7_isOver_5 ⟨Nat.zero_le _, Nat.zero_le _⟩ (fun H locs hP hD hS => ?_)
  clear e2
  refine x_iald hx hb hK hP 1 rfl rfl h dX7_isOver_8 (fun v3 h => ?_)
  refine lv_bipush (v := 15) hx hb dX7_isOver_9 (by decide) ?_
  refine x_icmp_lt (tgt := 18) hx hb dX7_isOver_11 (by decide) h (fun _ h => ?_) (fun _ h => ?_)
  · refine lv_iconst (v := 0) hx hb dX7_isOver_18 (by decide) ?_
    cases h
    exact x_zret hx hb hr hlocks hK hP hD hS (Or.inl rfl) dX7_isOver_19 rfl rfl
  · refine lv_iconst (v := 1) hx hb dX7_isOver_14 (by decide) ?_
    refine lv_goto (tgt := 19) hx hb dX7_isOver_15 (by decide) ?_
    cases h
    exact x_zret hx hb hr hlocks hK hP hD hS (Or.inr rfl) dX7_isOver_19 rfl rfl
theorem k_X7_tell_0 : Cond.fieldLink RX7 11 "FeatherHall$Trio" "scores" "[I" ∈ wsX7_tell := (List.mem_cons_of_mem _ (List.mem_append_left _ (List.mem_of_getElem? (i := 0) rfl)))
theorem ki_X7_tell_X7 : ∀ w ∈ u_ws RX7 TX7 2, w ∈ wsX7_tell := fun _ hh => (List.mem_cons_of_mem _ (List.mem_append_right _ hh))
theorem k_X7_tell_1 : Cond.fieldLink RX7 15 "FeatherHall$Trio" "server" "I" ∈ wsX7_tell := (List.mem_cons_of_mem _ (List.mem_append_left _ (List.mem_of_getElem? (i := 1) rfl)))
theorem hd_X7_tell : yX7_tell.cls = RX7 ∧ yX7_tell.cls ≠ "java/lang/invoke/MethodHandle" ∧ yX7_tell.cls ≠ "java/lang/invoke/VarHandle" ∧ (parseMethodDescriptor yX7_tell.desc).map (fun d => d.parameters.length) = some 1 := by decide +kernel
set_option maxHeartbeats 4000000 in
set_option maxRecDepth 100000 in
theorem w_X7_tell_98 {p : Program} {l : Launch} {e : Env} {s : State} {m : MethodId} {below : List Frame} {meth : Method} {c : Code} {args : Array Value} {D : va_G} {cy : Nat → ClassId} {g : Nat → Nat} {A : Nat → Prop} {r : Int32} {ut' : St} (C0 : Cx p s m meth c args cX7_tell 5 (some .int) wsX7_tell RX7 D cy A) : ∀ (s0 : Int32) (ut : St), f_X7_tell_98 s0 ut = some (r, ut') → ∀ (H : Heap) (locs : List Loc) (ls : Array Slot), va_P D vwCl (wX7 cy g ut) H → va_D A (wX7 cy g ut) → va_S A s.heap H locs → lv_has ls 5 [(0, .ref (g 799))] → W p l e (rmH 1) s m args below meth c H locs 0 0 (QI below args s A D cy (wX7 cy g ut') r) (F0 m 98 ls [.int s0, .ref (g 799)]) := by
  obtain ⟨hx, hb, hr, hml, hown, hts, hlocks, hK, hA⟩ := id C0
  intro s0 ut h H locs ls hP hD hS hl
  rw [f_X7_tell_98] at h
  refine x_put (D := D) (ci := 6) (Wd := (fun uz => wX7 cy g uz)) (u := ut) (C := RX7) (T := TX7) (N := 2) hx hb hts ki_X7_tell_X7 tyX7 tyX7_ok nmX7 hown hK hP hD hS 0 rfl rfl 1 (by decide) (hts _ k_X7_tell_1) (fun _ h9 => h9) rfl (tyX7_ok 1 (by decide)) rfl rfl (Nat.le_of_ble_eq_true rfl) (fun _ => rfl) h dX7_tell_98 (fun ut12 H locs h hP hD hS => ?_)
  refine lv_aload_n hx hb dX7_tell_101 rfl (lv_at hl 0 rfl) ?_
  refine va_get (D := D) (ci := 6) (v := .int (ut12.1 1)) (C := RX7) (T := TX7) (N := 2) hx hb hts ki_X7_tell_X7 hown hK hP 0 rfl rfl 1 (by decide) (hts _ k_X7_tell_1) (fun _ h9 => h9) rfl dX7_tell_102 ?_
  cases h
  exact x_iret hx hb hr hlocks hK hP hD hS dX7_tell_105 rfl rfl
set_option maxHeartbeats 4000000 in
set_option maxRecDepth 100000 in
theorem w_X7_tell_52 {p : Program} {l : Launch} {e : Env} {s : State} {m : MethodId} {below : List Frame} {meth : Method} {c : Code} {args : Array Value} {D : va_G} {cy : Nat → ClassId} {g : Nat → Nat} {A : Nat → Prop} {r : Int32} {ut' : St} (C0 : Cx p s m meth c args cX7_tell 5 (some .int) wsX7_tell RX7 D cy A) : ∀ (l3 : Int32) (s0 : Int32) (ut : St), f_X7_tell_52 l3 s0 ut = some (r, ut') → ∀ (H : Heap) (locs : List Loc) (ls : Array Slot), va_P D vwCl (wX7 cy g ut) H → va_D A (wX7 cy g ut) → va_S A s.heap H locs → lv_has ls 5 [(0, .ref (g 799)), (3, .int l3)] → W p l e (rmH 1) s m args below meth c H locs 0 0 (QI below args s A D cy (wX7 cy g ut') r) (F0 m 52 ls [.int s0]) := by
  obtain ⟨hx, hb, hr, hml, hown, hts, hlocks, hK, hA⟩ := id C0
  intro l3 s0 ut h H locs ls hP hD hS hl
  rw [f_X7_tell_52] at h
  refine lv_istore (lv' := [(4, .int s0), (0, .ref (g 799)), (3, .int l3)]) hx hb dX7_tell_52 hl (by decide) rfl (fun ls hl => ?_)
  refine lv_aload_n hx hb dX7_tell_54 rfl (lv_at hl 1 rfl) ?_
  refine va_get (D := D) (ci := 6) (v := .ref (g 700)) (C := RX7) (T := TX7) (N := 2) hx hb hts ki_X7_tell_X7 hown hK hP 0 rfl rfl 0 (by decide) (hts _ k_X7_tell_0) (fun _ h9 => h9) rfl dX7_tell_55 ?_
  refine lv_iload_n hx hb dX7_tell_58 rfl (lv_at hl 2 rfl) ?_
  refine lv_dup2_11 hx hb dX7_tell_59 rfl rfl ?_
  refine x_iald hx hb hK hP 1 rfl rfl h dX7_tell_60 (fun v6 h => ?_)
  refine lv_iconst (v := 1) hx hb dX7_tell_61 (by decide) ?_
  refine lv_iadd hx hb dX7_tell_62 ?_
  refine x_iast (Wd := (fun uz => wX7 cy g uz)) (u := ut) (k := 0) hx hb hK hP hD hS 1 rfl rfl (fun _ => rfl) h dX7_tell_63 (fun ut7 H locs h hP hD hS => ?_)
  refine lv_aload_n hx hb dX7_tell_64 rfl (lv_at hl 1 rfl) ?_
  refine va_get (D := D) (ci := 6) (v := .ref (g 700)) (C := RX7) (T := TX7) (N := 2) hx hb hts ki_X7_tell_X7 hown hK hP 0 rfl rfl 0 (by decide) (hts _ k_X7_tell_0) (fun _ h9 => h9) rfl dX7_tell_65 ?_
  refine lv_iload hx hb dX7_tell_68 (lv_at hl 0 rfl) ?_
  refine lv_dup2_11 hx hb dX7_tell_70 rfl rfl ?_
  refine x_iald hx hb hK hP 1 rfl rfl h dX7_tell_71 (fun v8 h => ?_)
  refine lv_iconst (v := 1) hx hb dX7_tell_72 (by decide) ?_
  refine lv_iadd hx hb dX7_tell_73 ?_
  refine x_iast (Wd := (fun uz => wX7 cy g uz)) (u := ut7) (k := 0) hx hb hK hP hD hS 1 rfl rfl (fun _ => rfl) h dX7_tell_74 (fun ut9 H locs h hP hD hS => ?_)
  refine lv_aload_n hx hb dX7_tell_75 rfl (lv_at hl 1 rfl) ?_
  refine lv_aload_n hx hb dX7_tell_76 rfl (lv_at hl 1 rfl) ?_
  refine va_get (D := D) (ci := 6) (v := .ref (g 700)) (C := RX7) (T := TX7) (N := 2) hx hb hts ki_X7_tell_X7 hown hK hP 0 rfl rfl 0 (by decide) (hts _ k_X7_tell_0) (fun _ h9 => h9) rfl dX7_tell_77 ?_
  refine lv_iload hx hb dX7_tell_80 (lv_at hl 0 rfl) ?_
  refine x_iald hx hb hK hP 1 rfl rfl h dX7_tell_82 (fun v10 h => ?_)
  refine lv_aload_n hx hb dX7_tell_83 rfl (lv_at hl 1 rfl) ?_
  refine va_get (D := D) (ci := 6) (v := .ref (g 700)) (C := RX7) (T := TX7) (N := 2) hx hb hts ki_X7_tell_X7 hown hK hP 0 rfl rfl 0 (by decide) (hts _ k_X7_tell_0) (fun _ h9 => h9) rfl dX7_tell_84 ?_
  refine lv_iload_n hx hb dX7_tell_87 rfl (lv_at hl 2 rfl) ?_
  refine x_iald hx hb hK hP 1 rfl rfl h dX7_tell_88 (fun v11 h => ?_)
  refine x_icmp_ge (tgt := 97) hx hb dX7_tell_89 (by decide) h (fun _ h => ?_) (fun _ h => ?_)
  · refine lv_iload_n hx hb dX7_tell_97 rfl (lv_at hl 2 rfl) ?_
    exact w_X7_tell_98 C0 l3 ut9 h _ _ ls hP hD hS (lv_sub hl [1] rfl)
  · refine lv_iload hx hb dX7_tell_92 (lv_at hl 0 rfl) ?_
    refine lv_goto (tgt := 98) hx hb dX7_tell_94 (by decide) ?_
    exact w_X7_tell_98 C0 s0 ut9 h _ _ ls hP hD hS (lv_sub hl [1] rfl)
set_option maxHeartbeats 4000000 in
set_option maxRecDepth 100000 in
theorem w_X7_tell_41 {p : Program} {l : Launch} {e : Env} {s : State} {m : MethodId} {below : List Frame} {meth : Method} {c : Code} {args : Array Value} {D : va_G} {cy : Nat → ClassId} {g : Nat → Nat} {A : Nat → Prop} {r : Int32} {ut' : St} (C0 : Cx p s m meth c args cX7_tell 5 (some .int) wsX7_tell RX7 D cy A) : ∀ (l2 : Int32) (s0 : Int32) (ut : St), f_X7_tell_41 l2 s0 ut = some (r, ut') → ∀ (H : Heap) (locs : List Loc) (ls : Array Slot), va_P D vwCl (wX7 cy g ut) H → va_D A (wX7 cy g ut) → va_S A s.heap H locs → lv_has ls 5 [(0, .ref (g 799)), (2, .int l2)] → W p l e (rmH 1) s m args below meth c H locs 0 0 (QI below args s A D cy (wX7 cy g ut') r) (F0 m 41 ls [.int s0]) := by
  obtain ⟨hx, hb, hr, hml, hown, hts, hlocks, hK, hA⟩ := id C0
  intro l2 s0 ut h H locs ls hP hD hS hl
  rw [f_X7_tell_41] at h
  refine lv_istore_n (lv' := [(3, .int s0), (0, .ref (g 799)), (2, .int l2)]) hx hb dX7_tell_41 rfl hl (by decide) rfl (fun ls hl => ?_)
  refine lv_iload_n hx hb dX7_tell_42 rfl (lv_at hl 2 rfl) ?_
  refine lv_iconst (v := 2) hx hb dX7_tell_43 (by decide) ?_
  refine x_icmp_ne (tgt := 51) hx hb dX7_tell_44 (by decide) h (fun _ h => ?_) (fun _ h => ?_)
  · refine lv_iconst (v := 1) hx hb dX7_tell_47 (by decide) ?_
    refine lv_goto (tgt := 52) hx hb dX7_tell_48 (by decide) ?_
    exact w_X7_tell_52 C0 s0 (1 : Int32) ut h _ _ ls hP hD hS (lv_sub hl [1, 0] rfl)
  · refine lv_iconst (v := 2) hx hb dX7_tell_51 (by decide) ?_
    exact w_X7_tell_52 C0 s0 (2 : Int32) ut h _ _ ls hP hD hS (lv_sub hl [1, 0] rfl)
set_option maxHeartbeats 4000000 in
set_option maxRecDepth 100000 in
theorem c_X7_tell (l : Launch) (D : va_G) (cy : Nat → ClassId) (g : Nat → Nat) (ut : St) (p0 : Int32) (r : Int32) (ut' : St) (h : f_X7_tell p0 ut = some (r, ut')) : CtI l yX7_tell wsX7_tell (rmH 1) [.ref (g 799), .int p0] D cy (wX7 cy g ut) (wX7 cy g ut') r := by
  refine ct_enter (D := D) (cy := cy) (cc := cX7_tell) (maxL := 5) (ret := (some .int)) (w := wX7 cy g ut) (Qc := fun sz => va_Qi (fun r' (_ : Unit) => r' = r) (Bw D cy (va_A (wX7 cy g ut) sz) (wX7 cy g ut')) (va_A (wX7 cy g ut) sz)) (by decide) rfl (Nat.le_of_ble_eq_true rfl) ?_
  intro p e s m below meth c A C0 hAe ls hl hP hD hS
  have e1 : MQ below ((fun sz => va_Qi (fun r' (_ : Unit) => r' = r) (Bw D cy (va_A (wX7 cy g ut) sz) (wX7 cy g ut')) (va_A (wX7 cy g ut) sz)) s.heap.size) [.ref (g 799), .int p0].toArray s 0 0 A = QI below [.ref (g 799), .int p0].toArray s A D cy (wX7 cy g ut') r := by rw [hAe]; rfl
  rw [e1]
  clear e1 hAe
  obtain ⟨hx, hb, hr, hml, hown, hts, hlocks, hK, hA⟩ := id C0
  have hl : lv_has ls 5 [(0, .ref (g 799)), (1, .int p0)] := hl
  rw [f_X7_tell] at h
  refine lv_aload_n hx hb dX7_tell_0 rfl (lv_at hl 0 rfl) ?_
  obtain ⟨r1, e2, h⟩ := bd_some h
  refine x_callVI (As := []) (rest := []) (n := 0) ⟨hx, hb, hml, hown, hts⟩ (c_X7_aloneNow l D cy g ut r1 e2) gX7_tell_X7_aloneNow rfl hd_X7_aloneNow ⟨Nat.le_of_ble_eq_true rfl, Nat.le_of_ble_eq_true rfl⟩ ⟨rfl, rfl⟩ hK (sp_all _) (sp_all _) hP hD hS hA 0 rfl rfl rfl hl.1 rfl (Nat.le_of_ble_eq_true rfl) dX7_tell_1 ⟨Nat.zero_le _, Nat.zero_le _⟩ (fun H locs hP hD hS => ?_)
  clear e2
  refine lv_istore_n (lv' := [(2, .int r1), (0, .ref (g 799)), (1, .int p0)]) hx hb dX7_tell_4 rfl hl (by decide) rfl (fun ls hl => ?_)
  refine lv_iload_n hx hb dX7_tell_5 rfl (lv_at hl 2 rfl) ?_
  refine x_if_ne (tgt := 27) hx hb dX7_tell_6 (by decide) h (fun _ h => ?_) (fun _ h => ?_)
  · refine lv_aload_n hx hb dX7_tell_9 rfl (lv_at hl 1 rfl) ?_
    refine va_get (D := D) (ci := 6) (v := .ref (g 700)) (C := RX7) (T := TX7) (N := 2) hx hb hts ki_X7_tell_X7 hown hK hP 0 rfl rfl 0 (by decide) (hts _ k_X7_tell_0) (fun _ h9 => h9) rfl dX7_tell_10 ?_
    refine lv_iload_n hx hb dX7_tell_13 rfl (lv_at hl 0 rfl) ?_
    refine lv_dup2_11 hx hb dX7_tell_14 rfl rfl ?_
    refine x_iald hx hb hK hP 1 rfl rfl h dX7_tell_15 (fun v3 h => ?_)
    refine lv_iconst (v := 1) hx hb dX7_tell_16 (by decide) ?_
    refine lv_iadd hx hb dX7_tell_17 ?_
    refine x_iast (Wd := (fun uz => wX7 cy g uz)) (u := ut) (k := 0) hx hb hK hP hD hS 1 rfl rfl (fun _ => rfl) h dX7_tell_18 (fun ut4 H locs h hP hD hS => ?_)
    refine lv_aload_n hx hb dX7_tell_19 rfl (lv_at hl 1 rfl) ?_
    refine lv_iload_n hx hb dX7_tell_20 rfl (lv_at hl 0 rfl) ?_
    refine x_put (D := D) (ci := 6) (Wd := (fun uz => wX7 cy g uz)) (u := ut4) (C := RX7) (T := TX7) (N := 2) hx hb hts ki_X7_tell_X7 tyX7 tyX7_ok nmX7 hown hK hP hD hS 0 rfl rfl 1 (by decide) (hts _ k_X7_tell_1) (fun _ h9 => h9) rfl (tyX7_ok 1 (by decide)) rfl rfl (Nat.le_of_ble_eq_true rfl) (fun _ => rfl) h dX7_tell_21 (fun ut5 H locs h hP hD hS => ?_)
    refine lv_goto (tgt := 101) hx hb dX7_tell_24 (by decide) ?_
    refine lv_aload_n hx hb dX7_tell_101 rfl (lv_at hl 1 rfl) ?_
    refine va_get (D := D) (ci := 6) (v := .int (ut5.1 1)) (C := RX7) (T := TX7) (N := 2) hx hb hts ki_X7_tell_X7 hown hK hP 0 rfl rfl 1 (by decide) (hts _ k_X7_tell_1) (fun _ h9 => h9) rfl dX7_tell_102 ?_
    cases h
    exact x_iret hx hb hr hlocks hK hP hD hS dX7_tell_105 rfl rfl
  · refine lv_iload_n hx hb dX7_tell_27 rfl (lv_at hl 2 rfl) ?_
    refine lv_iconst (v := 1) hx hb dX7_tell_28 (by decide) ?_
    refine x_icmp_ne (tgt := 101) hx hb dX7_tell_29 (by decide) h (fun _ h => ?_) (fun _ h => ?_)
    · refine lv_iload_n hx hb dX7_tell_32 rfl (lv_at hl 0 rfl) ?_
      refine x_if_ne (tgt := 40) hx hb dX7_tell_33 (by decide) h (fun _ h => ?_) (fun _ h => ?_)
      · refine lv_iconst (v := 1) hx hb dX7_tell_36 (by decide) ?_
        refine lv_goto (tgt := 41) hx hb dX7_tell_37 (by decide) ?_
        exact w_X7_tell_41 C0 r1 (1 : Int32) ut h _ _ ls hP hD hS (lv_sub hl [1, 0] rfl)
      · refine lv_iconst (v := 0) hx hb dX7_tell_40 (by decide) ?_
        exact w_X7_tell_41 C0 r1 (0 : Int32) ut h _ _ ls hP hD hS (lv_sub hl [1, 0] rfl)
    · refine lv_aload_n hx hb dX7_tell_101 rfl (lv_at hl 1 rfl) ?_
      refine va_get (D := D) (ci := 6) (v := .int (ut.1 1)) (C := RX7) (T := TX7) (N := 2) hx hb hts ki_X7_tell_X7 hown hK hP 0 rfl rfl 1 (by decide) (hts _ k_X7_tell_1) (fun _ h9 => h9) rfl dX7_tell_102 ?_
      cases h
      exact x_iret hx hb hr hlocks hK hP hD hS dX7_tell_105 rfl rfl
theorem k_X7_read_0 : Cond.fieldLink RX7 15 "FeatherHall$Trio" "server" "I" ∈ wsX7_read := (List.mem_cons_of_mem _ (List.mem_append_left _ (List.mem_of_getElem? (i := 0) rfl)))
theorem ki_X7_read_X7 : ∀ w ∈ u_ws RX7 TX7 2, w ∈ wsX7_read := fun _ hh => (List.mem_cons_of_mem _ (List.mem_append_right _ hh))
theorem k_X7_read_1 : Cond.fieldLink RX7 11 "FeatherHall$Trio" "scores" "[I" ∈ wsX7_read := (List.mem_cons_of_mem _ (List.mem_append_left _ (List.mem_of_getElem? (i := 1) rfl)))
theorem hd_X7_read : yX7_read.cls = RX7 ∧ yX7_read.cls ≠ "java/lang/invoke/MethodHandle" ∧ yX7_read.cls ≠ "java/lang/invoke/VarHandle" ∧ (parseMethodDescriptor yX7_read.desc).map (fun d => d.parameters.length) = some 1 := by decide +kernel
set_option maxHeartbeats 4000000 in
set_option maxRecDepth 100000 in
theorem c_X7_read (l : Launch) (D : va_G) (cy : Nat → ClassId) (g : Nat → Nat) (ut : St) (p0 : Int32) (r : Int32) (h : f_X7_read ut p0 = some r) : CtI l yX7_read wsX7_read (rmH 2) [.ref (g 799), .int p0] D cy (wX7 cy g ut) (wX7 cy g ut) r := by
  refine ct_enter (D := D) (cy := cy) (cc := cX7_read) (maxL := 2) (ret := (some .int)) (w := wX7 cy g ut) (Qc := fun sz => va_Qi (fun r' (_ : Unit) => r' = r) (Bw D cy (va_A (wX7 cy g ut) sz) (wX7 cy g ut)) (va_A (wX7 cy g ut) sz)) (by decide) rfl (Nat.le_of_ble_eq_true rfl) ?_
  intro p e s m below meth c A C0 hAe ls hl hP hD hS
  have e1 : MQ below ((fun sz => va_Qi (fun r' (_ : Unit) => r' = r) (Bw D cy (va_A (wX7 cy g ut) sz) (wX7 cy g ut)) (va_A (wX7 cy g ut) sz)) s.heap.size) [.ref (g 799), .int p0].toArray s 0 0 A = QI below [.ref (g 799), .int p0].toArray s A D cy (wX7 cy g ut) r := by rw [hAe]; rfl
  rw [e1]
  clear e1 hAe
  obtain ⟨hx, hb, hr, hml, hown, hts, hlocks, hK, hA⟩ := id C0
  have hl : lv_has ls 2 [(0, .ref (g 799)), (1, .int p0)] := hl
  rw [f_X7_read] at h
  refine lv_iload_n hx hb dX7_read_0 rfl (lv_at hl 1 rfl) ?_
  by_cases q3 : p0 = (3 : Int32)
  · subst q3
    rw [if_pos rfl] at h
    refine lv_tableIn (tgt := 28) (off := 27) hx hb dX7_read_1 (by decide) (by decide) rfl (by decide) ?_
    refine lv_aload_n hx hb dX7_read_28 rfl (lv_at hl 0 rfl) ?_
    obtain ⟨r1, e2, h⟩ := bd_some h
    refine x_callVI (As := []) (rest := []) (n := 0) ⟨hx, hb, hml, hown, hts⟩ (c_X7_aloneNow l D cy g ut r1 e2) gX7_read_X7_aloneNow rfl hd_X7_aloneNow ⟨Nat.le_of_ble_eq_true rfl, Nat.le_of_ble_eq_true rfl⟩ ⟨rfl, rfl⟩ hK (sp_all _) (sp_all _) hP hD hS hA 0 rfl rfl rfl hl.1 rfl (Nat.le_of_ble_eq_true rfl) dX7_read_29 ⟨Nat.zero_le _, Nat.zero_le _⟩ (fun H locs hP hD hS => ?_)
    clear e2
    cases h
    exact x_iret hx hb hr hlocks hK hP hD hS dX7_read_32 rfl rfl
  rw [if_neg q3] at h
  by_cases q4 : p0 = (4 : Int32)
  · subst q4
    rw [if_pos rfl] at h
    refine lv_tableIn (tgt := 33) (off := 32) hx hb dX7_read_1 (by decide) (by decide) rfl (by decide) ?_
    refine lv_aload_n hx hb dX7_read_33 rfl (lv_at hl 0 rfl) ?_
    refine va_get (D := D) (ci := 6) (v := .int (ut.1 1)) (C := RX7) (T := TX7) (N := 2) hx hb hts ki_X7_read_X7 hown hK hP 0 rfl rfl 1 (by decide) (hts _ k_X7_read_0) (fun _ h9 => h9) rfl dX7_read_34 ?_
    cases h
    exact x_iret hx hb hr hlocks hK hP hD hS dX7_read_37 rfl rfl
  rw [if_neg q4] at h
  by_cases q5 : p0 = (5 : Int32)
  · subst q5
    rw [if_pos rfl] at h
    refine lv_tableIn (tgt := 38) (off := 37) hx hb dX7_read_1 (by decide) (by decide) rfl (by decide) ?_
    refine lv_aload_n hx hb dX7_read_38 rfl (lv_at hl 0 rfl) ?_
    obtain ⟨r3, e4, h⟩ := bd_some h
    refine x_callVI (As := []) (rest := []) (n := 0) ⟨hx, hb, hml, hown, hts⟩ (c_X7_isOver l D cy g ut r3 e4) gX7_read_X7_isOver rfl hd_X7_isOver ⟨Nat.le_of_ble_eq_true rfl, Nat.le_of_ble_eq_true rfl⟩ ⟨rfl, rfl⟩ hK (sp_all _) (sp_all _) hP hD hS hA 0 rfl rfl rfl hl.1 rfl (Nat.le_of_ble_eq_true rfl) dX7_read_39 ⟨Nat.zero_le _, Nat.zero_le _⟩ (fun H locs hP hD hS => ?_)
    clear e4
    refine x_if_eq (tgt := 49) hx hb dX7_read_42 (by decide) h (fun _ h => ?_) (fun _ h => ?_)
    · refine lv_iconst (v := 0) hx hb dX7_read_49 (by decide) ?_
      cases h
      exact x_iret hx hb hr hlocks hK hP hD hS dX7_read_50 rfl rfl
    · refine lv_iconst (v := 1) hx hb dX7_read_45 (by decide) ?_
      refine lv_goto (tgt := 50) hx hb dX7_read_46 (by decide) ?_
      cases h
      exact x_iret hx hb hr hlocks hK hP hD hS dX7_read_50 rfl rfl
  rw [if_neg q5] at h
  refine lv_tableOut (tgt := 51) hx hb dX7_read_1 (sw_out35 q3 q4 q5) (by decide) ?_
  refine lv_iload_n hx hb dX7_read_51 rfl (lv_at hl 1 rfl) ?_
  refine x_if_lt (tgt := 69) hx hb dX7_read_52 (by decide) h (fun _ h => ?_) (fun _ h => ?_)
  · refine lv_bipush (v := -3) hx hb dX7_read_69 (by decide) ?_
    cases h
    exact x_iret hx hb hr hlocks hK hP hD hS dX7_read_71 rfl rfl
  · refine lv_iload_n hx hb dX7_read_55 rfl (lv_at hl 1 rfl) ?_
    refine lv_iconst (v := 3) hx hb dX7_read_56 (by decide) ?_
    refine x_icmp_ge (tgt := 69) hx hb dX7_read_57 (by decide) h (fun _ h => ?_) (fun _ h => ?_)
    · refine lv_bipush (v := -3) hx hb dX7_read_69 (by decide) ?_
      cases h
      exact x_iret hx hb hr hlocks hK hP hD hS dX7_read_71 rfl rfl
    · refine lv_aload_n hx hb dX7_read_60 rfl (lv_at hl 0 rfl) ?_
      refine va_get (D := D) (ci := 6) (v := .ref (g 700)) (C := RX7) (T := TX7) (N := 2) hx hb hts ki_X7_read_X7 hown hK hP 0 rfl rfl 0 (by decide) (hts _ k_X7_read_1) (fun _ h9 => h9) rfl dX7_read_61 ?_
      refine lv_iload_n hx hb dX7_read_64 rfl (lv_at hl 1 rfl) ?_
      refine x_iald hx hb hK hP 1 rfl rfl h dX7_read_65 (fun v5 h => ?_)
      refine lv_goto (tgt := 71) hx hb dX7_read_66 (by decide) ?_
      cases h
      exact x_iret hx hb hr hlocks hK hP hD hS dX7_read_71 rfl rfl
theorem k_X7_restart_0 : Cond.fieldLink RX7 15 "FeatherHall$Trio" "server" "I" ∈ wsX7_restart := (List.mem_cons_of_mem _ (List.mem_append_left _ (List.mem_of_getElem? (i := 1) rfl)))
theorem ki_X7_restart_X7 : ∀ w ∈ u_ws RX7 TX7 2, w ∈ wsX7_restart := fun _ hh => (List.mem_cons_of_mem _ (List.mem_append_right _ hh))
theorem k_X7_restart_1 : Cond.fieldLink RX7 11 "FeatherHall$Trio" "scores" "[I" ∈ wsX7_restart := (List.mem_cons_of_mem _ (List.mem_append_left _ (List.mem_of_getElem? (i := 0) rfl)))
theorem hd_X7_restart : yX7_restart.cls = RX7 ∧ yX7_restart.cls ≠ "java/lang/invoke/MethodHandle" ∧ yX7_restart.cls ≠ "java/lang/invoke/VarHandle" ∧ (parseMethodDescriptor yX7_restart.desc).map (fun d => d.parameters.length) = some 0 := by decide +kernel
set_option maxHeartbeats 4000000 in
set_option maxRecDepth 100000 in
theorem w_X7_restart_4 {p : Program} {l : Launch} {e : Env} {s : State} {m : MethodId} {below : List Frame} {meth : Method} {c : Code} {args : Array Value} {D : va_G} {cy : Nat → ClassId} {g : Nat → Nat} {A : Nat → Prop} {r : Int32} {ut' : St} (C0 : Cx p s m meth c args cX7_restart 3 (some .int) wsX7_restart RX7 D cy A) : ∀ (nn : Nat) (l1 : Int32) (l2 : Int32) (ut : St), f_X7_restart_4 nn l1 l2 ut = some (r, ut') → ∀ (H : Heap) (locs : List Loc) (ls : Array Slot), va_P D vwCl (wX7 cy g ut) H → va_D A (wX7 cy g ut) → va_S A s.heap H locs → lv_has ls 3 [(0, .ref (g 799)), (1, .int l1), (2, .int l2)] → W p l e (rmH 0) s m args below meth c H locs 0 0 (QI below args s A D cy (wX7 cy g ut') r) (F0 m 4 ls []) := by
  obtain ⟨hx, hb, hr, hml, hown, hts, hlocks, hK, hA⟩ := id C0
  intro nn
  induction nn with
  | zero => intro l1 l2 ut h; rw [f_X7_restart_4] at h; cases h
  | succ nn ih =>
    intro l1 l2 ut h H locs ls hP hD hS hl
    rw [f_X7_restart_4] at h
    refine lv_iload_n hx hb dX7_restart_4 rfl (lv_at hl 2 rfl) ?_
    refine lv_iconst (v := 3) hx hb dX7_restart_5 (by decide) ?_
    refine x_icmp_ge (tgt := 31) hx hb dX7_restart_6 (by decide) h (fun _ h => ?_) (fun _ h => ?_)
    · refine lv_aload_n hx hb dX7_restart_31 rfl (lv_at hl 0 rfl) ?_
      refine lv_iconst (v := 0) hx hb dX7_restart_32 (by decide) ?_
      refine x_put (D := D) (ci := 6) (Wd := (fun uz => wX7 cy g uz)) (u := ut) (C := RX7) (T := TX7) (N := 2) hx hb hts ki_X7_restart_X7 tyX7 tyX7_ok nmX7 hown hK hP hD hS 0 rfl rfl 1 (by decide) (hts _ k_X7_restart_0) (fun _ h9 => h9) rfl (tyX7_ok 1 (by decide)) rfl rfl (Nat.le_of_ble_eq_true rfl) (fun _ => rfl) h dX7_restart_33 (fun ut1 H locs h hP hD hS => ?_)
      refine lv_iload_n hx hb dX7_restart_36 rfl (lv_at hl 1 rfl) ?_
      cases h
      exact x_iret hx hb hr hlocks hK hP hD hS dX7_restart_37 rfl rfl
    · refine lv_iload_n hx hb dX7_restart_9 rfl (lv_at hl 1 rfl) ?_
      refine lv_aload_n hx hb dX7_restart_10 rfl (lv_at hl 0 rfl) ?_
      refine va_get (D := D) (ci := 6) (v := .ref (g 700)) (C := RX7) (T := TX7) (N := 2) hx hb hts ki_X7_restart_X7 hown hK hP 0 rfl rfl 0 (by decide) (hts _ k_X7_restart_1) (fun _ h9 => h9) rfl dX7_restart_11 ?_
      refine lv_iload_n hx hb dX7_restart_14 rfl (lv_at hl 2 rfl) ?_
      refine x_iald hx hb hK hP 1 rfl rfl h dX7_restart_15 (fun v2 h => ?_)
      refine lv_iadd hx hb dX7_restart_16 ?_
      refine x_nm h (fun v3 h => ?_)
      refine lv_istore_n (lv' := [(1, .int v3), (0, .ref (g 799)), (2, .int l2)]) hx hb dX7_restart_17 rfl hl (by decide) rfl (fun ls hl => ?_)
      refine lv_aload_n hx hb dX7_restart_18 rfl (lv_at hl 1 rfl) ?_
      refine va_get (D := D) (ci := 6) (v := .ref (g 700)) (C := RX7) (T := TX7) (N := 2) hx hb hts ki_X7_restart_X7 hown hK hP 0 rfl rfl 0 (by decide) (hts _ k_X7_restart_1) (fun _ h9 => h9) rfl dX7_restart_19 ?_
      refine lv_iload_n hx hb dX7_restart_22 rfl (lv_at hl 2 rfl) ?_
      refine lv_iconst (v := 0) hx hb dX7_restart_23 (by decide) ?_
      refine x_iast (Wd := (fun uz => wX7 cy g uz)) (u := ut) (k := 0) hx hb hK hP hD hS 1 rfl rfl (fun _ => rfl) h dX7_restart_24 (fun ut4 H locs h hP hD hS => ?_)
      obtain ⟨v5, ev5, h⟩ := nm_ex h
      refine lv_iinc (v := v5) (lv' := [(2, .int v5), (1, .int v3), (0, .ref (g 799))]) hx hb dX7_restart_25 hl (k := 2) rfl (by rw [ev5]; rfl) (by decide) rfl (fun ls hl => ?_)
      clear ev5
      refine lv_goto (tgt := 4) hx hb dX7_restart_28 (by decide) ?_
      exact ih v3 v5 ut4 h _ _ ls hP hD hS (lv_sub hl [2, 1, 0] rfl)
set_option maxHeartbeats 4000000 in
set_option maxRecDepth 100000 in
theorem c_X7_restart (l : Launch) (D : va_G) (cy : Nat → ClassId) (g : Nat → Nat) (ut : St) (r : Int32) (ut' : St) (h : f_X7_restart ut = some (r, ut')) : CtI l yX7_restart wsX7_restart (rmH 0) [.ref (g 799)] D cy (wX7 cy g ut) (wX7 cy g ut') r := by
  refine ct_enter (D := D) (cy := cy) (cc := cX7_restart) (maxL := 3) (ret := (some .int)) (w := wX7 cy g ut) (Qc := fun sz => va_Qi (fun r' (_ : Unit) => r' = r) (Bw D cy (va_A (wX7 cy g ut) sz) (wX7 cy g ut')) (va_A (wX7 cy g ut) sz)) (by decide) rfl (Nat.le_of_ble_eq_true rfl) ?_
  intro p e s m below meth c A C0 hAe ls hl hP hD hS
  have e1 : MQ below ((fun sz => va_Qi (fun r' (_ : Unit) => r' = r) (Bw D cy (va_A (wX7 cy g ut) sz) (wX7 cy g ut')) (va_A (wX7 cy g ut) sz)) s.heap.size) [.ref (g 799)].toArray s 0 0 A = QI below [.ref (g 799)].toArray s A D cy (wX7 cy g ut') r := by rw [hAe]; rfl
  rw [e1]
  clear e1 hAe
  obtain ⟨hx, hb, hr, hml, hown, hts, hlocks, hK, hA⟩ := id C0
  have hl : lv_has ls 3 [(0, .ref (g 799))] := hl
  rw [f_X7_restart] at h
  refine lv_iconst (v := 0) hx hb dX7_restart_0 (by decide) ?_
  refine lv_istore_n (lv' := [(1, .int (0 : Int32)), (0, .ref (g 799))]) hx hb dX7_restart_1 rfl hl (by decide) rfl (fun ls hl => ?_)
  refine lv_iconst (v := 0) hx hb dX7_restart_2 (by decide) ?_
  refine lv_istore_n (lv' := [(2, .int (0 : Int32)), (1, .int (0 : Int32)), (0, .ref (g 799))]) hx hb dX7_restart_3 rfl hl (by decide) rfl (fun ls hl => ?_)
  exact w_X7_restart_4 C0 FU (0 : Int32) (0 : Int32) ut h _ _ ls hP hD hS (lv_sub hl [2, 1, 0] rfl)
