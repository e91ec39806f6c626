theorem hd_J7_fill_53178 : yJ7_fill_53178.cls ≠ "java/lang/invoke/MethodHandle" ∧ yJ7_fill_53178.cls ≠ "java/lang/invoke/VarHandle" ∧ (parseMethodDescriptor yJ7_fill_53178.desc).map (fun d => d.parameters.length) = some 2 := by decide +kernel
theorem hd_J7_fill_d0a16 : yJ7_fill_d0a16.cls ≠ "java/lang/invoke/MethodHandle" ∧ yJ7_fill_d0a16.cls ≠ "java/lang/invoke/VarHandle" ∧ (parseMethodDescriptor yJ7_fill_d0a16.desc).map (fun d => d.parameters.length) = some 2 := by decide +kernel
theorem fillI_up (n : Nat) (f : Nat → Int32) (v : Int32) (k : Nat) (hk : k < n) : (fun j => if j < k + 1 then v else f j) = upd (fun j => if j < k then v else f j) k v := by
  funext j
  unfold upd
  by_cases h1 : j = k
  · subst h1; simp
  · rw [if_neg h1]
    by_cases h2 : j < k
    · show (if j < k + 1 then v else f j) = (if j < k then v else f j); rw [if_pos h2, if_pos (by omega)]
    · show (if j < k + 1 then v else f j) = (if j < k then v else f j); rw [if_neg h2, if_neg (by omega)]
set_option maxHeartbeats 4000000 in
set_option maxRecDepth 100000 in
theorem w_fillI {p : Program} {l : Launch} {e : Env} {s : State} {m : MethodId} {below : List Frame} {meth : Method} {c : Code} {args : Array Value} {D : va_G} {cy : Nat → ClassId} {a n : Nat} {f : Nat → Int32} {v : Int32} {A : Nat → Prop} (hn : n < 2 ^ 31) (C0 : Cx p s m meth c args cJ7_fill_53178 4 none wsJ7_fill_53178 RJ7 D cy A) :
    ∀ (q k : Nat) (i : Int32), k + q = n → i = nI k → ∀ (H : Heap) (locs : List Loc) (ls : Array Slot), va_P D vwCl (wRw cy a n (fun j => if j < k then v else f j)) H → va_D A (wRw cy a n (fun j => if j < k then v else f j)) → va_S A s.heap H locs → lv_has ls 4 [(0, .ref a), (1, .int v), (2, .int i), (3, .int (nI n))] → W p l e (rmH 0) s m args below meth c H locs 0 0 (QV below args s A D cy (wRw cy a n (fillI n f v))) (F0 m 5 ls []) := by
  obtain ⟨hx, hb, hr, hml, hown, hts, hlocks, hK, hA⟩ := id C0
  intro q
  induction q with
  | zero =>
    intro k i hk hi H locs ls hP hD hS hl
    have hk : k = n := by omega
    subst hk
    refine lv_iload_n hx hb dJ7_fill_53178_5 rfl (lv_at hl 2 rfl) ?_
    refine lv_iload_n hx hb dJ7_fill_53178_6 rfl (lv_at hl 3 rfl) ?_
    refine lv_icmp_ge (tgt := 20) hx hb dJ7_fill_53178_7 (by decide) (fun _ => ?_) (fun q => absurd (by rw [hi]; exact nI_le (Nat.le_refl _) hn) q)
    exact x_vret hx hb hr hlocks hK hP hD hS dJ7_fill_53178_20 rfl
  | succ q ih =>
    intro k i hk hi H locs ls hP hD hS hl
    refine lv_iload_n hx hb dJ7_fill_53178_5 rfl (lv_at hl 2 rfl) ?_
    refine lv_iload_n hx hb dJ7_fill_53178_6 rfl (lv_at hl 3 rfl) ?_
    refine lv_icmp_ge (tgt := 20) hx hb dJ7_fill_53178_7 (by decide) (fun q => absurd q (by rw [hi]; exact nI_ge (by omega) hn)) (fun _ => ?_)
    refine lv_aload_n hx hb dJ7_fill_53178_10 rfl (lv_at hl 0 rfl) ?_
    refine lv_iload_n hx hb dJ7_fill_53178_11 rfl (lv_at hl 2 rfl) ?_
    refine lv_iload_n hx hb dJ7_fill_53178_12 rfl (lv_at hl 1 rfl) ?_
    refine va_iast hx hb hK hP hD hS 0 0 rfl rfl (by rw [hi]; exact nI_in (by omega) hn) dJ7_fill_53178_13 (fun H locs hP hD hS => ?_)
    have e3 : (wRw cy a n (fun j => if j < k then v else f j)).set 0 (a, .inl (cy 0, n, .inl (upd (fun j => if j < k then v else f j) i.toNatClampNeg v))) = wRw cy a n (fun j => if j < k + 1 then v else f j) := by
      rw [fillI_up n f v k (by omega), hi, nI_clamp (by omega)]; rfl
    rw [e3] at hP hD
    refine lv_iinc (v := i + 1) (lv' := [(2, .int (i + 1)), (0, .ref a), (1, .int v), (3, .int (nI n))]) hx hb dJ7_fill_53178_14 hl (k := 2) rfl rfl (by decide) rfl (fun ls hl => ?_)
    refine lv_goto (tgt := 5) hx hb dJ7_fill_53178_17 (by decide) ?_
    exact ih (k + 1) (i + 1) (by omega) (by rw [hi]; exact nI_1 k) _ _ ls hP hD hS (lv_sub hl [1, 2, 0, 3] rfl)
set_option maxHeartbeats 4000000 in
set_option maxRecDepth 100000 in
theorem c_fillI (l : Launch) (D : va_G) (cy : Nat → ClassId) (a n : Nat) (f : Nat → Int32) (v : Int32) (hn : n < 2 ^ 31) : CtV l yJ7_fill_53178 wsJ7_fill_53178 (rmH 0) [.ref a, .int v] D cy (wRw cy a n f) (wRw cy a n (fillI n f v)) := by
  refine ct_enter (D := D) (cy := cy) (cc := cJ7_fill_53178) (maxL := 4) (ret := none) (w := wRw cy a n f) (Qc := fun sz => va_Qv (fun (_ : Unit) => True) (Bw D cy (va_A (wRw cy a n f) sz) (wRw cy a n (fillI n f v))) (va_A (wRw cy a n f) sz)) (by decide) rfl (Nat.le_of_ble_eq_true rfl) ?_
  intro p e s m below meth c A C0 hAe ls hl hP hD hS
  have e1 : MQ below ((fun sz => va_Qv (fun (_ : Unit) => True) (Bw D cy (va_A (wRw cy a n f) sz) (wRw cy a n (fillI n f v))) (va_A (wRw cy a n f) sz)) s.heap.size) [.ref a, .int v].toArray s 0 0 A = QV below [.ref a, .int v].toArray s A D cy (wRw cy a n (fillI n f v)) := by rw [hAe]; rfl
  rw [e1]
  clear e1 hAe
  obtain ⟨hx, hb, hr, hml, hown, hts, hlocks, hK, hA⟩ := id C0
  have hl : lv_has ls 4 [(0, .ref a), (1, .int v)] := hl
  refine lv_iconst (v := 0) hx hb dJ7_fill_53178_0 (by decide) ?_
  refine lv_istore_n (lv' := [(2, .int 0), (0, .ref a), (1, .int v)]) hx hb dJ7_fill_53178_1 rfl hl (by decide) rfl (fun ls hl => ?_)
  refine lv_aload_n hx hb dJ7_fill_53178_2 rfl (lv_at hl 1 rfl) ?_
  refine va_alen (v := nI n) hx hb hK hP 0 0 rfl rfl rfl dJ7_fill_53178_3 ?_
  refine lv_istore_n (lv' := [(3, .int (nI n)), (2, .int 0), (0, .ref a), (1, .int v)]) hx hb dJ7_fill_53178_4 rfl hl (by decide) rfl (fun ls hl => ?_)
  have e2 : wRw cy a n f = wRw cy a n (fun j => if j < 0 then v else f j) := by congr 1
  rw [e2] at hP hD
  exact w_fillI hn C0 n 0 0 (by omega) nI_0.symm _ _ ls hP hD hS (lv_sub hl [2, 3, 1, 0] rfl)
theorem fillL_up (n : Nat) (f : Nat → Int64) (v : Int64) (k : Nat) (hk : k < n) : (fun j => if j < k + 1 then v else f j) = vp_updL (fun j => if j < k then v else f j) k v := by
  funext j
  unfold vp_updL
  by_cases h1 : j = k
  · subst h1; simp
  · rw [if_neg h1]
    by_cases h2 : j < k
    · show (if j < k + 1 then v else f j) = (if j < k then v else f j); rw [if_pos h2, if_pos (by omega)]
    · show (if j < k + 1 then v else f j) = (if j < k then v else f j); rw [if_neg h2, if_neg (by omega)]
set_option maxHeartbeats 4000000 in
set_option maxRecDepth 100000 in
theorem w_fillL {p : Program} {l : Launch} {e : Env} {s : State} {m : MethodId} {below : List Frame} {meth : Method} {c : Code} {args : Array Value} {D : va_G} {cy : Nat → ClassId} {a n : Nat} {f : Nat → Int64} {v : Int64} {A : Nat → Prop} (hn : n < 2 ^ 31) (C0 : Cx p s m meth c args cJ7_fill_d0a16 5 none wsJ7_fill_d0a16 RJ7 D cy A) :
    ∀ (q k : Nat) (i : Int32), k + q = n → i = nI k → ∀ (H : Heap) (locs : List Loc) (ls : Array Slot), va_P D vwCl (wRl cy a n (fun j => if j < k then v else f j)) H → va_D A (wRl cy a n (fun j => if j < k then v else f j)) → va_S A s.heap H locs → lv_has ls 5 [(0, .ref a), (1, .long v), (3, .int i), (4, .int (nI n))] → W p l e (rmH 0) s m args below meth c H locs 0 0 (QV below args s A D cy (wRl cy a n (fillL n f v))) (F0 m 6 ls []) := by
  obtain ⟨hx, hb, hr, hml, hown, hts, hlocks, hK, hA⟩ := id C0
  intro q
  induction q with
  | zero =>
    intro k i hk hi H locs ls hP hD hS hl
    have hk : k = n := by omega
    subst hk
    refine lv_iload_n hx hb dJ7_fill_d0a16_6 rfl (lv_at hl 2 rfl) ?_
    refine lv_iload hx hb dJ7_fill_d0a16_7 (lv_at hl 3 rfl) ?_
    refine lv_icmp_ge (tgt := 22) hx hb dJ7_fill_d0a16_9 (by decide) (fun _ => ?_) (fun q => absurd (by rw [hi]; exact nI_le (Nat.le_refl _) hn) q)
    exact x_vret hx hb hr hlocks hK hP hD hS dJ7_fill_d0a16_22 rfl
  | succ q ih =>
    intro k i hk hi H locs ls hP hD hS hl
    refine lv_iload_n hx hb dJ7_fill_d0a16_6 rfl (lv_at hl 2 rfl) ?_
    refine lv_iload hx hb dJ7_fill_d0a16_7 (lv_at hl 3 rfl) ?_
    refine lv_icmp_ge (tgt := 22) hx hb dJ7_fill_d0a16_9 (by decide) (fun q => absurd q (by rw [hi]; exact nI_ge (by omega) hn)) (fun _ => ?_)
    refine lv_aload_n hx hb dJ7_fill_d0a16_12 rfl (lv_at hl 0 rfl) ?_
    refine lv_iload_n hx hb dJ7_fill_d0a16_13 rfl (lv_at hl 2 rfl) ?_
    refine lv_lload_n hx hb dJ7_fill_d0a16_14 rfl (lv_at hl 1 rfl) ?_
    refine va_last hx hb hK hP hD hS 0 1 rfl rfl (by rw [hi]; exact nI_in (by omega) hn) dJ7_fill_d0a16_15 (fun H locs hP hD hS => ?_)
    have e3 : (wRl cy a n (fun j => if j < k then v else f j)).set 0 (a, .inl (cy 1, n, .inr (.inl (vp_updL (fun j => if j < k then v else f j) i.toNatClampNeg v)))) = wRl cy a n (fun j => if j < k + 1 then v else f j) := by
      rw [fillL_up n f v k (by omega), hi, nI_clamp (by omega)]; rfl
    rw [e3] at hP hD
    refine lv_iinc (v := i + 1) (lv' := [(3, .int (i + 1)), (0, .ref a), (1, .long v), (4, .int (nI n))]) hx hb dJ7_fill_d0a16_16 hl (k := 2) rfl rfl (by decide) rfl (fun ls hl => ?_)
    refine lv_goto (tgt := 6) hx hb dJ7_fill_d0a16_19 (by decide) ?_
    exact ih (k + 1) (i + 1) (by omega) (by rw [hi]; exact nI_1 k) _ _ ls hP hD hS (lv_sub hl [1, 2, 0, 3] rfl)
set_option maxHeartbeats 4000000 in
set_option maxRecDepth 100000 in
theorem c_fillL (l : Launch) (D : va_G) (cy : Nat → ClassId) (a n : Nat) (f : Nat → Int64) (v : Int64) (hn : n < 2 ^ 31) : CtV l yJ7_fill_d0a16 wsJ7_fill_d0a16 (rmH 0) [.ref a, .long v] D cy (wRl cy a n f) (wRl cy a n (fillL n f v)) := by
  refine ct_enter (D := D) (cy := cy) (cc := cJ7_fill_d0a16) (maxL := 5) (ret := none) (w := wRl cy a n f) (Qc := fun sz => va_Qv (fun (_ : Unit) => True) (Bw D cy (va_A (wRl cy a n f) sz) (wRl cy a n (fillL n f v))) (va_A (wRl cy a n f) sz)) (by decide) rfl (Nat.le_of_ble_eq_true rfl) ?_
  intro p e s m below meth c A C0 hAe ls hl hP hD hS
  have e1 : MQ below ((fun sz => va_Qv (fun (_ : Unit) => True) (Bw D cy (va_A (wRl cy a n f) sz) (wRl cy a n (fillL n f v))) (va_A (wRl cy a n f) sz)) s.heap.size) [.ref a, .long v].toArray s 0 0 A = QV below [.ref a, .long v].toArray s A D cy (wRl cy a n (fillL n f v)) := by rw [hAe]; rfl
  rw [e1]
  clear e1 hAe
  obtain ⟨hx, hb, hr, hml, hown, hts, hlocks, hK, hA⟩ := id C0
  have hl : lv_has ls 5 [(0, .ref a), (1, .long v)] := hl
  refine lv_iconst (v := 0) hx hb dJ7_fill_d0a16_0 (by decide) ?_
  refine lv_istore_n (lv' := [(3, .int 0), (0, .ref a), (1, .long v)]) hx hb dJ7_fill_d0a16_1 rfl hl (by decide) rfl (fun ls hl => ?_)
  refine lv_aload_n hx hb dJ7_fill_d0a16_2 rfl (lv_at hl 1 rfl) ?_
  refine va_alen (v := nI n) hx hb hK hP 0 1 rfl rfl rfl dJ7_fill_d0a16_3 ?_
  refine lv_istore (lv' := [(4, .int (nI n)), (3, .int 0), (0, .ref a), (1, .long v)]) hx hb dJ7_fill_d0a16_4 hl (by decide) rfl (fun ls hl => ?_)
  have e2 : wRl cy a n f = wRl cy a n (fun j => if j < 0 then v else f j) := by congr 1
  rw [e2] at hP hD
  exact w_fillL hn C0 n 0 0 (by omega) nI_0.symm _ _ ls hP hD hS (lv_sub hl [2, 3, 1, 0] rfl)
