section XC
variable {p : Program} {l : Launch} {e : Env} {R : Room} {s : State} {m : MethodId} {args : Array Value} {below : List Frame} {meth : Method} {c : Code} {H : Heap} {locs : List Loc} {cells slots : Nat} {Q : State → Prop}
variable {cc : ByteArray} {pc : Nat} {ls : Array Slot} {rest : List Value} {D : va_G} {cy : Nat → ClassId} {A : Nat → Prop}
variable {β : Type} {o : β}
theorem x_icmp_eq (hexec : p.tables.exec = Jvm.exec) (hb : c.code = cc) {x y : Int32} {off : Int} {tgt : Nat} {a b : Option β} {ii : Decidable (x = y)} (hdg : decode cc pc = .ok (.if_icmp .eq off, 3)) (ht : (pc : Int) + off = (tgt : Int)) (h : @ite _ (x = y) ii a b = some o)
    (kt : x = y → a = some o → W p l e R s m args below meth c H locs cells slots Q (F0 m tgt ls rest)) (kf : ¬ x = y → b = some o → W p l e R s m args below meth c H locs cells slots Q (F0 m (pc + 3) ls rest)) : W p l e R s m args below meth c H locs cells slots Q (F0 m pc ls (.int y :: .int x :: rest)) :=
  lv_icmp_eq hexec hb hdg ht (fun q => kt q (by rw [if_pos q] at h; exact h)) (fun q => kf q (by rw [if_neg q] at h; exact h))
theorem x_icmp_ne (hexec : p.tables.exec = Jvm.exec) (hb : c.code = cc) {x y : Int32} {off : Int} {tgt : Nat} {a b : Option β} {ii : Decidable (x = y)} (hdg : decode cc pc = .ok (.if_icmp .ne off, 3)) (ht : (pc : Int) + off = (tgt : Int)) (h : @ite _ (x = y) ii a b = some o)
    (kt : x = y → a = some o → W p l e R s m args below meth c H locs cells slots Q (F0 m (pc + 3) ls rest)) (kf : ¬ x = y → b = some o → W p l e R s m args below meth c H locs cells slots Q (F0 m tgt ls rest)) : W p l e R s m args below meth c H locs cells slots Q (F0 m pc ls (.int y :: .int x :: rest)) :=
  lv_icmp_ne hexec hb hdg ht (fun q => kf q (by rw [if_neg q] at h; exact h)) (fun q => kt q (by rw [if_pos q] at h; exact h))
theorem x_icmp_lt (hexec : p.tables.exec = Jvm.exec) (hb : c.code = cc) {x y : Int32} {off : Int} {tgt : Nat} {a b : Option β} {ii : Decidable (x < y)} (hdg : decode cc pc = .ok (.if_icmp .lt off, 3)) (ht : (pc : Int) + off = (tgt : Int)) (h : @ite _ (x < y) ii a b = some o)
    (kt : x < y → a = some o → W p l e R s m args below meth c H locs cells slots Q (F0 m tgt ls rest)) (kf : ¬ x < y → b = some o → W p l e R s m args below meth c H locs cells slots Q (F0 m (pc + 3) ls rest)) : W p l e R s m args below meth c H locs cells slots Q (F0 m pc ls (.int y :: .int x :: rest)) :=
  lv_icmp_lt hexec hb hdg ht (fun q => kt q (by rw [if_pos q] at h; exact h)) (fun q => kf q (by rw [if_neg q] at h; exact h))
theorem x_icmp_ge (hexec : p.tables.exec = Jvm.exec) (hb : c.code = cc) {x y : Int32} {off : Int} {tgt : Nat} {a b : Option β} {ii : Decidable (y ≤ x)} (hdg : decode cc pc = .ok (.if_icmp .ge off, 3)) (ht : (pc : Int) + off = (tgt : Int)) (h : @ite _ (y ≤ x) ii a b = some o)
    (kt : y ≤ x → a = some o → W p l e R s m args below meth c H locs cells slots Q (F0 m tgt ls rest)) (kf : ¬ y ≤ x → b = some o → W p l e R s m args below meth c H locs cells slots Q (F0 m (pc + 3) ls rest)) : W p l e R s m args below meth c H locs cells slots Q (F0 m pc ls (.int y :: .int x :: rest)) :=
  lv_icmp_ge hexec hb hdg ht (fun q => kt q (by rw [if_pos q] at h; exact h)) (fun q => kf q (by rw [if_neg q] at h; exact h))
theorem x_icmp_gt (hexec : p.tables.exec = Jvm.exec) (hb : c.code = cc) {x y : Int32} {off : Int} {tgt : Nat} {a b : Option β} {ii : Decidable (y < x)} (hdg : decode cc pc = .ok (.if_icmp .gt off, 3)) (ht : (pc : Int) + off = (tgt : Int)) (h : @ite _ (y < x) ii a b = some o)
    (kt : y < x → a = some o → W p l e R s m args below meth c H locs cells slots Q (F0 m tgt ls rest)) (kf : ¬ y < x → b = some o → W p l e R s m args below meth c H locs cells slots Q (F0 m (pc + 3) ls rest)) : W p l e R s m args below meth c H locs cells slots Q (F0 m pc ls (.int y :: .int x :: rest)) :=
  lv_icmp_gt hexec hb hdg ht (fun q => kt q (by rw [if_pos q] at h; exact h)) (fun q => kf q (by rw [if_neg q] at h; exact h))
theorem x_icmp_le (hexec : p.tables.exec = Jvm.exec) (hb : c.code = cc) {x y : Int32} {off : Int} {tgt : Nat} {a b : Option β} {ii : Decidable (x ≤ y)} (hdg : decode cc pc = .ok (.if_icmp .le off, 3)) (ht : (pc : Int) + off = (tgt : Int)) (h : @ite _ (x ≤ y) ii a b = some o)
    (kt : x ≤ y → a = some o → W p l e R s m args below meth c H locs cells slots Q (F0 m tgt ls rest)) (kf : ¬ x ≤ y → b = some o → W p l e R s m args below meth c H locs cells slots Q (F0 m (pc + 3) ls rest)) : W p l e R s m args below meth c H locs cells slots Q (F0 m pc ls (.int y :: .int x :: rest)) :=
  lv_icmp_le hexec hb hdg ht (fun q => kt q (by rw [if_pos q] at h; exact h)) (fun q => kf q (by rw [if_neg q] at h; exact h))
theorem x_if_eq (hexec : p.tables.exec = Jvm.exec) (hb : c.code = cc) {x : Int32} {off : Int} {tgt : Nat} {a b : Option β} {ii : Decidable (x = 0)} (hdg : decode cc pc = .ok (.ifCond .eq off, 3)) (ht : (pc : Int) + off = (tgt : Int)) (h : @ite _ (x = 0) ii a b = some o)
    (kt : x = 0 → a = some o → W p l e R s m args below meth c H locs cells slots Q (F0 m tgt ls rest)) (kf : ¬ x = 0 → b = some o → W p l e R s m args below meth c H locs cells slots Q (F0 m (pc + 3) ls rest)) : W p l e R s m args below meth c H locs cells slots Q (F0 m pc ls (.int x :: rest)) :=
  lv_if_eq hexec hb hdg ht (fun q => kt q (by rw [if_pos q] at h; exact h)) (fun q => kf q (by rw [if_neg q] at h; exact h))
theorem x_if_ne (hexec : p.tables.exec = Jvm.exec) (hb : c.code = cc) {x : Int32} {off : Int} {tgt : Nat} {a b : Option β} {ii : Decidable (x = 0)} (hdg : decode cc pc = .ok (.ifCond .ne off, 3)) (ht : (pc : Int) + off = (tgt : Int)) (h : @ite _ (x = 0) ii a b = some o)
    (kt : x = 0 → a = some o → W p l e R s m args below meth c H locs cells slots Q (F0 m (pc + 3) ls rest)) (kf : ¬ x = 0 → b = some o → W p l e R s m args below meth c H locs cells slots Q (F0 m tgt ls rest)) : W p l e R s m args below meth c H locs cells slots Q (F0 m pc ls (.int x :: rest)) :=
  lv_if_ne hexec hb hdg ht (fun q => kf q (by rw [if_neg q] at h; exact h)) (fun q => kt q (by rw [if_pos q] at h; exact h))
theorem x_if_lt (hexec : p.tables.exec = Jvm.exec) (hb : c.code = cc) {x : Int32} {off : Int} {tgt : Nat} {a b : Option β} {ii : Decidable (x < 0)} (hdg : decode cc pc = .ok (.ifCond .lt off, 3)) (ht : (pc : Int) + off = (tgt : Int)) (h : @ite _ (x < 0) ii a b = some o)
    (kt : x < 0 → a = some o → W p l e R s m args below meth c H locs cells slots Q (F0 m tgt ls rest)) (kf : ¬ x < 0 → b = some o → W p l e R s m args below meth c H locs cells slots Q (F0 m (pc + 3) ls rest)) : W p l e R s m args below meth c H locs cells slots Q (F0 m pc ls (.int x :: rest)) :=
  lv_if_lt hexec hb hdg ht (fun q => kt q (by rw [if_pos q] at h; exact h)) (fun q => kf q (by rw [if_neg q] at h; exact h))
theorem x_if_ge (hexec : p.tables.exec = Jvm.exec) (hb : c.code = cc) {x : Int32} {off : Int} {tgt : Nat} {a b : Option β} {ii : Decidable (0 ≤ x)} (hdg : decode cc pc = .ok (.ifCond .ge off, 3)) (ht : (pc : Int) + off = (tgt : Int)) (h : @ite _ (0 ≤ x) ii a b = some o)
    (kt : 0 ≤ x → a = some o → W p l e R s m args below meth c H locs cells slots Q (F0 m tgt ls rest)) (kf : ¬ 0 ≤ x → b = some o → W p l e R s m args below meth c H locs cells slots Q (F0 m (pc + 3) ls rest)) : W p l e R s m args below meth c H locs cells slots Q (F0 m pc ls (.int x :: rest)) :=
  lv_if_ge hexec hb hdg ht (fun q => kt q (by rw [if_pos q] at h; exact h)) (fun q => kf q (by rw [if_neg q] at h; exact h))
theorem x_if_gt (hexec : p.tables.exec = Jvm.exec) (hb : c.code = cc) {x : Int32} {off : Int} {tgt : Nat} {a b : Option β} {ii : Decidable (0 < x)} (hdg : decode cc pc = .ok (.ifCond .gt off, 3)) (ht : (pc : Int) + off = (tgt : Int)) (h : @ite _ (0 < x) ii a b = some o)
    (kt : 0 < x → a = some o → W p l e R s m args below meth c H locs cells slots Q (F0 m tgt ls rest)) (kf : ¬ 0 < x → b = some o → W p l e R s m args below meth c H locs cells slots Q (F0 m (pc + 3) ls rest)) : W p l e R s m args below meth c H locs cells slots Q (F0 m pc ls (.int x :: rest)) :=
  lv_if_gt hexec hb hdg ht (fun q => kt q (by rw [if_pos q] at h; exact h)) (fun q => kf q (by rw [if_neg q] at h; exact h))
theorem x_if_le (hexec : p.tables.exec = Jvm.exec) (hb : c.code = cc) {x : Int32} {off : Int} {tgt : Nat} {a b : Option β} {ii : Decidable (x ≤ 0)} (hdg : decode cc pc = .ok (.ifCond .le off, 3)) (ht : (pc : Int) + off = (tgt : Int)) (h : @ite _ (x ≤ 0) ii a b = some o)
    (kt : x ≤ 0 → a = some o → W p l e R s m args below meth c H locs cells slots Q (F0 m tgt ls rest)) (kf : ¬ x ≤ 0 → b = some o → W p l e R s m args below meth c H locs cells slots Q (F0 m (pc + 3) ls rest)) : W p l e R s m args below meth c H locs cells slots Q (F0 m pc ls (.int x :: rest)) :=
  lv_if_le hexec hb hdg ht (fun q => kt q (by rw [if_pos q] at h; exact h)) (fun q => kf q (by rw [if_neg q] at h; exact h))
theorem x_iret {w w' : va_W} {v r : Int32} (hexec : p.tables.exec = Jvm.exec) (hb : c.code = cc) (hr : meth.sig.returnType = some .int) (hlocks : meth.locks = false) (hK : va_K D vwCl (tyL cy) s) (hP : va_P D vwCl w H) (hD : va_D A w) (hS : va_S A s.heap H locs) (hdg : decode cc pc = .ok (.ireturn, 1)) (hv : v = r) (hw : w = w') : W p l e R s m args below meth c H locs 0 0 (QI below args s A D cy w' r) (F0 m pc ls [.int v]) := by
  subst hv; subst hw
  exact W.iret (v := v) hexec hb hr (fun t ht hW => ⟨⟨v, (), rfl, rfl, by rw [ht]; exact hP, va_K.moved hW.alike hK, hD⟩, hS.F ht⟩) hS.2.2 hdg hlocks
theorem x_zret {w w' : va_W} {v r : Int32} (hexec : p.tables.exec = Jvm.exec) (hb : c.code = cc) (hr : meth.sig.returnType = some .boolean) (hlocks : meth.locks = false) (hK : va_K D vwCl (tyL cy) s) (hP : va_P D vwCl w H) (hD : va_D A w) (hS : va_S A s.heap H locs) (hz : v = 0 ∨ v = 1) (hdg : decode cc pc = .ok (.ireturn, 1)) (hv : v = r) (hw : w = w') : W p l e R s m args below meth c H locs 0 0 (QI below args s A D cy w' r) (F0 m pc ls [.int v]) := by
  subst hv; subst hw
  exact W.zret (v := v) (ty := .boolean) hexec hb hr (by rcases hz with rfl | rfl <;> rfl) (fun t ht hW => ⟨⟨v, (), rfl, rfl, by rw [ht]; exact hP, va_K.moved hW.alike hK, hD⟩, hS.F ht⟩) hS.2.2 hdg hlocks
theorem x_lret {w w' : va_W} {v r : Int64} (hexec : p.tables.exec = Jvm.exec) (hb : c.code = cc) (hr : meth.sig.returnType = some .long) (hlocks : meth.locks = false) (hK : va_K D vwCl (tyL cy) s) (hP : va_P D vwCl w H) (hD : va_D A w) (hS : va_S A s.heap H locs) (hdg : decode cc pc = .ok (.lreturn, 1)) (hv : v = r) (hw : w = w') : W p l e R s m args below meth c H locs 0 0 (QL below args s A D cy w' r) (F0 m pc ls [.long v]) := by
  subst hv; subst hw
  exact W.lret (v := v) hexec hb hr (fun t ht hW => ⟨⟨v, (), rfl, rfl, by rw [ht]; exact hP, va_K.moved hW.alike hK, hD⟩, hS.F ht⟩) hS.2.2 hdg hlocks
theorem x_vret {w w' : va_W} (hexec : p.tables.exec = Jvm.exec) (hb : c.code = cc) (hr : meth.sig.returnType = none) (hlocks : meth.locks = false) (hK : va_K D vwCl (tyL cy) s) (hP : va_P D vwCl w H) (hD : va_D A w) (hS : va_S A s.heap H locs) (hdg : decode cc pc = .ok (.return_, 1)) (hw : w = w') : W p l e R s m args below meth c H locs 0 0 (QV below args s A D cy w') (F0 m pc ls []) := by
  subst hw
  exact W.vret hexec hb hr (fun t ht hW => ⟨⟨(), rfl, trivial, by rw [ht]; exact hP, va_K.moved hW.alike hK, hD⟩, hS.F ht⟩) hS.2.2 hdg hlocks
variable {y : MethodName} {cws cws' : List Cond} {rmC : Room} {bytes : ByteArray} {maxL nL n index b ci : Nat} {rt : Option FieldType} {Ts : List Cond} {own C : String} {As st0 : List Value} {w w' X Y wsX ws2 : va_W} {fs : List Value} {TT : u_T} {NN : Nat}
theorem x_callVI {r : Int32} (S : CallFix p m c cc nL s args Ts own) (hM : CtI l y cws rmC (.ref b :: As) D cy w w' r) (hG : GoodIn Ts (wsV own index C y cws)) (hcw : cws = Cond.code y bytes maxL rt :: cws') (hd : y.cls = C ∧ y.cls ≠ "java/lang/invoke/MethodHandle" ∧ y.cls ≠ "java/lang/invoke/VarHandle" ∧ (parseMethodDescriptor y.desc).map (fun d => d.parameters.length) = some n) (hR : rmC.frames + 1 ≤ R.frames ∧ 8 + (maxL + 11) + rmC.locals ≤ R.locals) (hrc : rmC.cells = 0 ∧ rmC.slots = 0) (hK : va_K D vwCl (tyL cy) s) (hs : wsX = X ++ (w ++ Y)) (hs2 : ws2 = X ++ (w' ++ Y)) (hP : va_P D vwCl wsX H) (hD : va_D A wsX) (hS : va_S A s.heap H locs) (hA : ∀ q, s.heap.size ≤ q → A q)
    (q0 : Nat) (hq : w[q0]? = some (b, .inr (ci, fs))) (hc : vwCl[ci]? = some (C, TT, NN)) (hn : As.length = n) (hsz : ls.size = nL) (hst : st0 = As.reverse ++ .ref b :: rest) (hrest : (rest.map fun v => v.category).sum ≤ 8) (hdg : decode cc pc = .ok (.invokevirtual index, 3)) (hcc : cells ≤ R.cells ∧ slots ≤ R.slots)
    (kk : ∀ (H1 : Heap) (locs1 : List Loc), va_P D vwCl ws2 H1 → va_D A ws2 → va_S A s.heap H1 locs1 → W p l e R s m args below meth c H1 locs1 cells slots Q (F0 m (pc + 3) ls (.int r :: rest))) : W p l e R s m args below meth c H locs cells slots Q (F0 m pc ls st0) := by
  subst hs; subst hs2
  obtain ⟨hPc, hDc⟩ := fr_in hP hD
  have hFc := fr_free hD hS hA
  refine va_calli (va_runV (As := As) (rest := rest) S (hM H.size) (cwV n S.2.2.2.2 hG hcw hrc.1 hrc.2 hd hR) ⟨cpre_blind, va_recv hK hPc hc hq, cpre_at hPc hDc hK⟩ rfl hn hsz hst (lv_room hrest) hdg hcc) hS (fun q _ h => hFc q h) hFc (fun r2 u t H1 locs1 ht hvm hw hB hz1 hk1 hS1 => ?_)
  subst hw
  obtain ⟨hP1, hK1, hD1⟩ := hB
  rw [ht] at hP1
  obtain ⟨hP2, hD2⟩ := fr_swap hP hD hk1 hFc hP1 hD1
  exact kk H1 locs1 hP2 hD2 hS1
theorem x_callSI {r : Int32} (S : CallFix p m c cc nL s args Ts own) (hM : CtI l y cws rmC As D cy w w' r) (hG : GoodIn Ts (va_wsS own index y cws)) (hcw : cws = Cond.code y bytes maxL rt :: cws') (hd : y.cls ≠ "java/lang/invoke/MethodHandle" ∧ y.cls ≠ "java/lang/invoke/VarHandle" ∧ (parseMethodDescriptor y.desc).map (fun d => d.parameters.length) = some n) (hR : rmC.frames + 1 ≤ R.frames ∧ 8 + (maxL + 11) + rmC.locals ≤ R.locals) (hrc : rmC.cells = 0 ∧ rmC.slots = 0) (hK : va_K D vwCl (tyL cy) s) (hs : wsX = X ++ (w ++ Y)) (hs2 : ws2 = X ++ (w' ++ Y)) (hP : va_P D vwCl wsX H) (hD : va_D A wsX) (hS : va_S A s.heap H locs) (hA : ∀ q, s.heap.size ≤ q → A q)
    (hn : As.length = n) (hsz : ls.size = nL) (hst : st0 = As.reverse ++ rest) (hrest : (rest.map fun v => v.category).sum ≤ 8) (hdg : decode cc pc = .ok (.invokestatic index, 3)) (hcc : cells ≤ R.cells ∧ slots ≤ R.slots)
    (kk : ∀ (H1 : Heap) (locs1 : List Loc), va_P D vwCl ws2 H1 → va_D A ws2 → va_S A s.heap H1 locs1 → W p l e R s m args below meth c H1 locs1 cells slots Q (F0 m (pc + 3) ls (.int r :: rest))) : W p l e R s m args below meth c H locs cells slots Q (F0 m pc ls st0) := by
  subst hs; subst hs2
  obtain ⟨hPc, hDc⟩ := fr_in hP hD
  have hFc := fr_free hD hS hA
  refine va_calli (va_runS (As := As) (rest := rest) S (hM H.size) (va_cwS n S.2.2.2.2 hG hcw hrc.1 hrc.2 hd hR) ⟨cpre_blind, cpre_at hPc hDc hK⟩ rfl hn hsz hst (lv_room hrest) hdg hcc) hS (fun q _ h => hFc q h) hFc (fun r2 u t H1 locs1 ht hvm hw hB hz1 hk1 hS1 => ?_)
  subst hw
  obtain ⟨hP1, hK1, hD1⟩ := hB
  rw [ht] at hP1
  obtain ⟨hP2, hD2⟩ := fr_swap hP hD hk1 hFc hP1 hD1
  exact kk H1 locs1 hP2 hD2 hS1
theorem x_callVL {r : Int64} (S : CallFix p m c cc nL s args Ts own) (hM : CtL l y cws rmC (.ref b :: As) D cy w w' r) (hG : GoodIn Ts (wsV own index C y cws)) (hcw : cws = Cond.code y bytes maxL rt :: cws') (hd : y.cls = C ∧ y.cls ≠ "java/lang/invoke/MethodHandle" ∧ y.cls ≠ "java/lang/invoke/VarHandle" ∧ (parseMethodDescriptor y.desc).map (fun d => d.parameters.length) = some n) (hR : rmC.frames + 1 ≤ R.frames ∧ 8 + (maxL + 11) + rmC.locals ≤ R.locals) (hrc : rmC.cells = 0 ∧ rmC.slots = 0) (hK : va_K D vwCl (tyL cy) s) (hs : wsX = X ++ (w ++ Y)) (hs2 : ws2 = X ++ (w' ++ Y)) (hP : va_P D vwCl wsX H) (hD : va_D A wsX) (hS : va_S A s.heap H locs) (hA : ∀ q, s.heap.size ≤ q → A q)
    (q0 : Nat) (hq : w[q0]? = some (b, .inr (ci, fs))) (hc : vwCl[ci]? = some (C, TT, NN)) (hn : As.length = n) (hsz : ls.size = nL) (hst : st0 = As.reverse ++ .ref b :: rest) (hrest : (rest.map fun v => v.category).sum ≤ 8) (hdg : decode cc pc = .ok (.invokevirtual index, 3)) (hcc : cells ≤ R.cells ∧ slots ≤ R.slots)
    (kk : ∀ (H1 : Heap) (locs1 : List Loc), va_P D vwCl ws2 H1 → va_D A ws2 → va_S A s.heap H1 locs1 → W p l e R s m args below meth c H1 locs1 cells slots Q (F0 m (pc + 3) ls (.long r :: rest))) : W p l e R s m args below meth c H locs cells slots Q (F0 m pc ls st0) := by
  subst hs; subst hs2
  obtain ⟨hPc, hDc⟩ := fr_in hP hD
  have hFc := fr_free hD hS hA
  refine va_calll (va_runV (As := As) (rest := rest) S (hM H.size) (cwV n S.2.2.2.2 hG hcw hrc.1 hrc.2 hd hR) ⟨cpre_blind, va_recv hK hPc hc hq, cpre_at hPc hDc hK⟩ rfl hn hsz hst (lv_room hrest) hdg hcc) hS (fun q _ h => hFc q h) hFc (fun r2 u t H1 locs1 ht hvm hw hB hz1 hk1 hS1 => ?_)
  subst hw
  obtain ⟨hP1, hK1, hD1⟩ := hB
  rw [ht] at hP1
  obtain ⟨hP2, hD2⟩ := fr_swap hP hD hk1 hFc hP1 hD1
  exact kk H1 locs1 hP2 hD2 hS1
theorem x_callSL {r : Int64} (S : CallFix p m c cc nL s args Ts own) (hM : CtL l y cws rmC As D cy w w' r) (hG : GoodIn Ts (va_wsS own index y cws)) (hcw : cws = Cond.code y bytes maxL rt :: cws') (hd : y.cls ≠ "java/lang/invoke/MethodHandle" ∧ y.cls ≠ "java/lang/invoke/VarHandle" ∧ (parseMethodDescriptor y.desc).map (fun d => d.parameters.length) = some n) (hR : rmC.frames + 1 ≤ R.frames ∧ 8 + (maxL + 11) + rmC.locals ≤ R.locals) (hrc : rmC.cells = 0 ∧ rmC.slots = 0) (hK : va_K D vwCl (tyL cy) s) (hs : wsX = X ++ (w ++ Y)) (hs2 : ws2 = X ++ (w' ++ Y)) (hP : va_P D vwCl wsX H) (hD : va_D A wsX) (hS : va_S A s.heap H locs) (hA : ∀ q, s.heap.size ≤ q → A q)
    (hn : As.length = n) (hsz : ls.size = nL) (hst : st0 = As.reverse ++ rest) (hrest : (rest.map fun v => v.category).sum ≤ 8) (hdg : decode cc pc = .ok (.invokestatic index, 3)) (hcc : cells ≤ R.cells ∧ slots ≤ R.slots)
    (kk : ∀ (H1 : Heap) (locs1 : List Loc), va_P D vwCl ws2 H1 → va_D A ws2 → va_S A s.heap H1 locs1 → W p l e R s m args below meth c H1 locs1 cells slots Q (F0 m (pc + 3) ls (.long r :: rest))) : W p l e R s m args below meth c H locs cells slots Q (F0 m pc ls st0) := by
  subst hs; subst hs2
  obtain ⟨hPc, hDc⟩ := fr_in hP hD
  have hFc := fr_free hD hS hA
  refine va_calll (va_runS (As := As) (rest := rest) S (hM H.size) (va_cwS n S.2.2.2.2 hG hcw hrc.1 hrc.2 hd hR) ⟨cpre_blind, cpre_at hPc hDc hK⟩ rfl hn hsz hst (lv_room hrest) hdg hcc) hS (fun q _ h => hFc q h) hFc (fun r2 u t H1 locs1 ht hvm hw hB hz1 hk1 hS1 => ?_)
  subst hw
  obtain ⟨hP1, hK1, hD1⟩ := hB
  rw [ht] at hP1
  obtain ⟨hP2, hD2⟩ := fr_swap hP hD hk1 hFc hP1 hD1
  exact kk H1 locs1 hP2 hD2 hS1
theorem x_callVV (S : CallFix p m c cc nL s args Ts own) (hM : CtV l y cws rmC (.ref b :: As) D cy w w') (hG : GoodIn Ts (wsV own index C y cws)) (hcw : cws = Cond.code y bytes maxL rt :: cws') (hd : y.cls = C ∧ y.cls ≠ "java/lang/invoke/MethodHandle" ∧ y.cls ≠ "java/lang/invoke/VarHandle" ∧ (parseMethodDescriptor y.desc).map (fun d => d.parameters.length) = some n) (hR : rmC.frames + 1 ≤ R.frames ∧ 8 + (maxL + 11) + rmC.locals ≤ R.locals) (hrc : rmC.cells = 0 ∧ rmC.slots = 0) (hK : va_K D vwCl (tyL cy) s) (hs : wsX = X ++ (w ++ Y)) (hs2 : ws2 = X ++ (w' ++ Y)) (hP : va_P D vwCl wsX H) (hD : va_D A wsX) (hS : va_S A s.heap H locs) (hA : ∀ q, s.heap.size ≤ q → A q)
    (q0 : Nat) (hq : w[q0]? = some (b, .inr (ci, fs))) (hc : vwCl[ci]? = some (C, TT, NN)) (hn : As.length = n) (hsz : ls.size = nL) (hst : st0 = As.reverse ++ .ref b :: rest) (hrest : (rest.map fun v => v.category).sum ≤ 8) (hdg : decode cc pc = .ok (.invokevirtual index, 3)) (hcc : cells ≤ R.cells ∧ slots ≤ R.slots)
    (kk : ∀ (H1 : Heap) (locs1 : List Loc), va_P D vwCl ws2 H1 → va_D A ws2 → va_S A s.heap H1 locs1 → W p l e R s m args below meth c H1 locs1 cells slots Q (F0 m (pc + 3) ls rest)) : W p l e R s m args below meth c H locs cells slots Q (F0 m pc ls st0) := by
  subst hs; subst hs2
  obtain ⟨hPc, hDc⟩ := fr_in hP hD
  have hFc := fr_free hD hS hA
  refine va_callv (va_runV (As := As) (rest := rest) S (hM H.size) (cwV n S.2.2.2.2 hG hcw hrc.1 hrc.2 hd hR) ⟨cpre_blind, va_recv hK hPc hc hq, cpre_at hPc hDc hK⟩ rfl hn hsz hst (lv_room hrest) hdg hcc) hS (fun q _ h => hFc q h) hFc (fun u t H1 locs1 ht hvm hw hB hz1 hk1 hS1 => ?_)
  obtain ⟨hP1, hK1, hD1⟩ := hB
  rw [ht] at hP1
  obtain ⟨hP2, hD2⟩ := fr_swap hP hD hk1 hFc hP1 hD1
  exact kk H1 locs1 hP2 hD2 hS1
theorem x_callSV (S : CallFix p m c cc nL s args Ts own) (hM : CtV l y cws rmC As D cy w w') (hG : GoodIn Ts (va_wsS own index y cws)) (hcw : cws = Cond.code y bytes maxL rt :: cws') (hd : y.cls ≠ "java/lang/invoke/MethodHandle" ∧ y.cls ≠ "java/lang/invoke/VarHandle" ∧ (parseMethodDescriptor y.desc).map (fun d => d.parameters.length) = some n) (hR : rmC.frames + 1 ≤ R.frames ∧ 8 + (maxL + 11) + rmC.locals ≤ R.locals) (hrc : rmC.cells = 0 ∧ rmC.slots = 0) (hK : va_K D vwCl (tyL cy) s) (hs : wsX = X ++ (w ++ Y)) (hs2 : ws2 = X ++ (w' ++ Y)) (hP : va_P D vwCl wsX H) (hD : va_D A wsX) (hS : va_S A s.heap H locs) (hA : ∀ q, s.heap.size ≤ q → A q)
    (hn : As.length = n) (hsz : ls.size = nL) (hst : st0 = As.reverse ++ rest) (hrest : (rest.map fun v => v.category).sum ≤ 8) (hdg : decode cc pc = .ok (.invokestatic index, 3)) (hcc : cells ≤ R.cells ∧ slots ≤ R.slots)
    (kk : ∀ (H1 : Heap) (locs1 : List Loc), va_P D vwCl ws2 H1 → va_D A ws2 → va_S A s.heap H1 locs1 → W p l e R s m args below meth c H1 locs1 cells slots Q (F0 m (pc + 3) ls rest)) : W p l e R s m args below meth c H locs cells slots Q (F0 m pc ls st0) := by
  subst hs; subst hs2
  obtain ⟨hPc, hDc⟩ := fr_in hP hD
  have hFc := fr_free hD hS hA
  refine va_callv (va_runS (As := As) (rest := rest) S (hM H.size) (va_cwS n S.2.2.2.2 hG hcw hrc.1 hrc.2 hd hR) ⟨cpre_blind, cpre_at hPc hDc hK⟩ rfl hn hsz hst (lv_room hrest) hdg hcc) hS (fun q _ h => hFc q h) hFc (fun u t H1 locs1 ht hvm hw hB hz1 hk1 hS1 => ?_)
  obtain ⟨hP1, hK1, hD1⟩ := hB
  rw [ht] at hP1
  obtain ⟨hP2, hD2⟩ := fr_swap hP hD hk1 hFc hP1 hD1
  exact kk H1 locs1 hP2 hD2 hS1
end XC
theorem sp_nil (w : va_W) : w = w ++ ([] ++ []) := by simp
theorem sp_all (w : va_W) : w = [] ++ (w ++ []) := by simp
