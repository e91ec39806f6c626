/-! the law: what holds between class and reference -/
def Inv (ua us ut un ub ue um : St) : Prop := RA ua um ∧ RS us um ∧ RT ut um ∧ RN un um ∧ RB ub um ∧ RE ue um
theorem upd_hi {f : Nat → Int32} {k : Int32} {K : Nat} (hk : k.toNatClampNeg = K) {x : Int32} {j : Nat} (h : ¬ j = K) : upd f k.toNatClampNeg x j = f j := upd_ne _ _ (by rw [hk]; exact h)
theorem upd8 (x : Int32) : (upd (upd (upd (upd (upd (upd (upd (upd (fun _ => 0) (0 : Int32).toNatClampNeg x) (1 : Int32).toNatClampNeg x) (2 : Int32).toNatClampNeg x) (3 : Int32).toNatClampNeg x) (4 : Int32).toNatClampNeg x) (5 : Int32).toNatClampNeg x) (6 : Int32).toNatClampNeg x) (7 : Int32).toNatClampNeg x) = fillI 8 (fun _ => 0) x := by
  funext j
  by_cases h : j < 8
  · rcases (show j = 0 ∨ j = 1 ∨ j = 2 ∨ j = 3 ∨ j = 4 ∨ j = 5 ∨ j = 6 ∨ j = 7 by omega) with rfl | rfl | rfl | rfl | rfl | rfl | rfl | rfl <;> rfl
  · rw [upd_hi (K := 7) (by decide) (by omega), upd_hi (K := 6) (by decide) (by omega), upd_hi (K := 5) (by decide) (by omega), upd_hi (K := 4) (by decide) (by omega), upd_hi (K := 3) (by decide) (by omega), upd_hi (K := 2) (by decide) (by omega), upd_hi (K := 1) (by decide) (by omega), upd_hi (K := 0) (by decide) (by omega)]
    unfold fillI
    rw [if_neg h]
theorem inv0 : Inv u0X0 u0X6 u0X7 u0X5 u0X1 u0X4 u0X9 := by
  refine ⟨⟨rfl, rfl, rfl, rfl, (fun k => if k = 0 then 60 else if k = 1 then 20 else if k = 2 then 30 else 40), (fun k => if k = 0 then 30 else if k = 1 then 5 else if k = 2 then 20 else 15), (fun k => if k = 0 then 2 else if k = 1 then 3 else if k = 2 then 2 else 3), 0, rfl, fun k hk => ?_, by omega, fun k A T _ _ _ => Or.inl rfl⟩, ⟨upd8 10, upd8 1, rfl, fun j hj => ?_⟩, ⟨rfl, rfl⟩, ⟨0, by omega, rfl, rfl, rfl, fun z k _ _ => rfl, fun z _ => rfl, fun k _ => rfl⟩, ⟨rfl, rfl, rfl, rfl, rfl, 0, by omega, rfl, fun j hj => absurd hj (by omega)⟩, ⟨⟨rfl, rfl, rfl, rfl, rfl, rfl, by decide, ?_, by decide⟩, Or.inl rfl⟩⟩
  · rcases (show k = 0 ∨ k = 1 ∨ k = 2 ∨ k = 3 by omega) with rfl | rfl | rfl | rfl <;> refine ⟨⟨⟨by decide, by decide⟩, by decide, ⟨by decide, by decide⟩, by decide⟩, rfl, rfl, rfl⟩
  · rcases (show j = 0 ∨ j = 1 ∨ j = 2 ∨ j = 3 ∨ j = 4 ∨ j = 5 ∨ j = 6 ∨ j = 7 by omega) with rfl | rfl | rfl | rfl | rfl | rfl | rfl | rfl <;> refine ⟨⟨by decide, by decide⟩, ⟨by decide, by decide⟩, ⟨by decide, by decide⟩, by decide⟩
  · intro j
    exact fun _ => Or.inl rfl
/-- what the law's body has at every point -/
def LC (p : Program) (s : State) (m : MethodId) (c : Code) (b L : Nat) (xs : Nat → Int32) (D : va_G) (cy : Nat → ClassId) : Prop := p.tables.exec = Jvm.exec ∧ c.code = cL_law ∧ c.maxLocals = 4 ∧ s.vm.findClass RL = some m.cls ∧ (∀ w ∈ wsL_law, w.before #[Value.ref b] s = true) ∧ va_X b L xs s s.heap ∧ b < s.heap.size ∧ va_K D vwCl (tyL cy) s
abbrev LA (s : State) : Nat → Prop := fun q => s.heap.size ≤ q
section XG
variable {p : Program} {l : Launch} {e : Env} {s : State} {m : MethodId} {below : List Frame} {meth : Method} {c : Code} {H : Heap} {locs : List Loc} {Q : State → Prop}
variable {pc : Nat} {ls : Array Slot} {rest : List Value} {D : va_G} {cy : Nat → ClassId} {b L : Nat} {xs : Nat → Int32} {cells slots : Nat}
theorem x_sarg (C1 : LC p s m c b L xs D cy) (hL : L ≤ 3072) {i : Nat} (hi : i + 6 ≤ L) {q8 q9 : Nat} (hl : lv_has ls 4 [(0, .ref b), (1, .ref q8), (2, .ref q9), (3, .int (nI i))]) (hS : va_S (LA s) s.heap H locs) (k : Nat) (kI : Int32) {kz : Int} (hk : k < 6) (hkI : kI = nI k) (hz : Int32.ofInt kz = kI)
    (d1 : decode cL_law pc = .ok (.aload_n 0, 1)) (d2 : decode cL_law (pc + 1) = .ok (.iload_n 3, 1)) (d3 : decode cL_law (pc + 1 + 1) = .ok (.iconst kz, 1)) (d4 : decode cL_law (pc + 1 + 1 + 1) = .ok (.iadd, 1)) (d5 : decode cL_law (pc + 1 + 1 + 1 + 1) = .ok (.iaload, 1))
    (kk : W p l e room_1 s m #[Value.ref b] below meth c H locs cells slots Q (F0 m (pc + 1 + 1 + 1 + 1 + 1) ls (.int (xs (i + k)) :: rest))) : W p l e room_1 s m #[Value.ref b] below meth c H locs cells slots Q (F0 m pc ls rest) := by
  obtain ⟨hx, hb, hml, hown, hts, hX, hbl, hK⟩ := C1
  have hbA : ¬ LA s b := Nat.not_le.mpr hbl
  subst hkI
  refine lv_aload_n hx hb d1 rfl (lv_at hl 0 rfl) ?_
  refine lv_iload_n hx hb d2 rfl (lv_at hl 3 rfl) ?_
  refine lv_iconst (v := nI k) hx hb d3 hz ?_
  refine lv_iadd hx hb d4 ?_
  rw [nI_add]
  refine va_sld hx hb hX hbl hbA hS (vp_in_nI (show i + k < L by omega) (by omega)) d5 ?_
  rw [nI_cl (by omega)]
  exact kk
theorem x_sbool (C1 : LC p s m c b L xs D cy) {v : Int32} {t1 t2 : Nat}
    (d1 : decode cL_law pc = .ok (.ifCond .eq 7, 3)) (h1 : pc + 7 = t1) (d2 : decode cL_law (pc + 3) = .ok (.iconst 1, 1)) (d3 : decode cL_law (pc + 3 + 1) = .ok (.goto 4, 3)) (h2 : pc + 3 + 1 + 4 = t2) (d4 : decode cL_law t1 = .ok (.iconst 0, 1)) (h3 : t1 + 1 = t2)
    (kk : W p l e room_1 s m #[Value.ref b] below meth c H locs cells slots Q (F0 m t2 ls (.int (if v = 0 then 0 else 1) :: rest))) : W p l e room_1 s m #[Value.ref b] below meth c H locs cells slots Q (F0 m pc ls (.int v :: rest)) := by
  obtain ⟨hx, hb, hml, hown, hts, hX, hbl, hK⟩ := C1
  refine lv_if_eq (tgt := t1) hx hb d1 (by omega) (fun z => ?_) (fun z => ?_)
  · rw [if_pos z] at kk
    refine lv_iconst (v := 0) hx hb d4 (by decide) ?_
    rw [h3]; exact kk
  · rw [if_neg z] at kk
    refine lv_iconst (v := 1) hx hb d2 (by decide) ?_
    refine lv_goto (tgt := t2) hx hb d3 (by omega) ?_
    exact kk
end XG
