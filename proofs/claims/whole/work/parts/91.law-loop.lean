/-! THE CLAIM OUT OF ONE WALK OF THE LAW'S BODY. Your part is whole_start (and what it stands on); all else here is the same for every law, but numbers. -/
def R_law : String := "FeatherHallLaw"
def lw_P (b : Addr) (xs : List Int32) (args : Array Value) (s : State) : Prop := args = #[.ref b] ∧ s.IntsAt b xs ∧ xs.length ≤ 3072 ∧ (Jvm.Cond.and given_1 narrow_1).before args s = true
def lw_Q (_ : Array Value) (s : State) (o : Outcome) (t : State) : Prop := o = .returned (some (.int 1)) ∧ Framed s o t [] 600000 7302250
def lw_Z (below : List Frame) (a : Array Value) (s : State) : State → Prop := fun t => ∃ o, t.status = .running ∧ Ended t below o ∧ lw_Q a s o t
/-- the law's own end, with 1 on the stack, nothing written that was there before, its room as the claim has it -/
theorem lw_ret {p : Program} {l : Launch} {e : Env} {s : State} {m : MethodId} {below : List Frame} {meth : Method} {c : Code} {b : Nat} (hx : p.tables.exec = Jvm.exec) (hb : c.code = code) (hr : meth.sig.returnType = ret) (hlocks : meth.locks = false) {pc : Nat} {H : Heap} {ls : Array Slot} (hdg : decode code pc = .ok (.ireturn, 1)) : W p l e room_1 s m #[Value.ref b] below meth c H [] 600000 7302250 (lw_Z below #[Value.ref b] s) (F0 m pc ls [.int 1]) := by
  intro T hT X
  obtain ⟨fs, hret, hrun, hended, hW, hframe⟩ := X.leave (v := some (.int 1)) (hlocks := hlocks) (fun h => by rw [hr] at h; cases h)
  have hmeth' : T.vm.method? m = some meth := X.method'
  refine ⟨T.setFrames fs, ?_, .returned (some (.int 1)), hrun, hended, rfl, ⟨_, rfl⟩, hW, hframe⟩
  jvm_step X.here [X.here.top, hx, hb, hdg, hmeth', hr, ret, narrow_b1]
  (try refine ⟨rfl, ?_⟩); (try refine ⟨rfl, ?_⟩)
  first | (intro acts; rw [hret _ acts rfl rfl rfl]) | rw [hret _ _ rfl rfl rfl]
  exact Steps.refl _
/-- what holds at the law's entry: the machine, the code, the tables' words (any of lw_tbl by 'hts w (by decide +kernel)'), the script of L ints xs at the cell b, what the Statement gives of the start (any of its parts by flat_of_before) -/
def lw_At (p : Program) (s : State) (m : MethodId) (meth : Method) (c : Code) (b L : Nat) (xs : Nat → Int32) : Prop :=
  p.tables.exec = Jvm.exec ∧ c.code = code ∧ meth.sig.returnType = ret ∧ c.maxLocals = 4 ∧ s.vm.findClass R_law = some m.cls ∧ (∀ w ∈ lw_tbl, w.before #[Value.ref b] s = true) ∧ va_X b L xs s s.heap ∧ b < s.heap.size ∧ meth.locks = false ∧ (Jvm.Cond.and given_1 narrow_1).before #[Value.ref b] s = true
theorem law_loop {p : Program} {l : Launch} {e : Env} {s : State} {m : MethodId} {below : List Frame} {meth : Method} {c : Code} {D : va_G} {cy : Nat → ClassId} {b L : Nat} {xs : Nat → Int32} {g g' : Nat → Nat} (C1 : LC p s m c b L xs D cy) (hr : meth.sig.returnType = ret) (hlocks : meth.locks = false) (hL : L ≤ 3072) :
    ∀ (n i : Nat) (ua us ud ut un ub ue um : St) (H : Heap) (locs : List Loc) (ls : Array Slot), i ≤ L → L < i + 6 * n → Inv ua us ut un ub ue um → va_P D vwCl (wX8 cy g ua us ud ut un ub ue ++ wX9 cy g' um) H → va_D (LA s) (wX8 cy g ua us ud ut un ub ue ++ wX9 cy g' um) → va_S (LA s) s.heap H locs → lv_has ls 4 [(0, .ref b), (1, .ref (g 899)), (2, .ref (g' 999)), (3, .int (nI i))] → W p l e room_1 s m #[Value.ref b] below meth c H locs 57 35437 (lw_Z below #[Value.ref b] s) (F0 m 18 ls []) := by
  obtain ⟨hx, hb, hml, hown, hts, hX, hbl, hK⟩ := id C1
  have hbA : ¬ LA s b := Nat.not_le.mpr hbl
  intro n
  induction n with
  | zero => intro i ua us ud ut un ub ue um H locs ls h1 h2; exact absurd h2 (by omega)
  | succ n ih =>
    intro i ua us ud ut un ub ue um H locs ls hiL hin hI hP hD hS hl
    refine lv_iload_n hx hb dL_law_18 rfl (lv_at hl 3 rfl) ?_
    refine lv_aload_n hx hb dL_law_19 rfl (lv_at hl 0 rfl) ?_
    refine va_slen hx hb hX hbl hbA hS dL_law_20 ?_
    refine lv_bipush (v := 6) hx hb dL_law_21 (by decide) ?_
    refine lv_isub hx hb dL_law_23 ?_
    have t1 : (nI i).toInt = i := nI_toInt (by omega)
    have t2 : (Int32.ofNat L).toInt = L := nI_toInt (by omega)
    have T6 : (6 : Int32).toInt = 6 := by decide
    have t3 : (Int32.ofNat L - 6).toInt = (L : Int) - 6 := by rw [tI_sub (by rw [t2, T6]; omega) (by rw [t2, T6]; omega), t2, T6]
    refine lv_icmp_gt (tgt := 1271) hx hb dL_law_24 (by decide) (fun z => ?_) (fun z => ?_)
    · refine lv_iconst (v := 1) hx hb dL_law_1271 (by decide) ?_
      refine va_forget (fun q hq => hS.2.2 q hq) ?_
      refine W.widen (k := 600000) (n := 7302250) (Nat.le_of_ble_eq_true rfl) (Nat.le_of_ble_eq_true rfl) ?_
      exact lw_ret hx hb hr hlocks dL_law_1272
    · have hi : i + 6 ≤ L := by
        rw [Int32.lt_iff_toInt_lt, t1, t3] at z
        omega
      have fin : ∀ (ua us ud ut un ub ue um : St) (H : Heap) (locs : List Loc), Inv ua us ut un ub ue um → va_P D vwCl (wX8 cy g ua us ud ut un ub ue ++ wX9 cy g' um) H → va_D (LA s) (wX8 cy g ua us ud ut un ub ue ++ wX9 cy g' um) → va_S (LA s) s.heap H locs → W p l e room_1 s m #[Value.ref b] below meth c H locs 57 35437 (lw_Z below #[Value.ref b] s) (F0 m 1265 ls []) := by
        intro ua us ud ut un ub ue um H locs hI hP hD hS
        obtain ⟨x, ex⟩ : ∃ y : Int32, y = nI i + 6 := ⟨_, rfl⟩
        refine lv_iinc (v := x) (lv' := [(3, .int x), (0, .ref b), (1, .ref (g 899)), (2, .ref (g' 999))]) hx hb dL_law_1265 hl (k := 3) rfl (by rw [ex]; rfl) (by decide) rfl (fun ls hl => ?_)
        refine lv_goto (tgt := 18) hx hb dL_law_1268 (by decide) ?_
        have ex2 : x = nI (i + 6) := by rw [ex, show (6 : Int32) = nI 6 from rfl, nI_add]
        rw [ex2] at hl
        exact ih (i + 6) ua us ud ut un ub ue um H locs ls (by omega) (by omega) hI hP hD hS (lv_sub hl [1, 2, 3, 0] rfl)
      refine lv_aload_n hx hb dL_law_27 rfl (lv_at hl 0 rfl) ?_
      refine lv_iload_n hx hb dL_law_28 rfl (lv_at hl 3 rfl) ?_
      refine va_sld hx hb hX hbl hbA hS (vp_in_nI (show i < L by omega) (by omega)) dL_law_29 ?_
      refine lv_bipush (v := 63) hx hb dL_law_30 (by decide) ?_
      refine lv_iand hx hb dL_law_32 ?_
      refine lv_topi (fun x _ => ?_)
      by_cases ho : x.toInt < 0 ∨ 32 < x.toInt
      · refine lv_tableOut (tgt := 1265) hx hb dL_law_33 ho (by decide) ?_
        exact fin ua us ud ut un ub ue um H locs hI hP hD hS
      · have h1 : ¬ x.toInt < 0 := fun z => ho (Or.inl z)
        have h2 : ¬ 32 < x.toInt := fun z => ho (Or.inr z)
        rcases (show x.toInt = 0 ∨ x.toInt = 1 ∨ x.toInt = 2 ∨ x.toInt = 3 ∨ x.toInt = 4 ∨ x.toInt = 5 ∨ x.toInt = 6 ∨ x.toInt = 7 ∨ x.toInt = 8 ∨ x.toInt = 9 ∨ x.toInt = 10 ∨ x.toInt = 11 ∨ x.toInt = 12 ∨ x.toInt = 13 ∨ x.toInt = 14 ∨ x.toInt = 15 ∨ x.toInt = 16 ∨ x.toInt = 17 ∨ x.toInt = 18 ∨ x.toInt = 19 ∨ x.toInt = 20 ∨ x.toInt = 21 ∨ x.toInt = 22 ∨ x.toInt = 23 ∨ x.toInt = 24 ∨ x.toInt = 25 ∨ x.toInt = 26 ∨ x.toInt = 27 ∨ x.toInt = 28 ∨ x.toInt = 29 ∨ x.toInt = 30 ∨ x.toInt = 31 ∨ x.toInt = 32 by omega) with hk | hk | hk | hk | hk | hk | hk | hk | hk | hk | hk | hk | hk | hk | hk | hk | hk | hk | hk | hk | hk | hk | hk | hk | hk | hk | hk | hk | hk | hk | hk | hk | hk
        · refine lv_tableIn (off := 147) (tgt := 180) hx hb dL_law_33 h1 h2 (by rw [hk]; rfl) (by decide) ?_
          exact lc_kind C1 hL hi hI hP hD hS hl fin
        · refine lv_tableIn (off := 200) (tgt := 233) hx hb dL_law_33 h1 h2 (by rw [hk]; rfl) (by decide) ?_
          exact lc_broken C1 hL hi hI hP hD hS hl fin
        · refine lv_tableIn (off := 223) (tgt := 256) hx hb dL_law_33 h1 h2 (by rw [hk]; rfl) (by decide) ?_
          exact lc_flight C1 hL hi hI hP hD hS hl fin
        · refine lv_tableIn (off := 276) (tgt := 309) hx hb dL_law_33 h1 h2 (by rw [hk]; rfl) (by decide) ?_
          exact lc_over C1 hL hi hI hP hD hS hl fin
        · refine lv_tableIn (off := 329) (tgt := 362) hx hb dL_law_33 h1 h2 (by rw [hk]; rfl) (by decide) ?_
          exact lc_player C1 hL hi hI hP hD hS hl fin
        · refine lv_tableIn (off := 372) (tgt := 405) hx hb dL_law_33 h1 h2 (by rw [hk]; rfl) (by decide) ?_
          exact lc_run C1 hL hi hI hP hD hS hl fin
        · refine lv_tableIn (off := 405) (tgt := 438) hx hb dL_law_33 h1 h2 (by rw [hk]; rfl) (by decide) ?_
          exact lc_rest C1 hL hi hI hP hD hS hl fin
        · refine lv_tableIn (off := 438) (tgt := 471) hx hb dL_law_33 h1 h2 (by rw [hk]; rfl) (by decide) ?_
          exact lc_slack C1 hL hi hI hP hD hS hl fin
        · refine lv_tableIn (off := 501) (tgt := 534) hx hb dL_law_33 h1 h2 (by rw [hk]; rfl) (by decide) ?_
          exact lc_strike C1 hL hi hI hP hD hS hl fin
        · refine lv_tableIn (off := 554) (tgt := 587) hx hb dL_law_33 h1 h2 (by rw [hk]; rfl) (by decide) ?_
          exact lc_stand C1 hL hi hI hP hD hS hl fin
        · refine lv_tableIn (off := 597) (tgt := 630) hx hb dL_law_33 h1 h2 (by rw [hk]; rfl) (by decide) ?_
          exact lc_wins C1 hL hi hI hP hD hS hl fin
        · refine lv_tableIn (off := 660) (tgt := 693) hx hb dL_law_33 h1 h2 (by rw [hk]; rfl) (by decide) ?_
          exact lc_rally C1 hL hi hI hP hD hS hl fin
        · refine lv_tableIn (off := 683) (tgt := 716) hx hb dL_law_33 h1 h2 (by rw [hk]; rfl) (by decide) ?_
          exact lc_three C1 hL hi hI hP hD hS hl fin
        · refine lv_tableIn (off := 706) (tgt := 739) hx hb dL_law_33 h1 h2 (by rw [hk]; rfl) (by decide) ?_
          exact lc_again C1 hL hi hI hP hD hS hl fin
        · refine lv_tableIn (off := 719) (tgt := 752) hx hb dL_law_33 h1 h2 (by rw [hk]; rfl) (by decide) ?_
          exact lc_note C1 hL hi hI hP hD hS hl fin
        · refine lv_tableIn (off := 778) (tgt := 811) hx hb dL_law_33 h1 h2 (by rw [hk]; rfl) (by decide) ?_
          exact lc_tally C1 hL hi hI hP hD hS hl fin
        · refine lv_tableIn (off := 821) (tgt := 854) hx hb dL_law_33 h1 h2 (by rw [hk]; rfl) (by decide) ?_
          exact lc_habit C1 hL hi hI hP hD hS hl fin
        · refine lv_tableIn (off := 854) (tgt := 887) hx hb dL_law_33 h1 h2 (by rw [hk]; rfl) (by decide) ?_
          exact lc_strongest C1 hL hi hI hP hD hS hl fin
        · refine lv_tableIn (off := 867) (tgt := 900) hx hb dL_law_33 h1 h2 (by rw [hk]; rfl) (by decide) ?_
          exact lc_cost C1 hL hi hI hP hD hS hl fin
        · refine lv_tableIn (off := 900) (tgt := 933) hx hb dL_law_33 h1 h2 (by rw [hk]; rfl) (by decide) ?_
          exact lc_wear C1 hL hi hI hP hD hS hl fin
        · refine lv_tableIn (off := 933) (tgt := 966) hx hb dL_law_33 h1 h2 (by rw [hk]; rfl) (by decide) ?_
          exact lc_plan C1 hL hi hI hP hD hS hl fin
        · refine lv_tableIn (off := 956) (tgt := 989) hx hb dL_law_33 h1 h2 (by rw [hk]; rfl) (by decide) ?_
          exact lc_unplan C1 hL hi hI hP hD hS hl fin
        · refine lv_tableIn (off := 969) (tgt := 1002) hx hb dL_law_33 h1 h2 (by rw [hk]; rfl) (by decide) ?_
          exact lc_costs C1 hL hi hI hP hD hS hl fin
        · refine lv_tableIn (off := 992) (tgt := 1025) hx hb dL_law_33 h1 h2 (by rw [hk]; rfl) (by decide) ?_
          exact lc_change C1 hL hi hI hP hD hS hl fin
        · refine lv_tableIn (off := 1005) (tgt := 1038) hx hb dL_law_33 h1 h2 (by rw [hk]; rfl) (by decide) ?_
          exact lc_courts C1 hL hi hI hP hD hS hl fin
        · refine lv_tableIn (off := 1028) (tgt := 1061) hx hb dL_law_33 h1 h2 (by rw [hk]; rfl) (by decide) ?_
          exact lc_come C1 hL hi hI hP hD hS hl fin
        · refine lv_tableIn (off := 1061) (tgt := 1094) hx hb dL_law_33 h1 h2 (by rw [hk]; rfl) (by decide) ?_
          exact lc_leave C1 hL hi hI hP hD hS hl fin
        · refine lv_tableIn (off := 1084) (tgt := 1117) hx hb dL_law_33 h1 h2 (by rw [hk]; rfl) (by decide) ?_
          exact lc_against C1 hL hi hI hP hD hS hl fin
        · refine lv_tableIn (off := 1107) (tgt := 1140) hx hb dL_law_33 h1 h2 (by rw [hk]; rfl) (by decide) ?_
          exact lc_round C1 hL hi hI hP hD hS hl fin
        · refine lv_tableIn (off := 1130) (tgt := 1163) hx hb dL_law_33 h1 h2 (by rw [hk]; rfl) (by decide) ?_
          exact lc_played C1 hL hi hI hP hD hS hl fin
        · refine lv_tableIn (off := 1143) (tgt := 1176) hx hb dL_law_33 h1 h2 (by rw [hk]; rfl) (by decide) ?_
          exact lc_had C1 hL hi hI hP hD hS hl fin
        · refine lv_tableIn (off := 1176) (tgt := 1209) hx hb dL_law_33 h1 h2 (by rw [hk]; rfl) (by decide) ?_
          exact lc_of C1 hL hi hI hP hD hS hl fin
        · refine lv_tableIn (off := 1209) (tgt := 1242) hx hb dL_law_33 h1 h2 (by rw [hk]; rfl) (by decide) ?_
          exact lc_count C1 hL hi hI hP hD hS hl fin
