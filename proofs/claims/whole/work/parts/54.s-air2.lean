/-- FLIGHTS: what both hold of KINDS and THE FEATHER, and the class's kept paths -/
def RA (ua um : St) : Prop := um.2.1 0 = ua.2.1 0 ∧ um.2.1 1 = ua.2.1 1 ∧ um.2.1 2 = ua.2.1 2 ∧ um.1 3 = ua.1 4 ∧
  ∃ (sp dr me : Nat → Nat) (b : Nat), ua.1 4 = nI b ∧ (∀ k, k < 4 → okF (sp k) (dr k) (me k) b ∧ ua.2.1 0 k = nI (sp k) ∧ ua.2.1 1 k = nI (dr k) ∧ ua.2.1 2 k = nI (me k)) ∧ b ≤ 8 ∧
  ∀ k A T, k < 4 → A < 16 → T < 16 → ua.2.2 ((k * 16 + A) * 16 + T) = 0 ∨ ua.2.2 ((k * 16 + A) * 16 + T) = lN (pathN (sp k) (dr k) (me k) b A T)
theorem RA.fr {ua um um' : St} {I R : List Nat} (h : RA ua um) (hf : Fr I R um um') (h1 : 3 ∉ I) (h2 : 0 ∉ R) (h3 : 1 ∉ R) (h4 : 2 ∉ R) : RA ua um' := by
  unfold RA; rw [hf.1 3 h1, hf.2 0 h2, hf.2 1 h3, hf.2 2 h4]; exact h
section FA
variable {sp dr me b A T k : Nat} {ua : St}
theorem whole0 (hb : ua.1 4 = nI b) (hb8 : b ≤ 8) (hA : A < 16) (hT : T < 16) : f_X0_wholeOf ua (nI (Ln A T)) = some (nI (wh b A T)) := by
  have h := Ln_rng hA hT
  have hm : Ln A T * (100 - 4 * b) ≤ 85 * 100 := Nat.mul_le_mul h.2 (by omega)
  rw [f_X0_wholeOf, hb, show (4 : Int32) = nI 4 from rfl, show (100 : Int32) = nI 100 from rfl, nI_mul, nI_sub (by omega), nI_mul, nI_div (by omega) (by decide)]
  rfl
theorem slow0 (h1 : ua.2.1 1 k = nI dr) (hk : k < 4) (hb : ua.1 4 = nI b) (hd : dr ≤ 60) (hb8 : b ≤ 8) {s : Nat} (hs : s ≤ 60) : f_X0_slowed ua (nI k) (nI s) = some (nI (max 2 (s * (100 - dr - 2 * b) / 100))) := by
  have hm : s * (100 - dr - 2 * b) ≤ 60 * 100 := Nat.mul_le_mul hs (by omega)
  rw [f_X0_slowed, ld_ok (okN hk (by decide)), nI_cl (by omega), h1, hb, show (2 : Int32) = nI 2 from rfl, show (100 : Int32) = nI 100 from rfl, nI_mul, nI_sub (by omega), nI_sub (by omega), nI_mul, nI_div (by omega) (by decide), nm, nm]
  unfold mx
  by_cases c : 2 < s * (100 - dr - 2 * b) / 100
  · rw [if_pos (nI_lt c (by omega)), Nat.max_eq_right (by omega)]
  · rw [if_neg (nI_nlt (by omega) (by omega)), Nat.max_eq_left (by omega)]
theorem mn_nI {x y : Nat} (hx : x < 1000) (hy : y < 1000) : mn (nI x) (nI y) = nI (min x y) := by
  unfold mn
  by_cases c : y < x
  · rw [if_pos (nI_lt c (by omega)), Nat.min_eq_right (by omega)]
  · rw [if_neg (nI_nlt (by omega) (by omega)), Nat.min_eq_left (by omega)]
theorem sN_rng (h : okF sp dr me b) (i : Nat) : 2 ≤ sN sp dr b A T i ∧ sN sp dr b A T i ≤ 60 := GS_s (by have := h.1.1; omega) h.1.2 (by omega) i
theorem pack1 (x : Nat) {c : Nat} (hc : c < 16) : (lN x <<< (Int32.toInt64 4 &&& 63)) ||| Int32.toInt64 (nI c) = lN (x * 16 + c) := by
  have e : lN x <<< (Int32.toInt64 4 &&& 63) = lN (x * 16) := wb_shl x (k := 4) (by decide)
  rw [e, nI_l (by omega), wb_mod (x * 16), wb_mod (x * 16 + c), wb_or (Nat.mod_lt _ (by decide)) (by omega)]
  congr 1
  have h16 : x * 16 % 2 ^ 64 = (x % 2 ^ 60) * 16 := by omega
  rw [h16, show (x % 2 ^ 60) * 16 = (x % 2 ^ 60) <<< 4 by rw [Nat.shiftLeft_eq], ← Nat.shiftLeft_add_eq_or_of_lt (by omega : c < 2 ^ 4), Nat.shiftLeft_eq]
  omega
theorem work_end (h : okF sp dr me b) (hA : A < 16) (hT : T < 16) (hk : k < 4) (h2 : ua.2.1 2 k = nI me) : f_X0_workOut_106 ua (nI k) (nI (nN sp dr b A T)) (nI (ovN sp dr b A T (nN sp dr b A T))) (lN (pkN sp dr b A T (nN sp dr b A T))) = some (lN (pathN sp dr me b A T)) := by
  have hN := nN_spec h hA hT
  have hov := ov_le (sp := sp) (dr := dr) (b := b) (A := A) (T := T) (nN sp dr b A T)
  have fin : ∀ s0, s0 = nI (fmN sp dr me b A T) → f_X0_workOut_131 ua (nI (nN sp dr b A T)) (lN (pkN sp dr b A T (nN sp dr b A T))) s0 = some (lN (pathN sp dr me b A T)) := by
    intro s0 hs
    have hfm : fmN sp dr me b A T ≤ 44 := by unfold fmN; split <;> omega
    have e1 : lN (pkN sp dr b A T (nN sp dr b A T)) &&& 16777215 = lN (pkN sp dr b A T (nN sp dr b A T) % 16777216) := by
      rw [wb_mod (pkN sp dr b A T (nN sp dr b A T))]
      have := wb_mask (n := pkN sp dr b A T (nN sp dr b A T) % 2 ^ 64) (k := 24) (Nat.mod_lt _ (by decide)) (by decide)
      have e : (lN (2 ^ 24 - 1)) = 16777215 := rfl
      rw [e] at this
      rw [this]
      congr 1
      omega
    rw [f_X0_workOut_131, nm, hs, e1]
    have e2 : lN (pkN sp dr b A T (nN sp dr b A T) % 16777216) <<< (Int32.toInt64 12 &&& 63) = lN (pkN sp dr b A T (nN sp dr b A T) % 16777216 * 4096) := wb_shl _ (k := 12) (by decide)
    have e3 : Int32.toInt64 (nI (fmN sp dr me b A T)) <<< (Int32.toInt64 6 &&& 63) = lN (fmN sp dr me b A T * 64) := by
      rw [nI_l (by omega)]; exact wb_shl _ (k := 6) (by decide)
    rw [e2, e3, nI_l (by omega), wb_or (by omega) (by omega), wb_or (by
      have := Nat.or_lt_two_pow (n := 64) (x := pkN sp dr b A T (nN sp dr b A T) % 16777216 * 4096) (y := fmN sp dr me b A T * 64) (by omega) (by omega)
      exact this) (by omega)]
    congr 2
    unfold pathN
    rw [show pkN sp dr b A T (nN sp dr b A T) % 16777216 * 4096 = (pkN sp dr b A T (nN sp dr b A T) % 16777216) <<< 12 by rw [Nat.shiftLeft_eq], ← Nat.shiftLeft_add_eq_or_of_lt (by omega : fmN sp dr me b A T * 64 < 2 ^ 12), Nat.shiftLeft_eq]
    rw [show pkN sp dr b A T (nN sp dr b A T) % 16777216 * 2 ^ 12 + fmN sp dr me b A T * 64 = (pkN sp dr b A T (nN sp dr b A T) % 16777216 * 64 + fmN sp dr me b A T) <<< 6 by rw [Nat.shiftLeft_eq]; omega, ← Nat.shiftLeft_add_eq_or_of_lt (by omega : nN sp dr b A T < 2 ^ 6), Nat.shiftLeft_eq]
  rw [f_X0_workOut_106]
  by_cases c : ovN sp dr b A T (nN sp dr b A T) = 0
  · rw [c, nI_0, if_pos rfl]
    exact fin 0 (by unfold fmN; rw [if_pos c]; rfl)
  · rw [if_neg (nI_ne0 (by omega) (by omega)), ld_ok (okN hk (by decide)), nI_cl (by omega), h2, nm, mn_nI (by omega) (by have := h.2.2.1; omega), nI_1, nI_sub (by omega)]
    exact fin _ (by unfold fmN; rw [if_neg c])
theorem work0 (h : okF sp dr me b) (hA : A < 16) (hT : T < 16) (hk : k < 4) (h0 : ua.2.1 0 k = nI sp) (h1 : ua.2.1 1 k = nI dr) (h2 : ua.2.1 2 k = nI me) (hb : ua.1 4 = nI b) : f_X0_workOut ua (nI k) (nI A) (nI T) = some (lN (pathN sp dr me b A T)) := by
  have hL := Ln_rng hA hT
  have hw := wh_rng h.2.2.2 hA hT
  obtain ⟨n1, n2, n3, n4⟩ := nN_spec h hA hT
  rw [f_X0_workOut, (len_eq hA hT).1, bd_s, whole0 hb h.2.2.2 hA hT, bd_s, ld_ok (okN hk (by decide)), nI_cl (by omega), h0]
  have loop : ∀ (q i fuel : Nat), i + q = nN sp dr b A T → q < fuel → f_X0_workOut_35 ua fuel (nI k) (nI A) (nI T) (nI (Ln A T)) (nI (wh b A T)) (nI (sN sp dr b A T i)) (nI (gN sp dr b A T i)) (nI i) (nI (ovN sp dr b A T i)) (lN (pkN sp dr b A T i)) = some (lN (pathN sp dr me b A T)) := by
    intro q
    induction q with
    | zero =>
      intro i fuel hi hf
      obtain ⟨f, rfl⟩ : ∃ f, fuel = f + 1 := ⟨fuel - 1, by omega⟩
      have : i = nN sp dr b A T := by omega
      subst this
      rw [f_X0_workOut_35, n2, if_pos (nI_le (Nat.le_refl _) (by omega))]
      exact work_end h hA hT hk h2
    | succ q ih =>
      intro i fuel hi hf
      obtain ⟨f, rfl⟩ : ∃ f, fuel = f + 1 := ⟨fuel - 1, by omega⟩
      have hs := sN_rng (A := A) (T := T) h i
      have hg := n1 i (by omega)
      have step := ih (i + 1) f (by omega) (by omega)
      have eg : min (wh b A T) (gN sp dr b A T i + sN sp dr b A T i) = gN sp dr b A T (i + 1) := rfl
      have es : max 2 (sN sp dr b A T i * (100 - dr - 2 * b) / 100) = sN sp dr b A T (i + 1) := rfl
      rw [f_X0_workOut_35, if_neg (nI_ge (by omega) (by omega)), if_neg (show ¬ (60 : Int32) ≤ nI i from nI_ge (b := 60) (by omega) (by decide)), nm, nm, nm, nI_1, nI_add, mn_nI (by omega) (by omega), eg, slow0 h1 hk hb h.2.1 h.2.2.2 hs.2, bd_s, es, pl_eq hA hT (gN_le h.2.2.2 hA hT (i + 1)), bd_s]
      have ec : plV A T (gN sp dr b A T (i + 1)) = cN sp dr b A T (i + 1) := rfl
      rw [ec]
      rw [ovN, pkN] at step
      rcases cN_rng (sp := sp) (dr := dr) h.2.2.2 hA hT (i + 1) with e | ⟨c, c1, c2⟩
      · rw [if_pos e, f_X0_workOut_103]
        rw [if_pos e, if_pos e, Nat.add_zero] at step
        exact step
      · have ne : ¬ cN sp dr b A T (i + 1) = -1 := by rw [c2]; exact nI_inj_m1 (by omega)
        rw [if_neg ne, nm, nm, f_X0_workOut_103, nI_1, c2, pack1 _ c1]
        rw [if_neg ne, if_neg ne, c2, nI_cl (by omega)] at step
        exact step
  exact loop (nN sp dr b A T) 0 FU (by omega) (by unfold FU; omega)
theorem land0 (h : okF sp dr me b) (hA : A < 16) (hT : T < 16) : f_X0_landingOf (lN (pathN sp dr me b A T)) = some (nI (nN sp dr b A T)) := by
  obtain ⟨n1, n2, n3, n4⟩ := nN_spec h hA hT
  have hp : pathN sp dr me b A T < 2 ^ 62 := by
    unfold pathN fmN; split <;> omega
  have e : lN (pathN sp dr me b A T) &&& 63 = lN (pathN sp dr me b A T % 64) := wb_mask (k := 6) (by omega) (by decide)
  rw [f_X0_landingOf, e, lN_i]
  congr 2
  unfold pathN; omega
theorem met0 (h : okF sp dr me b) (hA : A < 16) (hT : T < 16) : f_X0_firstMetOf (lN (pathN sp dr me b A T)) = some (nI (fmN sp dr me b A T)) := by
  obtain ⟨n1, n2, n3, n4⟩ := nN_spec h hA hT
  have hfm : fmN sp dr me b A T ≤ 44 := by unfold fmN; split <;> omega
  have hp : pathN sp dr me b A T < 2 ^ 62 := by unfold pathN; omega
  have e1 : lN (pathN sp dr me b A T) >>> (Int32.toInt64 6 &&& 63) = lN (pathN sp dr me b A T / 2 ^ 6) := pf_shr (by decide) hp
  have e : lN (pathN sp dr me b A T / 2 ^ 6) &&& 63 = lN (pathN sp dr me b A T / 2 ^ 6 % 64) := wb_mask (k := 6) (by omega) (by decide)
  rw [f_X0_firstMetOf, e1, e, lN_i]
  congr 2
  unfold pathN; omega
theorem shD : ∀ d, d < 6 → ((Int32.toInt64 (nI (12 + 4 * d)) &&& 63).toBitVec.smod 64).toNat = 12 + 4 * d := by decide +kernel
theorem cell0 (h : okF sp dr me b) (hA : A < 16) (hT : T < 16) {j : Nat} (hj : fmN sp dr me b A T ≤ j) (hj2 : j ≤ nN sp dr b A T) (hne : ¬ fmN sp dr me b A T = 0) : f_X0_cellAt (lN (pathN sp dr me b A T)) (nI j) = some (cN sp dr b A T j) := by
  obtain ⟨n1, n2, n3, n4⟩ := nN_spec h hA hT
  have hfm : fmN sp dr me b A T ≤ 44 := by unfold fmN; split <;> omega
  have hp : pathN sp dr me b A T < 2 ^ 62 := by unfold pathN; omega
  have hov := ov_le (sp := sp) (dr := dr) (b := b) (A := A) (T := T) (nN sp dr b A T)
  have hme := h.2.2.1
  have hd : nN sp dr b A T - j < ovN sp dr b A T (nN sp dr b A T) ∧ nN sp dr b A T - j < 6 := by
    unfold fmN at hj hne
    by_cases c : ovN sp dr b A T (nN sp dr b A T) = 0
    · rw [if_pos c] at hne; exact absurd rfl hne
    · rw [if_neg c] at hj; omega
  have pc := pk_cell (sp := sp) (dr := dr) h.2.2.2 hA hT hd.1
  rw [show nN sp dr b A T - (nN sp dr b A T - j) = j by omega] at pc
  rw [f_X0_cellAt, land0 h hA hT, bd_s, nI_sub hj2, show (4 : Int32) = nI 4 from rfl, show (12 : Int32) = nI 12 from rfl, nI_mul, nI_add]
  generalize hdd : nN sp dr b A T - j = d at hd pc
  have e1 : lN (pathN sp dr me b A T) >>> (Int32.toInt64 (nI (12 + 4 * d)) &&& 63) = lN (pathN sp dr me b A T / 2 ^ (12 + 4 * d)) := pf_shr (shD d hd.2) hp
  have hq : pathN sp dr me b A T / 2 ^ (12 + 4 * d) ≤ pathN sp dr me b A T := Nat.div_le_self _ _
  have e : lN (pathN sp dr me b A T / 2 ^ (12 + 4 * d)) &&& 15 = lN (pathN sp dr me b A T / 2 ^ (12 + 4 * d) % 16) := wb_mask (k := 4) (by omega) (by decide)
  rw [e1, e, lN_i, ← pc]
  congr 2
  have e4 : pathN sp dr me b A T / 4096 = pkN sp dr b A T (nN sp dr b A T) % 16777216 := by unfold pathN; omega
  rw [Nat.pow_add, ← Nat.div_div_eq_div_mul, show 2 ^ 12 = 4096 from rfl, e4, Nat.pow_mul, show 2 ^ 4 = 16 from rfl]
  generalize pkN sp dr b A T (nN sp dr b A T) = x
  rcases (show d = 0 ∨ d = 1 ∨ d = 2 ∨ d = 3 ∨ d = 4 ∨ d = 5 by omega) with rfl | rfl | rfl | rfl | rfl | rfl <;> omega
theorem net0 (h : okF sp dr me b) (hA : A < 16) (hT : T < 16) : f_X0_isNet (lN (pathN sp dr me b A T)) = some (if fmN sp dr me b A T = 0 then 1 else 0) := by
  have hfm : fmN sp dr me b A T ≤ 44 := by
    have := nN_spec h hA hT
    unfold fmN; split <;> omega
  rw [f_X0_isNet, met0 h hA hT, bd_s]
  by_cases c : fmN sp dr me b A T = 0
  · rw [c, nI_0, if_pos rfl, if_pos rfl]
  · rw [if_neg (nI_ne0 (by omega) (by omega)), if_neg c]
theorem fm_net (h : okF sp dr me b) (hA : A < 16) (hT : T < 16) : fmN sp dr me b A T = 0 ↔ cN sp dr b A T (nN sp dr b A T) = -1 := by
  obtain ⟨n1, n2, n3, n4⟩ := nN_spec h hA hT
  have hov := ov_le (sp := sp) (dr := dr) (b := b) (A := A) (T := T) (nN sp dr b A T)
  have hs := ov_suf (sp := sp) (dr := dr) h.2.2.2 hA hT (nN sp dr b A T) (nN sp dr b A T) n4 (Nat.le_refl _)
  have hme := h.2.2.1
  unfold fmN
  by_cases c : ovN sp dr b A T (nN sp dr b A T) = 0
  · rw [if_pos c]
    refine ⟨fun _ => ?_, fun _ => rfl⟩
    rcases cN_rng (sp := sp) (dr := dr) h.2.2.2 hA hT (nN sp dr b A T) with e | ⟨x, x1, x2⟩
    · exact e
    · exact absurd (hs.mp (by rw [x2]; exact nI_inj_m1 (by omega))) (by omega)
  · rw [if_neg c]
    exact ⟨fun q => by omega, fun q => absurd q (hs.mpr (by omega))⟩
end FA
