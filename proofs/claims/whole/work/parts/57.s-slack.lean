def farV (a c : Int32) : Int32 := mx (ab (a / 4 - c / 4)) (ab ((a - a / 4 * 4) - (c - c / 4 * 4)))
theorem far2 (a c : Int32) : f_X2_far a c = some (farV a c) := by
  rw [f_X2_far]
  simp only [f_X2_rowOf, f_X2_colOf, bd_s, nm]
  rfl
theorem far9 (a c : Int32) : f_X9_far a c = some (farV a c) := by
  rw [f_X9_far, size9, bd_s, size9, bd_s]
  unfold farV mx
  split
  · rename_i q
    by_cases e : ab (a / 4 - c / 4) < ab ((a - a / 4 * 4) - (c - c / 4 * 4))
    · rw [if_pos e]
    · rw [if_neg e]
      congr 1
      apply Int32.toInt_inj.mp
      simp only [Int32.le_iff_toInt_le, Int32.lt_iff_toInt_lt] at q e
      omega
  · rename_i q
    rw [if_neg (fun e => q (Int32.le_of_lt e))]
def fdN (c d : Nat) : Nat := max ((c / 4 - d / 4) + (d / 4 - c / 4)) ((c % 4 - d % 4) + (d % 4 - c % 4))
theorem far_tab : (List.range 16).all (fun c => (List.range 16).all (fun d => decide (farV (nI c) (nI d) = nI (fdN c d)) && decide (fdN c d ≤ 3))) = true := by decide +kernel
theorem farN {c d : Nat} (hc : c < 16) (hd : d < 16) : farV (nI c) (nI d) = nI (fdN c d) ∧ fdN c d ≤ 3 := by
  have := List.all_eq_true.mp (List.all_eq_true.mp far_tab c (List.mem_range.mpr hc)) d (List.mem_range.mpr hd)
  simpa using this
/-- PLAYERS in plain numbers -/
theorem RS.n {us um : St} (h : RS us um) {p : Nat} (hp : p < 8) : ∃ st rc, 1 ≤ st ∧ st ≤ 20 ∧ rc ≤ 2 ∧ us.2.1 3 p = nI st ∧ us.2.1 1 p = nI rc := by
  obtain ⟨⟨a1, a2⟩, ⟨b1, b2⟩, ⟨c1, c2⟩, e⟩ := h.2.2.2 p hp
  obtain ⟨P, hP, eP⟩ := asN (Int32.le_trans (by decide) a1) a2 (M := 20) (by decide)
  obtain ⟨rc, hr, er⟩ := asN b1 b2 (M := 2) (by decide)
  obtain ⟨t, ht, et⟩ := asN c1 c2 (M := 100) (by decide)
  have hm : P * (200 - t) ≤ 20 * 200 := Nat.mul_le_mul hP (by omega)
  refine ⟨max 1 (P * (200 - t) / 200), rc, by omega, by omega, hr, ?_, er⟩
  rw [e, eP, et]
  unfold stV mx
  rw [show (200 : Int32) = nI 200 from rfl, nI_sub (by omega), nI_mul, nI_div (by omega) (by decide)]
  by_cases c : 1 < P * (200 - t) / 200
  · rw [if_pos (show (1 : Int32) < _ from nI_lt (a := 1) c (by omega)), Nat.max_eq_right (by omega)]
  · rw [if_neg (show ¬ (1 : Int32) < _ from nI_nlt (a := 1) (by omega) (by decide)), Nat.max_eq_left (by omega)]; rfl
theorem mx0N {x y : Nat} (hx : x < 1000) (hy : y < 1000) : mx 0 (nI x - nI y) = nI (x - y) := by
  unfold mx
  by_cases c : y < x
  · rw [nI_sub (by omega), if_pos (show (0 : Int32) < _ from nI_lt (a := 0) (by omega) (by omega))]
  · have t1 : (nI x).toInt = x := nI_toInt (by omega)
    have t2 : (nI y).toInt = y := nI_toInt (by omega)
    have T0 : (0 : Int32).toInt = 0 := by decide
    have : ¬ (0 : Int32) < nI x - nI y := by
      rw [Int32.lt_iff_toInt_lt, tI_sub (by rw [t1, t2]; omega) (by rw [t1, t2]; omega), t1, t2, T0]
      omega
    rw [if_neg this, show x - y = 0 by omega]; rfl
/-- one TICK's slack -/
def vS1 (st rc c : Nat) (x : Int32) (j : Nat) : Int32 := nI (j * st / 10) - mx 0 (farV (nI c) x - nI rc)
theorem vS1_ge {st rc c : Nat} {x : Int32} {j : Nat} (hst : st ≤ 20) (hrc : rc ≤ 2) (hc : c < 16) (hj : j ≤ 60) (hx : ∃ d, d < 16 ∧ x = nI d) : -3 ≤ (vS1 st rc c x j).toInt := by
  obtain ⟨d, hd, rfl⟩ := hx
  obtain ⟨f1, f2⟩ := farN hc hd
  have hm : j * st ≤ 60 * 20 := Nat.mul_le_mul hj hst
  unfold vS1
  rw [f1, mx0N (by omega) (by omega)]
  have t1 : (nI (j * st / 10)).toInt = (j * st / 10 : Nat) := nI_toInt (by omega)
  have t2 : (nI (fdN c d - rc)).toInt = (fdN c d - rc : Nat) := nI_toInt (by omega)
  rw [tI_sub (by rw [t1, t2]; omega) (by rw [t1, t2]; omega), t1, t2]
  omega
def slF (v : Nat → Int32) : Nat → Nat → Int32 → Int32
  | _, 0, a => a
  | i, q + 1, a => slF v (i + 1) q (mx a (v i))
theorem mx_ge (a c : Int32) : a.toInt ≤ (mx a c).toInt ∧ c.toInt ≤ (mx a c).toInt := by
  unfold mx
  by_cases h : a < c
  · rw [if_pos h]; rw [Int32.lt_iff_toInt_lt] at h; omega
  · rw [if_neg h]; rw [Int32.lt_iff_toInt_lt] at h; omega
theorem slF_ge (v : Nat → Int32) : ∀ (q i : Nat) (a : Int32), a.toInt ≤ (slF v i q a).toInt := by
  intro q
  induction q with
  | zero => intro i a; exact Int.le_refl _
  | succ q ih => intro i a; exact Int.le_trans (mx_ge a (v i)).1 (ih (i + 1) _)
section SK
variable {sp dr me b A T k st rc p c : Nat}
/-- SLACK -/
def slkV (sp dr me b A T st rc c : Nat) : Int32 := if fmN sp dr me b A T = 0 then -100 else slF (fun j => vS1 st rc c (cN sp dr b A T j) j) (fmN sp dr me b A T) (nN sp dr b A T + 1 - fmN sp dr me b A T) (-100)
theorem fm_rng (h : okF sp dr me b) (hA : A < 16) (hT : T < 16) (hne : ¬ fmN sp dr me b A T = 0) : 1 ≤ fmN sp dr me b A T ∧ fmN sp dr me b A T ≤ nN sp dr b A T ∧ nN sp dr b A T ≤ 43 ∧ ∀ j, fmN sp dr me b A T ≤ j → j ≤ nN sp dr b A T → ∃ d, d < 16 ∧ cN sp dr b A T j = nI d := by
  obtain ⟨n1, n2, n3, n4⟩ := nN_spec h hA hT
  have hov := ov_le (sp := sp) (dr := dr) (b := b) (A := A) (T := T) (nN sp dr b A T)
  have hme := h.2.2.1
  have e : ¬ ovN sp dr b A T (nN sp dr b A T) = 0 := fun z => hne (by unfold fmN; rw [if_pos z])
  have ef : fmN sp dr me b A T = nN sp dr b A T + 1 - min (ovN sp dr b A T (nN sp dr b A T)) me := by unfold fmN; rw [if_neg e]
  refine ⟨by omega, by omega, n3, fun j h1 h2 => ?_⟩
  have hs := (ov_suf (sp := sp) (dr := dr) h.2.2.2 hA hT (nN sp dr b A T) j (by omega) h2).mpr (by omega)
  rcases cN_rng (sp := sp) (dr := dr) h.2.2.2 hA hT j with e | e
  · exact absurd e hs
  · exact e
theorem slkV_ne (h : okF sp dr me b) (hA : A < 16) (hT : T < 16) (hst : st ≤ 20) (hrc : rc ≤ 2) (hc : c < 16) (hne : ¬ fmN sp dr me b A T = 0) : -3 ≤ (slkV sp dr me b A T st rc c).toInt := by
  obtain ⟨f1, f2, f3, f4⟩ := fm_rng h hA hT hne
  unfold slkV
  rw [if_neg hne]
  obtain ⟨q, hq⟩ : ∃ q, nN sp dr b A T + 1 - fmN sp dr me b A T = q + 1 := ⟨nN sp dr b A T - fmN sp dr me b A T, by omega⟩
  rw [hq, slF]
  have h1 := vS1_ge (st := st) (rc := rc) (j := fmN sp dr me b A T) hst hrc hc (by omega) (f4 _ (Nat.le_refl _) f2)
  have h2 := (mx_ge (-100) (vS1 st rc c (cN sp dr b A T (fmN sp dr me b A T)) (fmN sp dr me b A T))).2
  have h3 := slF_ge (fun j => vS1 st rc c (cN sp dr b A T j) j) q (fmN sp dr me b A T + 1) (mx (-100) (vS1 st rc c (cN sp dr b A T (fmN sp dr me b A T)) (fmN sp dr me b A T)))
  exact Int.le_trans h1 (Int.le_trans h2 h3)
theorem comes6 {us : St} (h3 : us.2.1 3 p = nI st) (hp : p < 8) (hst : st ≤ 20) {j : Nat} (hj : j ≤ 60) : f_X6_comes us (nI p) (nI j) = some (nI (j * st / 10)) := by
  have hm : j * st ≤ 60 * 20 := Nat.mul_le_mul hj hst
  rw [f_X6_comes, ld_ok (okN hp (by decide)), nI_cl (by omega), h3, nI_mul, show (10 : Int32) = nI 10 from rfl, nI_div (by omega) (by decide)]
theorem slack3 (h : okF sp dr me b) (hA : A < 16) (hT : T < 16) {us : St} (h3 : us.2.1 3 p = nI st) (h1 : us.2.1 1 p = nI rc) (hp : p < 8) (hst : st ≤ 20) : f_X3_slackFor us (nI p) (nI c) (lN (pathN sp dr me b A T)) = some (slkV sp dr me b A T st rc c) := by
  rw [f_X3_slackFor, net0 h hA hT, bd_s]
  unfold slkV
  by_cases hne : fmN sp dr me b A T = 0
  · rw [if_pos hne, if_neg zne1, if_pos hne]
  · obtain ⟨f1, f2, f3, f4⟩ := fm_rng h hA hT hne
    rw [if_neg hne, if_pos rfl, f_X6_reachOf, ld_ok (okN hp (by decide)), nI_cl (by omega), h1, bd_s, met0 h hA hT, bd_s, if_neg hne]
    have loop : ∀ (q i fuel : Nat) (a : Int32), i + q = nN sp dr b A T + 1 → q < fuel → fmN sp dr me b A T ≤ i → f_X3_slackFor_30 us fuel (nI p) (nI c) (lN (pathN sp dr me b A T)) (nI rc) a (nI i) = some (slF (fun j => vS1 st rc c (cN sp dr b A T j) j) i q a) := by
      intro q
      induction q with
      | zero =>
        intro i fuel a hi hf hfi
        obtain ⟨f, rfl⟩ : ∃ f, fuel = f + 1 := ⟨fuel - 1, by omega⟩
        rw [f_X3_slackFor_30, land0 h hA hT, bd_s, if_pos (nI_lt (by omega) (by omega))]; rfl
      | succ q ih =>
        intro i fuel a hi hf hfi
        obtain ⟨f, rfl⟩ : ∃ f, fuel = f + 1 := ⟨fuel - 1, by omega⟩
        rw [f_X3_slackFor_30, land0 h hA hT, bd_s, if_neg (nI_nlt (by omega) (by omega)), cell0 h hA hT hfi (by omega) hne, bd_s, far2, bd_s, nm, nm, comes6 h3 hp hst (by omega), bd_s, nm, nm, nm, nI_1]
        exact ih (i + 1) f _ (by omega) (by omega) (by omega)
    exact loop (nN sp dr b A T + 1 - fmN sp dr me b A T) (fmN sp dr me b A T) FU (-100) (by omega) (by unfold FU; omega) (Nat.le_refl _)
theorem slack9 (h : okF sp dr me b) (hA : A < 16) (hT : T < 16) (hk : k < 4) {us um : St} (hs : RS us um) (h3 : us.2.1 3 p = nI st) (h1 : us.2.1 1 p = nI rc) (hp : p < 8) (hst : st ≤ 20) (hrc : rc ≤ 2) (h2 : um.2.1 2 k = nI me) (h8 : um.1 8 = nI (nN sp dr b A T)) (h7 : ∀ j, 1 ≤ j → j ≤ nN sp dr b A T → um.2.1 7 j = cN sp dr b A T j) : f_X9_slackOf um (nI p) (nI c) (nI k) = some (slkV sp dr me b A T st rc c) := by
  rw [f_X9_slackOf, first9 h hA hT hk h2 h8 h7, bd_s]
  unfold slkV
  by_cases hne : fmN sp dr me b A T = 0
  · obtain ⟨f0, hf0⟩ := FU_add 1 (by decide)
    have n := nN_spec h hA hT
    rw [if_pos hne, if_pos hne, hf0, f_X9_slackOf_15, h8, if_neg (by
      have t1 : (nI (nN sp dr b A T)).toInt = nN sp dr b A T := nI_toInt (by omega)
      have T1 : (-1 : Int32).toInt = -1 := by decide
      rw [Int32.lt_iff_toInt_lt, t1, T1]; omega), if_pos rfl]
  · obtain ⟨f1, f2, f3, f4⟩ := fm_rng h hA hT hne
    rw [if_neg hne, if_neg hne]
    have loop : ∀ (q i fuel : Nat) (a : Int32), i + q = nN sp dr b A T + 1 → q < fuel → fmN sp dr me b A T ≤ i → f_X9_slackOf_15 um fuel (nI p) (nI c) (nI (fmN sp dr me b A T)) a (nI i) = some (slF (fun j => vS1 st rc c (cN sp dr b A T j) j) i q a) := by
      intro q
      induction q with
      | zero =>
        intro i fuel a hi hf hfi
        obtain ⟨f, rfl⟩ : ∃ f, fuel = f + 1 := ⟨fuel - 1, by omega⟩
        rw [f_X9_slackOf_15, h8, if_pos (nI_lt (by omega) (by omega))]; rfl
      | succ q ih =>
        intro i fuel a hi hf hfi
        obtain ⟨f, rfl⟩ : ∃ f, fuel = f + 1 := ⟨fuel - 1, by omega⟩
        obtain ⟨d, hd, ed⟩ := f4 i hfi (by omega)
        have hm : i * st ≤ 60 * 20 := Nat.mul_le_mul (by omega) hst
        have ok64 : okI (nI i) 64 := okN (by omega) (by decide)
        have eo : f_X9_over0 um (nI p) (nI c) (nI i) = some (vS1 st rc c (cN sp dr b A T i) i) := by
          rw [f_X9_over0, ld_ok ok64, nI_cl (by omega), h7 i (by omega) (by omega), far9, bd_s, ld_ok (okN hp (by decide)), nI_cl (by omega), hs.2.1, h1, nm, stride9 hs hp, bd_s, h3, nI_mul, show (10 : Int32) = nI 10 from rfl, nI_div (by omega) (by decide)]
          unfold vS1 mx
          by_cases z : 0 < farV (nI c) (cN sp dr b A T i) - nI rc
          · rw [if_pos z, if_pos (Int32.le_of_lt z)]
          · rw [if_neg z]
            by_cases y : 0 ≤ farV (nI c) (cN sp dr b A T i) - nI rc
            · have : farV (nI c) (cN sp dr b A T i) - nI rc = 0 := by
                apply Int32.toInt_inj.mp
                simp only [Int32.le_iff_toInt_le, Int32.lt_iff_toInt_lt] at z y
                omega
              rw [if_pos y, this]
            · rw [if_neg y]
        rw [f_X9_slackOf_15, h8, if_neg (nI_nlt (by omega) (by omega)), if_neg (nI_inj_m1 (by omega)), ld_ok ok64, nI_cl (by omega), h7 i (by omega) (by omega), if_neg (by rw [ed]; exact nI_inj_m1 (by omega)), eo, bd_s, f_X9_slackOf_54]
        have em : mx a (vS1 st rc c (cN sp dr b A T i) i) = if vS1 st rc c (cN sp dr b A T i) i ≤ a then a else vS1 st rc c (cN sp dr b A T i) i := by
          unfold mx
          by_cases y : a < vS1 st rc c (cN sp dr b A T i) i
          · rw [if_pos y, if_neg (Int32.not_le.mpr y)]
          · rw [if_neg y, if_pos (Int32.not_lt.mp y)]
        have step := ih (i + 1) f (mx a (vS1 st rc c (cN sp dr b A T i) i)) (by omega) (by omega) (by omega)
        rw [em] at step
        rw [slF, em]
        by_cases y : vS1 st rc c (cN sp dr b A T i) i ≤ a
        · rw [if_pos y, f_X9_slackOf_70, nm, nI_1]; rw [if_pos y] at step ⊢; exact step
        · rw [if_neg y, f_X9_slackOf_70, nm, nI_1]; rw [if_neg y] at step ⊢; exact step
    exact loop (nN sp dr b A T + 1 - fmN sp dr me b A T) (fmN sp dr me b A T) FU (-100) (by omega) (by unfold FU; omega) (Nat.le_refl _)
end SK
