/-- PLAYERS as they run -/
def stV (p t : Int32) : Int32 := mx 1 (p * (200 - t) / 200)
def RS (us um : St) : Prop := um.2.1 4 = us.2.1 0 ∧ um.2.1 5 = us.2.1 1 ∧ um.2.1 6 = us.2.1 2 ∧
  (∀ j, j < 8 → (1 ≤ us.2.1 0 j ∧ us.2.1 0 j ≤ 20) ∧ (0 ≤ us.2.1 1 j ∧ us.2.1 1 j ≤ 2) ∧ (0 ≤ us.2.1 2 j ∧ us.2.1 2 j ≤ 100) ∧ us.2.1 3 j = stV (us.2.1 0 j) (us.2.1 2 j))
theorem RS.fr {us um um' : St} {I R : List Nat} (h : RS us um) (hf : Fr I R um um') (h1 : 4 ∉ R) (h2 : 5 ∉ R) (h3 : 6 ∉ R) : RS us um' := ⟨by rw [hf.2 4 h1]; exact h.1, by rw [hf.2 5 h2]; exact h.2.1, by rw [hf.2 6 h3]; exact h.2.2.1, h.2.2.2⟩
theorem nI_cl {j : Nat} (h : j < 2 ^ 31) : (nI j).toNatClampNeg = j := nI_clamp h
theorem stride9 {us um : St} (h : RS us um) {j : Nat} (hj : j < 8) : f_X9_stride um (nI j) = some (us.2.1 3 j) := by
  obtain ⟨h1, h2, h3, h4⟩ := h
  rw [f_X9_stride, ld_ok (okN hj (by decide)), ld_ok (okN hj (by decide)), nm, nI_cl (by omega), h1, h3, (h4 j hj).2.2.2]
  unfold stV mx
  split
  · rename_i q
    by_cases e : (1 : Int32) < us.2.1 0 j * (200 - us.2.1 2 j) / 200
    · rw [if_pos e]
    · rw [if_neg e]
      congr 1
      apply Int32.toInt_inj.mp
      simp only [Int32.le_iff_toInt_le, Int32.lt_iff_toInt_lt] at q e
      omega
  · rename_i q
    rw [if_neg (fun e => q (Int32.le_of_lt e))]
theorem setStride6 (us : St) {j : Nat} (hj : j < 8) : f_X6_setStride (nI j) us = some (st_r us 3 (upd (us.2.1 3) j (stV (us.2.1 0 j) (us.2.1 2 j)))) := by
  rw [f_X6_setStride, ld_ok (okN hj (by decide)), ld_ok (okN hj (by decide)), nm, nm, sti_ok (okN hj (by decide)), nI_cl (by omega)]
  rfl
theorem upd_eq (f : Nat → Int32) (k : Nat) (x : Int32) : upd f k x k = x := by simp [upd]
theorem upd_ne (f : Nat → Int32) {k j : Nat} (x : Int32) (h : j ≠ k) : upd f k x j = f j := by simp [upd, h]
theorem s_player {us um : St} (h : RS us um) (p0 p1 p2 : Int32) : ∃ r us' um', f_X8_player p0 p1 p2 us = some (r, us') ∧ f_X9_player p0 p1 p2 um = some (r, um') ∧ RS us' um' ∧ Fr [] [4, 5] um um' := by
  have fr0 : Fr [] [4, 5] um um := (Fr.refl um).mono (by simp) (by simp)
  rw [f_X8_player, f_X9_player]
  rcases gP p0 with ⟨a, b, e1, e2⟩ | ⟨e1, e2⟩
  · rw [e1, e2, bd_s, bd_s, if_neg zne1, if_neg zne1]
    rcases gd p1 1 20 with ⟨a1, b1, e1, e2⟩ | ⟨-, e1, e2⟩
    · rw [e1, e2, bd_s, bd_s, if_neg zne1, if_neg zne1]
      rcases gd p2 0 2 with ⟨a2, b2, e1, e2⟩ | ⟨-, e1, e2⟩
      · rw [e1, e2, bd_s, bd_s, if_neg zne1, if_neg zne1]
        obtain ⟨j, hj, rfl⟩ := asN a b (M := 7) (by decide)
        rw [f_X6_setPlayer, sti_ok (okN (show j < 8 by omega) (by decide)), sti_ok (okN (show j < 8 by omega) (by decide)), setStride6 _ (show j < 8 by omega), sti_ok (okN (show j < 8 by omega) (by decide)), sti_ok (okN (show j < 8 by omega) (by decide)), bd_s, bd_s, nI_cl (by omega)]
        refine ⟨_, _, _, rfl, rfl, ?_, ?_⟩
        · obtain ⟨h1, h2, h3, h4⟩ := h
          refine ⟨by simp [st_r, va_up, h1], by simp [st_r, va_up, h2], by simp [st_r, va_up, h3], fun i hi => ?_⟩
          by_cases e : i = j
          · subst e
            simp [st_r, va_up, upd, a1, b1, a2, b2, (h4 i hi).2.2.1]
          · simp [st_r, va_up, upd, e]
            simpa using h4 i hi
        · exact ((Fr.r um 4 _).mono (by simp) (by simp)).trans ((Fr.r _ 5 _).mono (by simp) (by simp))
      · rw [e1, e2, bd_s, bd_s, if_pos rfl, if_pos rfl]; exact ⟨_, _, _, rfl, rfl, h, fr0⟩
    · rw [e1, e2, bd_s, bd_s, if_pos rfl, if_pos rfl]; exact ⟨_, _, _, rfl, rfl, h, fr0⟩
  · rw [e1, e2, bd_s, bd_s, if_pos rfl, if_pos rfl]; exact ⟨_, _, _, rfl, rfl, h, fr0⟩
theorem ex1 {X : Type} {a b : Int32} {x : X} {P : X → Prop} (hab : a = b) (hp : P x) : ∃ x', some (a, x) = some (b, x') ∧ P x' := ⟨x, by rw [hab], hp⟩
theorem s_tire {us um : St} (h : RS us um) {j : Nat} (hj : j < 8) {d v : Int32} (hv : mx 0 (mn 100 (us.2.1 2 j + d)) = v) (h0 : 0 ≤ v) (h1 : v ≤ 100) : ∃ us', f_X6_tire (nI j) d us = some (v, us') ∧ RS us' (st_r um 6 (upd (um.2.1 6) j v)) := by
  rw [f_X6_tire, ld_ok (okN hj (by decide)), nm, nm, nm, sti_ok (okN hj (by decide)), setStride6 _ hj, bd_s, ld_ok (okN hj (by decide)), nI_cl (by omega), hv]
  refine ex1 (by simp [st_r, va_up, upd]) ?_
  · obtain ⟨g1, g2, g3, g4⟩ := h
    refine ⟨by simp [st_r, va_up, g1], by simp [st_r, va_up, g2], by simp [st_r, va_up, g3], fun i hi => ?_⟩
    by_cases e : i = j
    · subst e
      simp [st_r, va_up, upd, h0, h1, (g4 i hi).1, (g4 i hi).2.1]
    · simp [st_r, va_up, upd, e]
      simpa using g4 i hi
theorem tI_add {x y : Int32} (h : -(2:Int)^31 ≤ x.toInt + y.toInt) (h2 : x.toInt + y.toInt < (2:Int)^31) : (x + y).toInt = x.toInt + y.toInt := by
  rw [Int32.toInt_add]; exact Int.bmod_eq_of_le (by omega) (by omega)
theorem tI_sub {x y : Int32} (h : -(2:Int)^31 ≤ x.toInt - y.toInt) (h2 : x.toInt - y.toInt < (2:Int)^31) : (x - y).toInt = x.toInt - y.toInt := by
  rw [Int32.toInt_sub]; exact Int.bmod_eq_of_le (by omega) (by omega)
theorem tI_neg {x : Int32} (h : -(2:Int)^31 < x.toInt) : (-x).toInt = -x.toInt := by
  rw [Int32.toInt_neg]
  have := Int32.toInt_lt x
  exact Int.bmod_eq_of_le (by omega) (by omega)
theorem tI_mul {x y : Int32} (h : -(2:Int)^31 ≤ x.toInt * y.toInt) (h2 : x.toInt * y.toInt < (2:Int)^31) : (x * y).toInt = x.toInt * y.toInt := by
  rw [Int32.toInt_mul]; exact Int.bmod_eq_of_le (by omega) (by omega)
theorem s_run {us um : St} (h : RS us um) (p0 p1 : Int32) : ∃ r us' um', f_X8_run p0 p1 us = some (r, us') ∧ f_X9_run p0 p1 um = some (r, um') ∧ RS us' um' ∧ Fr [] [6] um um' := by
  have fr0 : Fr [] [6] um um := (Fr.refl um).mono (by simp) (by simp)
  rw [f_X8_run, f_X9_run]
  rcases gP p0 with ⟨a, b, e1, e2⟩ | ⟨e1, e2⟩
  · rw [e1, e2, bd_s, bd_s, if_neg zne1, if_neg zne1]
    rcases gd p1 0 100 with ⟨a1, b1, e1, e2⟩ | ⟨-, e1, e2⟩
    · rw [e1, e2, bd_s, bd_s, if_neg zne1, if_neg zne1]
      obtain ⟨j, hj, rfl⟩ := asN a b (M := 7) (by decide)
      have hj8 : j < 8 := by omega
      obtain ⟨g1, g2, g3, g4⟩ := id h
      obtain ⟨-, -, ⟨t0, t1⟩, -⟩ := g4 j hj8
      rw [ld_ok (okN hj8 (by decide)), nI_cl (by omega), g3]
      have T0 : (0 : Int32).toInt = 0 := by decide
      have T100 : (100 : Int32).toInt = 100 := by decide
      have hs : (us.2.1 2 j + p1).toInt = (us.2.1 2 j).toInt + p1.toInt := by
        simp only [Int32.le_iff_toInt_le, T0, T100] at t0 t1 a1 b1
        exact tI_add (by omega) (by omega)
      by_cases c : us.2.1 2 j + p1 ≤ 100
      · rw [if_pos c, ld_ok (okN hj8 (by decide)), nI_cl (by omega), f_X9_run_54, sti_ok (okN hj8 (by decide)), ld_ok (okN hj8 (by decide)), nI_cl (by omega)]
        obtain ⟨us', k1, k2⟩ := s_tire h hj8 (d := p1) (v := us.2.1 2 j + p1) (by
          unfold mx mn
          simp only [Int32.le_iff_toInt_le, T0, T100, hs] at t0 t1 a1 b1 c
          by_cases z : us.2.1 2 j + p1 < 100
          · rw [if_pos z]
            by_cases y : 0 < us.2.1 2 j + p1
            · rw [if_pos y]
            · rw [if_neg y]
              apply Int32.toInt_inj.mp
              simp only [Int32.lt_iff_toInt_lt, T0, hs] at y
              rw [hs, T0]; omega
          · rw [if_neg z, if_pos (by decide)]
            apply Int32.toInt_inj.mp
            simp only [Int32.lt_iff_toInt_lt, T100, hs] at z
            rw [hs, T100]; omega) (by
          simp only [Int32.le_iff_toInt_le, T0, T100] at t0 t1 a1 b1 ⊢
          omega) c
        rw [k1, bd2_s]
        refine ex2 ?_ k2 (Fr.r um 6 _)
        simp [st_r, va_up, upd, g3]
      · rw [if_neg c, f_X9_run_54, sti_ok (okN hj8 (by decide)), ld_ok (okN hj8 (by decide)), nI_cl (by omega)]
        obtain ⟨us', k1, k2⟩ := s_tire h hj8 (d := p1) (v := 100) (by
          unfold mx mn
          rw [if_neg (fun z => c (Int32.le_of_lt z)), if_pos (by decide)]) (by decide) (by decide)
        rw [k1, bd2_s]
        refine ex2 ?_ k2 (Fr.r um 6 _)
        simp [st_r, va_up, upd]
    · rw [e1, e2, bd_s, bd_s, if_pos rfl, if_pos rfl]; exact ⟨_, _, _, rfl, rfl, h, fr0⟩
  · rw [e1, e2, bd_s, bd_s, if_pos rfl, if_pos rfl]; exact ⟨_, _, _, rfl, rfl, h, fr0⟩
theorem s_rest {us um : St} (h : RS us um) (p0 p1 : Int32) : ∃ r us' um', f_X8_rest p0 p1 us = some (r, us') ∧ f_X9_rest p0 p1 um = some (r, um') ∧ RS us' um' ∧ Fr [] [6] um um' := by
  have fr0 : Fr [] [6] um um := (Fr.refl um).mono (by simp) (by simp)
  rw [f_X8_rest, f_X9_rest]
  rcases gP p0 with ⟨a, b, e1, e2⟩ | ⟨e1, e2⟩
  · rw [e1, e2, bd_s, bd_s, if_neg zne1, if_neg zne1]
    rcases gd p1 0 100 with ⟨a1, b1, e1, e2⟩ | ⟨-, e1, e2⟩
    · rw [e1, e2, bd_s, bd_s, if_neg zne1, if_neg zne1]
      obtain ⟨j, hj, rfl⟩ := asN a b (M := 7) (by decide)
      have hj8 : j < 8 := by omega
      obtain ⟨g1, g2, g3, g4⟩ := id h
      obtain ⟨-, -, ⟨t0, t1⟩, -⟩ := g4 j hj8
      rw [ld_ok (okN hj8 (by decide)), nI_cl (by omega), g3]
      have T0 : (0 : Int32).toInt = 0 := by decide
      have T100 : (100 : Int32).toInt = 100 := by decide
      simp only [Int32.le_iff_toInt_le, T0, T100] at t0 t1 a1 b1
      have hn : (-p1).toInt = -p1.toInt := tI_neg (by omega)
      have hs : (us.2.1 2 j + -p1).toInt = (us.2.1 2 j).toInt - p1.toInt := by
        rw [tI_add (by omega) (by omega), hn]; omega
      have hd : us.2.1 2 j - p1 = us.2.1 2 j + -p1 := Int32.sub_eq_add_neg _ _
      by_cases c : p1 ≤ us.2.1 2 j
      · rw [if_pos c, ld_ok (okN hj8 (by decide)), nI_cl (by omega), f_X9_rest_50, sti_ok (okN hj8 (by decide)), ld_ok (okN hj8 (by decide)), nI_cl (by omega), hd]
        simp only [Int32.le_iff_toInt_le] at c
        obtain ⟨us', k1, k2⟩ := s_tire h hj8 (d := -p1) (v := us.2.1 2 j + -p1) (by
          unfold mx mn
          by_cases z : us.2.1 2 j + -p1 < 100
          · rw [if_pos z]
            by_cases y : 0 < us.2.1 2 j + -p1
            · rw [if_pos y]
            · rw [if_neg y]
              apply Int32.toInt_inj.mp
              simp only [Int32.lt_iff_toInt_lt, T0, hs] at y
              rw [hs, T0]; omega
          · rw [if_neg z, if_pos (by decide)]
            apply Int32.toInt_inj.mp
            simp only [Int32.lt_iff_toInt_lt, T100, hs] at z
            rw [hs, T100]; omega) (by
          simp only [Int32.le_iff_toInt_le, T0, hs]; omega) (by
          simp only [Int32.le_iff_toInt_le, T100, hs]; omega)
        rw [k1, bd2_s]
        refine ex2 ?_ k2 (Fr.r um 6 _)
        simp [st_r, va_up, upd, g3]
      · rw [if_neg c, f_X9_rest_50, sti_ok (okN hj8 (by decide)), ld_ok (okN hj8 (by decide)), nI_cl (by omega)]
        simp only [Int32.le_iff_toInt_le] at c
        obtain ⟨us', k1, k2⟩ := s_tire h hj8 (d := -p1) (v := 0) (by
          unfold mx mn
          rw [if_pos (show us.2.1 2 j + -p1 < 100 by simp only [Int32.lt_iff_toInt_lt, T100, hs]; omega), if_neg (show ¬ 0 < us.2.1 2 j + -p1 by simp only [Int32.lt_iff_toInt_lt, T0, hs]; omega)]) (by decide) (by decide)
        rw [k1, bd2_s]
        refine ex2 ?_ k2 (Fr.r um 6 _)
        simp [st_r, va_up, upd]
    · rw [e1, e2, bd_s, bd_s, if_pos rfl, if_pos rfl]; exact ⟨_, _, _, rfl, rfl, h, fr0⟩
  · rw [e1, e2, bd_s, bd_s, if_pos rfl, if_pos rfl]; exact ⟨_, _, _, rfl, rfl, h, fr0⟩
