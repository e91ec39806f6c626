/-- AN EVENING: what both hold; the class's kept round apart -/
def b01 (f : Nat → Int32) : Prop := ∀ j, j < 8 → f j = 0 ∨ f j = 1
def thC (f : Nat → Int32) : Nat := cnt (fun i => decide (¬ f i = 0)) 8
def REb (ue um : St) : Prop := um.2.1 26 = ue.2.1 0 ∧ um.2.1 27 = ue.2.1 1 ∧ um.2.1 28 = ue.2.1 2 ∧ um.2.1 29 = ue.2.1 3 ∧ um.1 25 = ue.1 6 ∧ um.1 30 = ue.1 8 ∧ ue.1 7 = nI (thC (ue.2.1 0)) ∧ b01 (ue.2.1 0) ∧ (1 ≤ ue.1 6 ∧ ue.1 6 ≤ 4)
theorem REb.fr {ue um um' : St} {I R : List Nat} (h : REb ue um) (hf : Fr I R um um') (h1 : 25 ∉ I) (h2 : 30 ∉ I) (h3 : 26 ∉ R) (h4 : 27 ∉ R) (h5 : 28 ∉ R) (h6 : 29 ∉ R) : REb ue um' := by
  unfold REb
  rw [hf.1 25 h1, hf.1 30 h2, hf.2 26 h3, hf.2 27 h4, hf.2 28 h5, hf.2 29 h6]
  exact h
theorem thereMany_loop {um : St} : ∀ (q i fuel : Nat), i + q = 8 → q < fuel → f_X9_thereMany_4 um fuel (nI (cnt (fun i => decide (¬ um.2.1 26 i = 0)) i)) (nI i) = some (nI (thC (um.2.1 26))) := by
  intro q
  induction q with
  | zero =>
    intro i fuel hi hf
    obtain ⟨f, rfl⟩ : ∃ f, fuel = f + 1 := ⟨fuel - 1, by omega⟩
    have : i = 8 := by omega
    subst this
    rw [f_X9_thereMany_4, if_pos (by decide)]; rfl
  | succ q ih =>
    intro i fuel hi hf
    obtain ⟨f, rfl⟩ : ∃ f, fuel = f + 1 := ⟨fuel - 1, by omega⟩
    have step := ih (i + 1) f (by omega) (by omega)
    rw [cnt] at step
    rw [f_X9_thereMany_4, if_neg (show ¬ (8 : Int32) ≤ nI i from nI_ge (b := 8) (by omega) (by decide)), ld_ok (okN (show i < 8 by omega) (by decide)), nI_cl (by omega)]
    by_cases c : um.2.1 26 i = 0
    · rw [if_pos c, f_X9_thereMany_25, nm, nm, nI_1, Int32.add_zero]
      simpa [c] using step
    · rw [if_neg c, f_X9_thereMany_25, nm, nm, nI_1, nI_1]
      simpa [c] using step
theorem thereMany9 (um : St) : f_X9_thereMany um = some (nI (thC (um.2.1 26))) := by
  have := thereMany_loop (um := um) 8 0 FU (by omega) (by unfold FU; omega)
  rw [cnt, nI_0] at this
  exact this
theorem cnt_set {f : Nat → Int32} {j n : Nat} (hj : j < n) (h0 : f j = 0) : cnt (fun i => decide (¬ upd f j 1 i = 0)) n = cnt (fun i => decide (¬ f i = 0)) n + 1 := by
  induction n with
  | zero => omega
  | succ n ih =>
    rw [cnt, cnt]
    by_cases e : j = n
    · subst e
      rw [cnt_congr (Q := fun i => decide (¬ f i = 0)) (fun i hi => by simp [upd, Nat.ne_of_lt hi])]
      simp [upd, h0]
    · rw [ih (by omega)]
      simp [upd, show ¬ n = j from fun q => e q.symm]
      omega
theorem cnt_clr {f : Nat → Int32} {j n : Nat} (hj : j < n) (h0 : ¬ f j = 0) : cnt (fun i => decide (¬ upd f j 0 i = 0)) n + 1 = cnt (fun i => decide (¬ f i = 0)) n := by
  induction n with
  | zero => omega
  | succ n ih =>
    rw [cnt, cnt]
    by_cases e : j = n
    · subst e
      rw [cnt_congr (Q := fun i => decide (¬ f i = 0)) (fun i hi => by simp [upd, Nat.ne_of_lt hi])]
      simp [upd, h0]
    · have := ih (by omega)
      simp [upd, show ¬ n = j from fun q => e q.symm] at this ⊢
      omega
theorem thC_le (f : Nat → Int32) : thC f ≤ 8 := cnt_le _ 8
theorem b01_upd {f : Nat → Int32} (h : b01 f) (j : Nat) {v : Int32} (hv : v = 0 ∨ v = 1) : b01 (upd f j v) := by
  intro i hi
  by_cases e : i = j
  · subst e; simpa [upd] using hv
  · simpa [upd, e] using h i hi
theorem s_courts {ue um : St} (h : REb ue um) (p0 : Int32) : ∃ r ue' um', f_X8_courts p0 ue = some (r, ue') ∧ f_X9_courts p0 um = some (r, um') ∧ (REb ue' um' ∧ (ue' = ue ∨ ue'.1 9 = 0)) ∧ Fr [25] [] um um' := by
  have fr0 : Fr [25] [] um um := (Fr.refl um).mono (by simp) (by simp)
  obtain ⟨g1, g2, g3, g4, g5, g6, g7, g8, g9⟩ := id h
  rw [f_X8_courts, f_X9_courts]
  rcases gd p0 1 4 with ⟨a, b, e1, e2⟩ | ⟨-, e1, e2⟩
  · rw [e1, e2, bd_s, bd_s, if_neg zne1, if_neg zne1, f_X4_setCourts, nm, nm, nm, bd2_s]
    refine ex2 g5 ⟨⟨?_, ?_, ?_, ?_, ?_, ?_, ?_, ?_, ?_⟩, Or.inr ?_⟩ ((Fr.i um 25 _).mono (by simp) (by simp)) <;> simp [st_i, va_up, g1, g2, g3, g4, g6, g7, g8, a, b]
  · rw [e1, e2, bd_s, bd_s, if_pos rfl, if_pos rfl]
    exact ⟨_, _, _, rfl, rfl, ⟨h, Or.inl rfl⟩, fr0⟩
theorem s_come {ue um : St} (h : REb ue um) (p0 p1 : Int32) : ∃ r ue' um', f_X8_come p0 p1 ue = some (r, ue') ∧ f_X9_come p0 p1 um = some (r, um') ∧ (REb ue' um' ∧ (ue' = ue ∨ ue'.1 9 = 0)) ∧ Fr [] [26, 27, 28] um um' := by
  have fr0 : Fr [] [26, 27, 28] um um := (Fr.refl um).mono (by simp) (by simp)
  obtain ⟨g1, g2, g3, g4, g5, g6, g7, g8, g9⟩ := id h
  rw [f_X8_come, f_X9_come]
  rcases gP p0 with ⟨a, b, e1, e2⟩ | ⟨e1, e2⟩
  · rw [e1, e2, bd_s, bd_s, if_neg zne1, if_neg zne1]
    rcases gd p1 0 99 with ⟨a1, b1, e1, e2⟩ | ⟨-, e1, e2⟩
    · rw [e1, e2, bd_s, bd_s, if_neg zne1, if_neg zne1]
      obtain ⟨j, hj, rfl⟩ := asN a b (M := 7) (by decide)
      have hj8 : j < 8 := by omega
      have ok : okI (nI j) 8 := okN hj8 (by decide)
      rw [f_X4_isThere, ld_ok ok, ld_ok ok, nI_cl (by omega), g1]
      rcases g8 j hj8 with t | t
      · rw [t, bk_0, bd_s, if_pos rfl, if_pos rfl, f_X4_enter, stz_ok ok, sti_ok ok, sti_ok ok, nm, nm, bd2_s, stz_ok ok, sti_ok ok, sti_ok ok, nI_cl (by omega), nar_1, thereMany9, bd_s]
        have hc := cnt_set (f := ue.2.1 0) hj8 t
        have hc2 : nI (thC (ue.2.1 0)) + 1 = nI (thC (upd (ue.2.1 0) j 1)) := by
          unfold thC; rw [hc]; exact nI_1 _
        refine ex2 ?_ ⟨⟨?_, ?_, ?_, ?_, ?_, ?_, ?_, ?_, ?_⟩, Or.inr ?_⟩ ((((Fr.r um 26 _).mono (by simp) (by simp)).trans ((Fr.r _ 27 _).mono (by simp) (by simp))).trans ((Fr.r _ 28 _).mono (by simp) (by simp)))
        · simp [st_i, st_r, va_up, g1, g7, hc2]
        · simp [st_i, st_r, va_up, g1]
        · simp [st_i, st_r, va_up, g2]
        · simp [st_i, st_r, va_up, g3]
        · simp [st_i, st_r, va_up, g4]
        · simp [st_i, st_r, va_up, g5]
        · simp [st_i, st_r, va_up, g6]
        · simp [st_i, st_r, va_up, g7, hc2]
        · have := b01_upd g8 j (v := 1) (Or.inr rfl)
          simpa [st_i, st_r, va_up] using this
        · simpa [st_i, st_r, va_up] using g9
        · simp [st_i, va_up]
      · rw [t, bk_1, bd_s, if_neg zne1, if_neg zne1]
        exact ⟨_, _, _, rfl, rfl, ⟨h, Or.inl rfl⟩, fr0⟩
    · rw [e1, e2, bd_s, bd_s, if_pos rfl, if_pos rfl]; exact ⟨_, _, _, rfl, rfl, ⟨h, Or.inl rfl⟩, fr0⟩
  · rw [e1, e2, bd_s, bd_s, if_pos rfl, if_pos rfl]; exact ⟨_, _, _, rfl, rfl, ⟨h, Or.inl rfl⟩, fr0⟩
theorem s_leave {ue um : St} (h : REb ue um) (p0 : Int32) : ∃ r ue' um', f_X8_leave p0 ue = some (r, ue') ∧ f_X9_leave p0 um = some (r, um') ∧ (REb ue' um' ∧ (ue' = ue ∨ ue'.1 9 = 0)) ∧ Fr [] [26] um um' := by
  have fr0 : Fr [] [26] um um := (Fr.refl um).mono (by simp) (by simp)
  obtain ⟨g1, g2, g3, g4, g5, g6, g7, g8, g9⟩ := id h
  rw [f_X8_leave, f_X9_leave]
  rcases gP p0 with ⟨a, b, e1, e2⟩ | ⟨e1, e2⟩
  · rw [e1, e2, bd_s, bd_s, if_neg zne1, if_neg zne1]
    obtain ⟨j, hj, rfl⟩ := asN a b (M := 7) (by decide)
    have hj8 : j < 8 := by omega
    have ok : okI (nI j) 8 := okN hj8 (by decide)
    rw [f_X4_isThere, ld_ok ok, ld_ok ok, nI_cl (by omega), g1]
    rcases g8 j hj8 with t | t
    · rw [t, bk_0, bd_s, if_pos rfl, if_pos rfl]
      exact ⟨_, _, _, rfl, rfl, ⟨h, Or.inl rfl⟩, fr0⟩
    · rw [t, bk_1, bd_s, if_neg zne1, if_neg zne1, f_X4_exit, stz_ok ok, nm, nm, bd2_s, stz_ok ok, nI_cl (by omega), nar_0, thereMany9, bd_s]
      have hc := cnt_clr (f := ue.2.1 0) hj8 (by rw [t]; decide)
      have hc2 : nI (thC (ue.2.1 0)) - 1 = nI (thC (upd (ue.2.1 0) j 0)) := by
        unfold thC; rw [← hc]; exact nI_pred _
      refine ex2 ?_ ⟨⟨?_, ?_, ?_, ?_, ?_, ?_, ?_, ?_, ?_⟩, Or.inr ?_⟩ ((Fr.r um 26 _).mono (by simp) (by simp))
      · simp [st_i, st_r, va_up, g1, g7, hc2]
      · simp [st_i, st_r, va_up, g1]
      · simp [st_i, st_r, va_up, g2]
      · simp [st_i, st_r, va_up, g3]
      · simp [st_i, st_r, va_up, g4]
      · simp [st_i, st_r, va_up, g5]
      · simp [st_i, st_r, va_up, g6]
      · simp [st_i, st_r, va_up, g7, hc2]
      · have := b01_upd g8 j (v := 0) (Or.inl rfl)
        simpa [st_i, st_r, va_up] using this
      · simpa [st_i, st_r, va_up] using g9
      · simp [st_i, va_up]
  · rw [e1, e2, bd_s, bd_s, if_pos rfl, if_pos rfl]; exact ⟨_, _, _, rfl, rfl, ⟨h, Or.inl rfl⟩, fr0⟩
theorem s_had {ue um : St} (h : REb ue um) (p0 p1 : Int32) : ∃ r, f_X8_had ue p0 p1 = some r ∧ f_X9_had um p0 p1 = some r := by
  obtain ⟨g1, g2, g3, g4, g5, g6, g7, g8, g9⟩ := id h
  rw [f_X8_had, f_X9_had]
  rcases gP p0 with ⟨a, b, e1, e2⟩ | ⟨e1, e2⟩
  · rw [e1, e2, bd_s, bd_s, if_neg zne1, if_neg zne1]
    rcases gP p1 with ⟨a1, b1, e1, e2⟩ | ⟨e1, e2⟩
    · rw [e1, e2, bd_s, bd_s, if_neg zne1, if_neg zne1]
      by_cases q : p0 = p1
      · rw [if_pos q, if_pos q]; exact ⟨_, rfl, rfl⟩
      · rw [if_neg q, if_neg q, f_X4_gamesOfBoth]
        obtain ⟨j, hj, rfl⟩ := asN a b (M := 7) (by decide)
        obtain ⟨k, hk, rfl⟩ := asN a1 b1 (M := 7) (by decide)
        rw [show (8 : Int32) = nI 8 from rfl, nI_mul, nI_mul, nI_add, nI_add, Nat.mul_comm 8 j, ld_ok (okN (show j * 8 + k < 64 by omega) (by decide)), ld_ok (okN (show j * 8 + k < 64 by omega) (by decide)), g4, bd_s]
        exact ⟨_, rfl, rfl⟩
    · rw [e1, e2, bd_s, bd_s, if_pos rfl, if_pos rfl]; exact ⟨_, rfl, rfl⟩
  · rw [e1, e2, bd_s, bd_s, if_pos rfl, if_pos rfl]; exact ⟨_, rfl, rfl⟩
theorem gamesOf_loop {ue um : St} (g4 : um.2.1 29 = ue.2.1 3) {j : Nat} (hj : j < 8) : ∀ (q i f1 f2 : Nat) (v : Int32), i + q = 8 → q < f1 → q < f2 → ∃ r, f_X4_gamesOf_4 ue f1 (nI j) v (nI i) = some r ∧ f_X9_of_104 um f2 (nI j) v (nI i) = some r := by
  intro q
  induction q with
  | zero =>
    intro i f1 f2 v hi hf1 hf2
    obtain ⟨f1, rfl⟩ : ∃ f, f1 = f + 1 := ⟨f1 - 1, by omega⟩
    obtain ⟨f2, rfl⟩ : ∃ f, f2 = f + 1 := ⟨f2 - 1, by omega⟩
    have : i = 8 := by omega
    subst this
    rw [f_X4_gamesOf_4, f_X9_of_104, if_pos (by decide), if_pos (by decide)]
    exact ⟨_, rfl, rfl⟩
  | succ q ih =>
    intro i f1 f2 v hi hf1 hf2
    obtain ⟨f1, rfl⟩ : ∃ f, f1 = f + 1 := ⟨f1 - 1, by omega⟩
    obtain ⟨f2, rfl⟩ : ∃ f, f2 = f + 1 := ⟨f2 - 1, by omega⟩
    have hc : ¬ (8 : Int32) ≤ nI i := nI_ge (b := 8) (by omega) (by decide)
    rw [f_X4_gamesOf_4, f_X9_of_104, if_neg hc, if_neg hc, show (8 : Int32) = nI 8 from rfl, nI_mul, nI_mul, nI_add, nI_add, Nat.mul_comm 8 j, ld_ok (okN (show j * 8 + i < 64 by omega) (by decide)), ld_ok (okN (show j * 8 + i < 64 by omega) (by decide)), nm, nm, nm, nm, nI_1, g4]
    exact ih (i + 1) f1 f2 _ (by omega) (by omega) (by omega)
theorem s_of {us ue um : St} (h : REb ue um) (hs : RS us um) (p0 p1 : Int32) : ∃ r, f_X8_of us ue p0 p1 = some r ∧ f_X9_of um p0 p1 = some r := by
  obtain ⟨g1, g2, g3, g4, g5, g6, g7, g8, g9⟩ := id h
  rw [f_X8_of, f_X9_of]
  rcases gP p0 with ⟨a, b, e1, e2⟩ | ⟨e1, e2⟩
  · rw [e1, e2, bd_s, bd_s, if_neg zne1, if_neg zne1]
    obtain ⟨j, hj, rfl⟩ := asN a b (M := 7) (by decide)
    have hj8 : j < 8 := by omega
    have ok : okI (nI j) 8 := okN hj8 (by decide)
    by_cases q0 : p1 = 0
    · rw [if_pos q0, if_pos q0, stride9 hs hj8, f_X6_strideOf, ld_ok ok, nI_cl (by omega)]; exact ⟨_, rfl, rfl⟩
    · rw [if_neg q0, if_neg q0]
      by_cases q1 : p1 = 1
      · rw [if_pos q1, if_pos q1, f_X6_tiredOf, ld_ok ok, ld_ok ok, hs.2.2.1]; exact ⟨_, rfl, rfl⟩
      · rw [if_neg q1, if_neg q1]
        by_cases q2 : p1 = 2
        · rw [if_pos q2, if_pos q2, f_X4_waitedOf, g1, g3]
          simp only [ld_ok ok]
          by_cases t : ue.2.1 0 (nI j).toNatClampNeg = 0
          · rw [if_pos t]; exact ⟨_, rfl, rfl⟩
          · rw [if_neg t]; exact ⟨_, rfl, rfl⟩
        · rw [if_neg q2, if_neg q2]
          by_cases q3 : p1 = 3
          · rw [if_pos q3, if_pos q3, f_X4_gradeOf, g1, g2]
            simp only [ld_ok ok]
            by_cases t : ue.2.1 0 (nI j).toNatClampNeg = 0
            · rw [if_pos t]; exact ⟨_, rfl, rfl⟩
            · rw [if_neg t]; exact ⟨_, rfl, rfl⟩
          · rw [if_neg q3, if_neg q3]
            by_cases q4 : p1 = 4
            · rw [if_pos q4, if_pos q4, f_X4_gamesOf]
              obtain ⟨r, r1, r2⟩ := gamesOf_loop g4 hj8 8 0 FU FU 0 (by omega) (by unfold FU; omega) (by unfold FU; omega)
              rw [nI_0] at r1 r2
              rw [r1, r2]; exact ⟨_, rfl, rfl⟩
            · rw [if_neg q4, if_neg q4]; exact ⟨_, rfl, rfl⟩
  · rw [e1, e2, bd_s, bd_s, if_pos rfl, if_pos rfl]; exact ⟨_, rfl, rfl⟩
