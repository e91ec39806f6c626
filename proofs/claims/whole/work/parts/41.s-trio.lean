theorem ex2 {X Y : Type} {a b : Int32} {x : X} {y : Y} {P : X → Y → Prop} {Q : Y → Prop} (hab : b = a) (hp : P x y) (hq : Q y) : ∃ r x' y', some (a, x) = some (r, x') ∧ some (b, y) = some (r, y') ∧ P x' y' ∧ Q y' := ⟨a, x, y, rfl, by rw [hab], hp, hq⟩
theorem ok_lit {i : Int32} {n : Nat} (h : decide (i < 0 ∨ n ≤ i.toNatClampNeg) = false) : okI i n := of_decide_eq_false h
def alV (f : Nat → Int32) : Int32 := if f 1 ≤ f 0 then (if f 2 ≤ f 0 then 0 else 2) else (if f 2 ≤ f 1 then 1 else 2)
theorem alone7 (u : St) : f_X7_aloneNow u = some (alV (u.2.1 0)) := by
  obtain ⟨n, hn⟩ := FU_add 3 (by decide)
  rw [f_X7_aloneNow, hn]
  rw [f_X7_aloneNow_4, if_neg (by decide), ld_ok (ok_lit (by decide)), ld_ok (ok_lit (by decide))]
  have e0 : (0 : Int32).toNatClampNeg = 0 := by decide
  have e1 : (1 : Int32).toNatClampNeg = 1 := by decide
  have e2 : (2 : Int32).toNatClampNeg = 2 := by decide
  rw [e0, e1]
  unfold alV
  by_cases h1 : u.2.1 0 1 ≤ u.2.1 0 0
  · rw [if_pos h1, if_pos h1, f_X7_aloneNow_26, nm, show (1 : Int32) + 1 = 2 from by decide, f_X7_aloneNow_4, if_neg (by decide), ld_ok (ok_lit (by decide)), ld_ok (ok_lit (by decide)), e0, e2]
    by_cases h2 : u.2.1 0 2 ≤ u.2.1 0 0
    · rw [if_pos h2, if_pos h2, f_X7_aloneNow_26, nm, show (2 : Int32) + 1 = 3 from by decide, f_X7_aloneNow_4, if_pos (by decide)]
    · rw [if_neg h2, if_neg h2, f_X7_aloneNow_26, nm, show (2 : Int32) + 1 = 3 from by decide, f_X7_aloneNow_4, if_pos (by decide)]
  · rw [if_neg h1, if_neg h1, f_X7_aloneNow_26, nm, show (1 : Int32) + 1 = 2 from by decide, f_X7_aloneNow_4, if_neg (by decide), ld_ok (ok_lit (by decide)), ld_ok (ok_lit (by decide)), e1, e2]
    by_cases h2 : u.2.1 0 2 ≤ u.2.1 0 1
    · rw [if_pos h2, if_pos h2, f_X7_aloneNow_26, nm, show (2 : Int32) + 1 = 3 from by decide, f_X7_aloneNow_4, if_pos (by decide)]
    · rw [if_neg h2, if_neg h2, f_X7_aloneNow_26, nm, show (2 : Int32) + 1 = 3 from by decide, f_X7_aloneNow_4, if_pos (by decide)]
theorem alone9 (u : St) : f_X9_alone u = some (alV (u.2.1 14)) := by
  obtain ⟨n, hn⟩ := FU_add 3 (by decide)
  rw [f_X9_alone, hn]
  rw [f_X9_alone_4, if_neg (by decide), ld_ok (ok_lit (by decide)), ld_ok (ok_lit (by decide))]
  have e0 : (0 : Int32).toNatClampNeg = 0 := by decide
  have e1 : (1 : Int32).toNatClampNeg = 1 := by decide
  have e2 : (2 : Int32).toNatClampNeg = 2 := by decide
  rw [e0, e1]
  unfold alV
  by_cases h1 : u.2.1 14 1 ≤ u.2.1 14 0
  · rw [if_pos h1, if_pos h1, f_X9_alone_29, nm, show (1 : Int32) + 1 = 2 from by decide, f_X9_alone_4, if_neg (by decide), ld_ok (ok_lit (by decide)), ld_ok (ok_lit (by decide)), e0, e2]
    by_cases h2 : u.2.1 14 2 ≤ u.2.1 14 0
    · rw [if_pos h2, if_pos h2, f_X9_alone_29, nm, show (2 : Int32) + 1 = 3 from by decide, f_X9_alone_4, if_pos (by decide)]
    · rw [if_neg h2, if_neg h2, f_X9_alone_29, nm, show (2 : Int32) + 1 = 3 from by decide, f_X9_alone_4, if_pos (by decide)]
  · rw [if_neg h1, if_neg h1, f_X9_alone_29, nm, show (1 : Int32) + 1 = 2 from by decide, f_X9_alone_4, if_neg (by decide), ld_ok (ok_lit (by decide)), ld_ok (ok_lit (by decide)), e1, e2]
    by_cases h2 : u.2.1 14 2 ≤ u.2.1 14 1
    · rw [if_pos h2, if_pos h2, f_X9_alone_29, nm, show (2 : Int32) + 1 = 3 from by decide, f_X9_alone_4, if_pos (by decide)]
    · rw [if_neg h2, if_neg h2, f_X9_alone_29, nm, show (2 : Int32) + 1 = 3 from by decide, f_X9_alone_4, if_pos (by decide)]
theorem alV_cases (f : Nat → Int32) : alV f = 0 ∨ alV f = 1 ∨ alV f = 2 := by
  unfold alV
  by_cases h1 : f 1 ≤ f 0
  · rw [if_pos h1]
    by_cases h2 : f 2 ≤ f 0
    · rw [if_pos h2]; exact Or.inl rfl
    · rw [if_neg h2]; exact Or.inr (Or.inr rfl)
  · rw [if_neg h1]
    by_cases h2 : f 2 ≤ f 1
    · rw [if_pos h2]; exact Or.inr (Or.inl rfl)
    · rw [if_neg h2]; exact Or.inr (Or.inr rfl)
theorem alV_ok (f : Nat → Int32) : okI (alV f) 3 := by
  rcases alV_cases f with h | h | h <;> rw [h] <;> exact ok_lit (by decide)
def ovV (f : Nat → Int32) : Int32 := if 14 < f 0 ∨ 14 < f 1 ∨ 14 < f 2 then 1 else 0
theorem alV_max (f : Nat → Int32) : (15 ≤ f (alV f).toNatClampNeg) ↔ (14 < f 0 ∨ 14 < f 1 ∨ 14 < f 2) := by
  have e0 : (0 : Int32).toNatClampNeg = 0 := by decide
  have e1 : (1 : Int32).toNatClampNeg = 1 := by decide
  have e2 : (2 : Int32).toNatClampNeg = 2 := by decide
  have t15 : (15 : Int32).toInt = 15 := by decide
  have t14 : (14 : Int32).toInt = 14 := by decide
  unfold alV
  by_cases h1 : f 1 ≤ f 0
  · rw [if_pos h1]
    by_cases h2 : f 2 ≤ f 0
    · rw [if_pos h2, e0]
      simp only [Int32.le_iff_toInt_le, Int32.lt_iff_toInt_lt, t15, t14] at *
      omega
    · rw [if_neg h2, e2]
      simp only [Int32.le_iff_toInt_le, Int32.lt_iff_toInt_lt, t15, t14] at *
      omega
  · rw [if_neg h1]
    by_cases h2 : f 2 ≤ f 1
    · rw [if_pos h2, e1]
      simp only [Int32.le_iff_toInt_le, Int32.lt_iff_toInt_lt, t15, t14] at *
      omega
    · rw [if_neg h2, e2]
      simp only [Int32.le_iff_toInt_le, Int32.lt_iff_toInt_lt, t15, t14] at *
      omega
theorem over7 (u : St) : f_X7_isOver u = some (ovV (u.2.1 0)) := by
  rw [f_X7_isOver, alone7, bd_s, ld_ok (alV_ok _)]
  unfold ovV
  by_cases h : 15 ≤ u.2.1 0 (alV (u.2.1 0)).toNatClampNeg
  · rw [if_neg (Int32.not_lt.mpr h), if_pos ((alV_max _).mp h)]
  · rw [if_pos (Int32.not_le.mp h), if_neg (fun q => h ((alV_max _).mpr q))]
theorem over9 (u : St) : f_X9_isOver u = some (ovV (u.2.1 14)) := by
  have e0 : (0 : Int32).toNatClampNeg = 0 := by decide
  have e1 : (1 : Int32).toNatClampNeg = 1 := by decide
  have e2 : (2 : Int32).toNatClampNeg = 2 := by decide
  rw [f_X9_isOver, ld_ok (ok_lit (by decide)), e0]
  unfold ovV f_X9_isOver_33
  by_cases h0 : 14 < u.2.1 14 0
  · rw [if_pos h0, if_pos (Or.inl h0)]
  · rw [if_neg h0, ld_ok (ok_lit (by decide)), e1]
    by_cases h1 : 14 < u.2.1 14 1
    · rw [if_pos h1, if_pos (Or.inr (Or.inl h1))]
    · rw [if_neg h1, ld_ok (ok_lit (by decide)), e2]
      by_cases h2 : 14 < u.2.1 14 2
      · rw [if_neg (Int32.not_le.mpr h2), if_pos (Or.inr (Or.inr h2))]
      · rw [if_pos (Int32.not_lt.mp h2), if_neg (fun q => by rcases q with q | q | q <;> contradiction)]
theorem ovV_cases (f : Nat → Int32) : ovV f = 0 ∨ ovV f = 1 := by
  unfold ovV
  by_cases h : 14 < f 0 ∨ 14 < f 1 ∨ 14 < f 2
  · rw [if_pos h]; exact Or.inr rfl
  · rw [if_neg h]; exact Or.inl rfl
/-- THREE: class and reference hold the same -/
def RT (ut um : St) : Prop := um.2.1 14 = ut.2.1 0 ∧ um.1 15 = ut.1 1
theorem s_three {ut um : St} (h : RT ut um) (p0 : Int32) : ∃ r, f_X8_three ut p0 = some r ∧ f_X9_three um p0 = some r := by
  obtain ⟨h1, h2⟩ := h
  rw [f_X8_three, f_X9_three]
  rcases gd p0 0 2 with ⟨a, b, -, e2⟩ | ⟨hn, -, e2⟩
  · have b5 : p0 ≤ 5 := Int32.le_trans b (by decide)
    rcases gd p0 0 5 with ⟨-, -, e1, -⟩ | ⟨hn, -, -⟩
    · rw [e1, e2, bd_s, bd_s, if_neg zne1, if_neg zne1]
      have hne : ∀ k : Int32, 2 < k → ¬ p0 = k := fun k hk q => by
        subst q; exact absurd b (Int32.not_le.mpr hk)
      rw [f_X7_read, if_neg (hne 3 (by decide)), if_neg (hne 4 (by decide)), if_neg (hne 5 (by decide)), if_neg (Int32.not_lt.mpr a), if_neg (fun q => absurd (Int32.le_trans q b) (by decide)), ld_ok (okI_le a b (by decide)), ld_ok (okI_le a b (by decide)), h1]
      exact ⟨_, rfl, rfl⟩
    · exact absurd ⟨a, b5⟩ hn
  · rw [e2, bd_s, if_pos rfl]
    rcases gd p0 0 5 with ⟨a, b, e1, -⟩ | ⟨hm, e1, -⟩
    · rw [e1, bd_s, if_neg zne1, f_X7_read]
      by_cases q3 : p0 = 3
      · rw [if_pos q3, if_pos q3, alone7, alone9, h1]; exact ⟨_, rfl, rfl⟩
      · rw [if_neg q3, if_neg q3]
        by_cases q4 : p0 = 4
        · rw [if_pos q4, if_pos q4, h2]; exact ⟨_, rfl, rfl⟩
        · rw [if_neg q4, if_neg q4]
          by_cases q5 : p0 = 5
          · rw [if_pos q5, if_pos q5, over7, over9, h1, bd_s]
            rcases ovV_cases (ut.2.1 0) with o | o <;> rw [o]
            · exact ⟨0, rfl, rfl⟩
            · exact ⟨1, rfl, rfl⟩
          · exfalso
            have t : p0.toInt = 3 ∨ p0.toInt = 4 ∨ p0.toInt = 5 := by
              have t0 : (0 : Int32).toInt = 0 := by decide
              have t2 : (2 : Int32).toInt = 2 := by decide
              have t5 : (5 : Int32).toInt = 5 := by decide
              simp only [Int32.le_iff_toInt_le, t0, t2, t5] at *
              omega
            rcases t with t | t | t
            · exact q3 (Int32.toInt_inj.mp t)
            · exact q4 (Int32.toInt_inj.mp t)
            · exact q5 (Int32.toInt_inj.mp t)
    · rw [e1, bd_s, if_pos rfl]
      have k : ∀ c : Int32, 0 ≤ c → c ≤ 5 → ¬ p0 = c := fun c c0 c5 q => hm (by rw [q]; exact ⟨c0, c5⟩)
      rw [if_neg (k 3 (by decide) (by decide)), if_neg (k 4 (by decide) (by decide)), if_neg (k 5 (by decide) (by decide))]
      exact ⟨_, rfl, rfl⟩
/-- only the named places of the reference's state changed (its row of ways is never part of a relation) -/
def Fr (I R : List Nat) (um um' : St) : Prop := (∀ k, k ∉ I → um'.1 k = um.1 k) ∧ ∀ k, k ∉ R → um'.2.1 k = um.2.1 k
theorem Fr.refl (um : St) : Fr [] [] um um := ⟨fun _ _ => rfl, fun _ _ => rfl⟩
theorem Fr.mono {I R I' R' : List Nat} {um um' : St} (h : Fr I R um um') (hI : ∀ k ∈ I, k ∈ I') (hR : ∀ k ∈ R, k ∈ R') : Fr I' R' um um' := ⟨fun k hk => h.1 k (fun q => hk (hI k q)), fun k hk => h.2 k (fun q => hk (hR k q))⟩
theorem Fr.trans {I R : List Nat} {u v w : St} (h : Fr I R u v) (h2 : Fr I R v w) : Fr I R u w := ⟨fun k hk => (h2.1 k hk).trans (h.1 k hk), fun k hk => (h2.2 k hk).trans (h.2 k hk)⟩
theorem Fr.i (um : St) (k : Nat) (v : Int32) : Fr [k] [] um (st_i um k v) := ⟨fun j hj => up_ne _ _ (by simpa using hj), fun _ _ => rfl⟩
theorem Fr.r (um : St) (k : Nat) (f : Nat → Int32) : Fr [] [k] um (st_r um k f) := ⟨fun _ _ => rfl, fun j hj => up_ne _ _ (by simpa using hj)⟩
theorem Fr.l (um : St) (f : Nat → Int64) : Fr [] [] um (st_l um f) := ⟨fun _ _ => rfl, fun _ _ => rfl⟩
theorem asN {p m : Int32} (h0 : 0 ≤ p) (h1 : p ≤ m) {M : Nat} (hm : m.toInt = M) : ∃ j : Nat, j ≤ M ∧ p = nI j := by
  refine ⟨p.toNatClampNeg, ?_, ?_⟩
  · have := clampI p h0
    have := Int32.le_iff_toInt_le.mp h1
    omega
  · have h2 := clampI p h0
    have h3 := Int32.le_iff_toInt_le.mp h1
    apply Int32.toInt_inj.mp
    have h4 : p.toInt < 2 ^ 31 := Int32.toInt_lt p
    rw [nI_toInt (by omega)]
    omega
theorem okN {j n : Nat} (h : j < n) (hn : n < 2 ^ 31) : okI (nI j) n := nI_in h hn
theorem RT.fr {ut um um' : St} {I R : List Nat} (h : RT ut um) (hf : Fr I R um um') (h1 : 15 ∉ I) (h2 : 14 ∉ R) : RT ut um' := ⟨by rw [hf.2 14 h2]; exact h.1, by rw [hf.1 15 h1]; exact h.2⟩
theorem s_again {ut um : St} (h : RT ut um) : ∃ r ut' um', f_X8_again ut = some (r, ut') ∧ f_X9_again um = some (r, um') ∧ RT ut' um' ∧ Fr [15] [14] um um' := by
  obtain ⟨h1, h2⟩ := h
  have e0 : (0 : Int32).toNatClampNeg = 0 := by decide
  have e1 : (1 : Int32).toNatClampNeg = 1 := by decide
  have e2 : (2 : Int32).toNatClampNeg = 2 := by decide
  obtain ⟨n, hn⟩ := FU_add 4 (by decide)
  rw [f_X8_again, f_X7_restart, hn, f_X9_again]
  rw [f_X7_restart_4, if_neg (by decide), ld_ok (ok_lit (by decide)), e0, nm, sti_ok (ok_lit (by decide)), e0, nm, show (0 : Int32) + 1 = 1 from by decide]
  rw [f_X7_restart_4, if_neg (by decide), ld_ok (ok_lit (by decide)), e1, nm, sti_ok (ok_lit (by decide)), e1, nm, show (1 : Int32) + 1 = 2 from by decide]
  rw [f_X7_restart_4, if_neg (by decide), ld_ok (ok_lit (by decide)), e2, nm, sti_ok (ok_lit (by decide)), e2, nm, show (2 : Int32) + 1 = 3 from by decide]
  rw [f_X7_restart_4, if_pos (by decide), nm, bd2_s]
  rw [ld_ok (ok_lit (by decide)), ld_ok (ok_lit (by decide)), ld_ok (ok_lit (by decide)), nm, sti_ok (ok_lit (by decide)), sti_ok (ok_lit (by decide)), sti_ok (ok_lit (by decide)), nm, e0, e1, e2, h1]
  refine ex2 ?_ ?_ ?_
  · simp [st_r, va_up, upd]
  · constructor <;> simp [st_r, st_i, va_up, h1]
  · exact ((((Fr.r um 14 _).mono (by simp) (by simp)).trans ((Fr.r _ 14 _).mono (by simp) (by simp))).trans ((Fr.r _ 14 _).mono (by simp) (by simp))).trans ((Fr.i _ 15 _).mono (by simp) (by simp))
theorem s_tell52 {ut um : St} (h1 : um.2.1 14 = ut.2.1 0) {a b : Int32} (ha : okI a 3) (hb : okI b 3) : ∃ r ut' um', f_X7_tell_52 a b ut = some (r, ut') ∧ f_X9_rally_71 a b um = some (r, um') ∧ RT ut' um' ∧ Fr [15] [14] um um' := by
  rw [f_X7_tell_52, f_X9_rally_71, ld_ok ha, sti_ok ha, ld_ok hb, sti_ok hb, ld_ok hb, ld_ok ha, ld_ok ha, sti_ok ha, ld_ok hb, sti_ok hb, ld_ok hb, ld_ok ha]
  simp only [f_X7_tell_98, f_X9_rally_117, nm, st_r_2, st_r_1, up_eq, h1]
  split
  · refine ex2 ?_ ⟨?_, ?_⟩ ?_
    · simp [st_i, va_up]
    · simp [st_r, st_i, va_up]
    · simp [st_r, st_i, va_up]
    · exact (((Fr.r um 14 _).mono (by simp) (by simp)).trans ((Fr.r _ 14 _).mono (by simp) (by simp))).trans ((Fr.i _ 15 _).mono (by simp) (by simp))
  · refine ex2 ?_ ⟨?_, ?_⟩ ?_
    · simp [st_i, va_up]
    · simp [st_r, st_i, va_up]
    · simp [st_r, st_i, va_up]
    · exact (((Fr.r um 14 _).mono (by simp) (by simp)).trans ((Fr.r _ 14 _).mono (by simp) (by simp))).trans ((Fr.i _ 15 _).mono (by simp) (by simp))
theorem s_rally {ut um : St} (h : RT ut um) (p0 : Int32) : ∃ r ut' um', f_X8_rally p0 ut = some (r, ut') ∧ f_X9_rally p0 um = some (r, um') ∧ RT ut' um' ∧ Fr [15] [14] um um' := by
  obtain ⟨h1, h2⟩ := h
  have fr0 : Fr [15] [14] um um := (Fr.refl um).mono (by simp) (by simp)
  rw [f_X8_rally, f_X9_rally]
  rcases gd p0 0 2 with ⟨a, b, e1, e2⟩ | ⟨-, e1, e2⟩
  · rw [e1, e2, bd_s, bd_s, if_neg zne1, if_neg zne1, over7, over9, bd_s, bd_s, h1]
    rcases ovV_cases (ut.2.1 0) with o | o
    · rw [o, if_pos rfl, if_pos rfl, f_X7_tell, alone7, alone9, bd_s, bd_s, h1]
      have ok := alV_ok (ut.2.1 0)
      have hc := alV_cases (ut.2.1 0)
      generalize alV (ut.2.1 0) = z at ok hc ⊢
      by_cases q0 : p0 = 0
      · rw [if_pos q0, if_pos q0, ld_ok ok, sti_ok ok, nm, ld_ok ok, sti_ok ok, nm, bd2_s, f_X9_rally_46, if_neg (by rw [q0]; decide)]
        refine ex2 ?_ ⟨?_, ?_⟩ ?_
        · simp [st_i, va_up]
        · simp [st_r, st_i, va_up, h1]
        · simp [st_r, st_i, va_up]
        · exact ((Fr.r um 14 _).mono (by simp) (by simp)).trans ((Fr.i _ 15 _).mono (by simp) (by simp))
      · rw [if_neg q0, if_neg q0, f_X9_rally_46]
        by_cases q1 : p0 = 1
        · rw [if_pos q1, if_pos q1]
          rcases hc with hc | hc | hc <;> subst hc
          · rw [if_pos rfl, if_pos rfl, f_X7_tell_41, f_X9_rally_60, if_neg (by decide), if_neg (by decide)]
            obtain ⟨r, ut', um', x1, x2, x3, x4⟩ := s_tell52 h1 (a := 1) (b := 2) (ok_lit (by decide)) (ok_lit (by decide))
            rw [x1, x2, bd2_s]; exact ⟨_, _, _, rfl, rfl, x3, x4⟩
          · rw [if_neg (by decide), if_neg (by decide), f_X7_tell_41, f_X9_rally_60, if_neg (by decide), if_neg (by decide)]
            obtain ⟨r, ut', um', x1, x2, x3, x4⟩ := s_tell52 h1 (a := 0) (b := 2) (ok_lit (by decide)) (ok_lit (by decide))
            rw [x1, x2, bd2_s]; exact ⟨_, _, _, rfl, rfl, x3, x4⟩
          · rw [if_neg (by decide), if_neg (by decide), f_X7_tell_41, f_X9_rally_60, if_pos rfl, if_pos rfl]
            obtain ⟨r, ut', um', x1, x2, x3, x4⟩ := s_tell52 h1 (a := 0) (b := 1) (ok_lit (by decide)) (ok_lit (by decide))
            rw [x1, x2, bd2_s]; exact ⟨_, _, _, rfl, rfl, x3, x4⟩
        · rw [if_neg q1, if_neg q1, bd2_s, h2]
          exact ⟨_, _, _, rfl, rfl, ⟨h1, h2⟩, fr0⟩
    · rw [o, if_neg zne1, if_neg zne1]
      exact ⟨_, _, _, rfl, rfl, ⟨h1, h2⟩, fr0⟩
  · rw [e1, e2, bd_s, bd_s, if_pos rfl, if_pos rfl]
    exact ⟨_, _, _, rfl, rfl, ⟨h1, h2⟩, fr0⟩
