theorem nI_mul (a b : Nat) : nI a * nI b = nI (a * b) := (Int32.ofNat_mul a b).symm
theorem nI_sub {a b : Nat} (h : b ≤ a) : nI a - nI b = nI (a - b) := by
  have e : nI a = nI (a - b) + nI b := by rw [nI_add]; congr 1; omega
  rw [e]; exact Int32.add_sub_cancel _ _
theorem nI_div {a b : Nat} (ha : a < 2 ^ 31) (hb : b < 2 ^ 31) : nI a / nI b = nI (a / b) := by
  apply Int32.toInt_inj.mp
  have h1 : a / b ≤ a := Nat.div_le_self a b
  rw [Int32.toInt_div, nI_toInt ha, nI_toInt hb, nI_toInt (by omega)]
  have h2 : (a : Int).tdiv (b : Int) = ((a / b : Nat) : Int) := by
    rw [Int.tdiv_eq_ediv_of_nonneg (by omega)]; rfl
  rw [h2]
  clear h2
  generalize a / b = z at h1 ⊢
  exact Int.bmod_eq_of_le (by omega) (by omega)
theorem nI_mod {a b : Nat} (ha : a < 2 ^ 31) (hb : b < 2 ^ 31) : nI a - nI a / nI b * nI b = nI (a % b) := by
  rw [nI_div ha hb, nI_mul, nI_sub (Nat.div_mul_le_self a b)]
  congr 1
  have := Nat.div_add_mod a b
  rw [Nat.mul_comm] at this
  omega
/-- FEATHERS that are bought, and the PLAN -/
def RB (ub um : St) : Prop := um.1 20 = ub.1 4 ∧ um.1 21 = ub.1 5 ∧ um.2.1 22 = ub.2.1 0 ∧ um.1 23 = ub.1 3 ∧ um.2.1 24 = ub.2.1 1 ∧ ∃ n, n ≤ 30 ∧ ub.1 3 = nI n ∧ ∀ j, j < n → ∃ k, k ≤ 3 ∧ ub.2.1 1 j = nI k
theorem RB.fr {ub um um' : St} {I R : List Nat} (h : RB ub um) (hf : Fr I R um um') (h1 : 20 ∉ I) (h2 : 21 ∉ I) (h3 : 22 ∉ R) (h4 : 23 ∉ I) (h5 : 24 ∉ R) : RB ub um' := by
  obtain ⟨a, b, c, d, e, f⟩ := h
  exact ⟨by rw [hf.1 20 h1]; exact a, by rw [hf.1 21 h2]; exact b, by rw [hf.2 22 h3]; exact c, by rw [hf.1 23 h4]; exact d, by rw [hf.2 24 h5]; exact e, f⟩
theorem s_cost {ub um : St} (h : RB ub um) (p0 p1 : Int32) : ∃ r ub' um', f_X8_cost p0 p1 ub = some (r, ub') ∧ f_X9_cost p0 p1 um = some (r, um') ∧ RB ub' um' ∧ Fr [20, 21] [] um um' := by
  have fr0 : Fr [20, 21] [] um um := (Fr.refl um).mono (by simp) (by simp)
  obtain ⟨a, b, c, d, e, f⟩ := id h
  rw [f_X8_cost, f_X9_cost]
  rcases gd p0 0 1 with ⟨x0, x1, e1, -⟩ | ⟨hn, e1, -⟩
  · rw [e1, bd_s, if_neg zne1]
    by_cases q0 : p0 = 0
    · rw [if_pos q0, if_pos q0]
      rcases gd p1 1 999 with ⟨_, _, e1, e2⟩ | ⟨_, e1, e2⟩
      · rw [e1, e2, bd_s, bd_s, if_neg zne1, if_neg zne1, f_X1_setPrice, nm, nm, bd2_s]
        refine ex2 a ⟨?_, ?_, ?_, ?_, ?_, ?_⟩ ((Fr.i um 20 _).mono (by simp) (by simp)) <;> simp [st_i, va_up, a, b, c, d, e, f]
      · rw [e1, e2, bd_s, bd_s, if_pos rfl, if_pos rfl, f_X9_cost_27, if_neg (by rw [q0]; decide)]
        exact ⟨_, _, _, rfl, rfl, h, fr0⟩
    · have q1 : p0 = 1 := by
        apply Int32.toInt_inj.mp
        have T0 : (0 : Int32).toInt = 0 := by decide
        have T1 : (1 : Int32).toInt = 1 := by decide
        have q2 : ¬ p0.toInt = 0 := fun z => q0 (Int32.toInt_inj.mp (by rw [z, T0]))
        simp only [Int32.le_iff_toInt_le, T0, T1] at x0 x1
        omega
      rw [if_neg q0, if_neg q0, f_X9_cost_27, if_pos q1]
      rcases gd p1 0 99 with ⟨_, _, e1, e2⟩ | ⟨_, e1, e2⟩
      · rw [e1, e2, bd_s, bd_s, if_neg zne1, if_neg zne1, f_X1_setLoss, nm, nm, bd2_s]
        refine ex2 b ⟨?_, ?_, ?_, ?_, ?_, ?_⟩ ((Fr.i um 21 _).mono (by simp) (by simp)) <;> simp [st_i, va_up, a, b, c, d, e, f]
      · rw [e1, e2, bd_s, bd_s, if_pos rfl, if_pos rfl]
        exact ⟨_, _, _, rfl, rfl, h, fr0⟩
  · rw [e1, bd_s, if_pos rfl, if_neg (fun q => hn (by rw [q]; decide)), f_X9_cost_27, if_neg (fun q => hn (by rw [q]; decide))]
    exact ⟨_, _, _, rfl, rfl, h, fr0⟩
theorem s_wear {ub um : St} (h : RB ub um) (p0 p1 : Int32) : ∃ r ub' um', f_X8_wear p0 p1 ub = some (r, ub') ∧ f_X9_wear p0 p1 um = some (r, um') ∧ RB ub' um' ∧ Fr [] [22] um um' := by
  have fr0 : Fr [] [22] um um := (Fr.refl um).mono (by simp) (by simp)
  obtain ⟨a, b, c, d, e, f⟩ := id h
  rw [f_X8_wear, f_X9_wear]
  rcases gK p0 with ⟨x0, x1, e1, e2⟩ | ⟨e1, e2⟩
  · rw [e1, e2, bd_s, bd_s, if_neg zne1, if_neg zne1]
    rcases gd p1 0 9 with ⟨_, _, e1, e2⟩ | ⟨_, e1, e2⟩
    · have ok : okI p0 4 := okI_le x0 x1 (by decide)
      rw [e1, e2, bd_s, bd_s, if_neg zne1, if_neg zne1, f_X1_setWear, ld_ok ok, sti_ok ok, ld_ok ok, sti_ok ok, bd2_s]
      refine ex2 (by rw [c]) ⟨?_, ?_, ?_, ?_, ?_, ?_⟩ ((Fr.r um 22 _).mono (by simp) (by simp)) <;> simp [st_r, va_up, a, b, c, d, e, f]
    · rw [e1, e2, bd_s, bd_s, if_pos rfl, if_pos rfl]; exact ⟨_, _, _, rfl, rfl, h, fr0⟩
  · rw [e1, e2, bd_s, bd_s, if_pos rfl, if_pos rfl]; exact ⟨_, _, _, rfl, rfl, h, fr0⟩
theorem s_plan {ub um : St} (h : RB ub um) (p0 : Int32) : ∃ r ub' um', f_X8_plan p0 ub = some (r, ub') ∧ f_X9_plan p0 um = some (r, um') ∧ RB ub' um' ∧ Fr [23] [24] um um' := by
  have fr0 : Fr [23] [24] um um := (Fr.refl um).mono (by simp) (by simp)
  obtain ⟨a, b, c, d, e, n, hn, hl, hk⟩ := id h
  rw [f_X8_plan, f_X9_plan]
  rcases gK p0 with ⟨x0, x1, e1, e2⟩ | ⟨e1, e2⟩
  · rw [e1, e2, bd_s, bd_s, if_neg zne1, if_neg zne1, f_X1_add, d, hl]
    by_cases q : n < 30
    · rw [if_pos (show nI n < 30 from nI_lt (b := 30) q (by decide)), if_neg (fun z => by
        have : n = 30 := (nI_eq (by omega) (by decide)).mp (show nI n = nI 30 from z)
        omega), sti_ok (okN q (by decide)), sti_ok (okN q (by decide)), nm, nm, bd2_s, nI_cl (by omega)]
      refine ex2 ?_ ⟨?_, ?_, ?_, ?_, ?_, ?_⟩ (((Fr.r um 24 _).mono (by simp) (by simp)).trans ((Fr.i _ 23 _).mono (by simp) (by simp)))
      · simp [st_r, st_i, va_up, d]
      · simp [st_r, st_i, va_up, a]
      · simp [st_r, st_i, va_up, b]
      · simp [st_r, st_i, va_up, c]
      · simp [st_r, st_i, va_up, d]
      · simp [st_r, st_i, va_up, e]
      · refine ⟨n + 1, by omega, ?_, fun j hj => ?_⟩
        · simp [st_r, st_i, va_up, hl, nI_1]
        · by_cases z : j = n
          · subst z
            obtain ⟨k, k3, rfl⟩ := asN x0 x1 (M := 3) (by decide)
            exact ⟨k, k3, by simp [st_r, st_i, va_up, upd]⟩
          · obtain ⟨k, k3, k4⟩ := hk j (by omega)
            exact ⟨k, k3, by simp [st_r, st_i, va_up, upd, z, k4]⟩
    · have : n = 30 := by omega
      subst this
      rw [if_neg (by decide), if_pos (by decide), bd2_s]
      exact ⟨_, _, _, rfl, rfl, h, fr0⟩
  · rw [e1, e2, bd_s, bd_s, if_pos rfl, if_pos rfl]; exact ⟨_, _, _, rfl, rfl, h, fr0⟩
theorem s_unplan {ub um : St} (h : RB ub um) : ∃ r ub' um', f_X8_unplan ub = some (r, ub') ∧ f_X9_unplan um = some (r, um') ∧ RB ub' um' ∧ Fr [23] [] um um' := by
  obtain ⟨a, b, c, d, e, f⟩ := id h
  rw [f_X8_unplan, f_X9_unplan, f_X1_clear, nm, nm, bd2_s]
  refine ex2 d ⟨?_, ?_, ?_, ?_, ?_, ?_⟩ ((Fr.i um 23 _).mono (by simp) (by simp))
  · simp [st_i, va_up, a]
  · simp [st_i, va_up, b]
  · simp [st_i, c]
  · simp [st_i, va_up]
  · simp [st_i, e]
  · exact ⟨0, by omega, by simp [st_i, va_up, nI_0], fun j hj => by omega⟩
def cW (w pl : Nat → Int32) (n : Nat) : Nat → Int32
  | 0 => 0
  | i + 1 => cW w pl n i + w (pl (i % n)).toNatClampNeg
def cS (P L : Int32) (w pl : Nat → Int32) (n : Nat) : Nat → Int32
  | 0 => P
  | i + 1 => cS P L w pl n i + L * mn 8 (cW w pl n i / 10)
theorem mn8 (v : Int32) : (if v ≤ 8 then v else 8) = mn 8 v := by
  unfold mn
  by_cases h : v < 8
  · rw [if_pos h, if_pos (Int32.le_of_lt h)]
  · rw [if_neg h]
    by_cases k : v ≤ 8
    · rw [if_pos k]
      apply Int32.toInt_inj.mp
      simp only [Int32.le_iff_toInt_le, Int32.lt_iff_toInt_lt] at h k
      omega
    · rw [if_neg k]
theorem costsOf_loop {um : St} {n : Nat} (hn0 : 0 < n) (hn : n ≤ 30) (h3 : um.1 23 = nI n) (hk : ∀ j, j < n → ∃ k, k ≤ 3 ∧ um.2.1 24 j = nI k) (m : Nat) (hm : m ≤ 120) :
    ∀ (q i fuel : Nat), i + q = m → q < fuel → f_X9_costsOf_10 um fuel (nI m) (cS (um.1 20) (um.1 21) (um.2.1 22) (um.2.1 24) n i) (cW (um.2.1 22) (um.2.1 24) n i) (nI i) = some (cS (um.1 20) (um.1 21) (um.2.1 22) (um.2.1 24) n m) := by
  intro q
  induction q with
  | zero =>
    intro i fuel hi hf
    obtain ⟨f, rfl⟩ : ∃ f, fuel = f + 1 := ⟨fuel - 1, by omega⟩
    have : i = m := by omega
    subst this
    rw [f_X9_costsOf_10, if_pos (nI_le (Nat.le_refl _) (by omega))]
  | succ q ih =>
    intro i fuel hi hf
    obtain ⟨f, rfl⟩ : ∃ f, fuel = f + 1 := ⟨fuel - 1, by omega⟩
    have hmod : i % n < n := Nat.mod_lt _ hn0
    obtain ⟨k, k3, k4⟩ := hk (i % n) hmod
    rw [f_X9_costsOf_10, if_neg (nI_ge (by omega) (by omega)), nm]
    have key : ∀ v, f_X9_costsOf_41 um (f_X9_costsOf_10 um f) (nI m) (cW (um.2.1 22) (um.2.1 24) n i) (nI i) v (um.1 21) (cS (um.1 20) (um.1 21) (um.2.1 22) (um.2.1 24) n i) = f_X9_costsOf_10 um f (nI m) (cS (um.1 20) (um.1 21) (um.2.1 22) (um.2.1 24) n i + um.1 21 * v) (cW (um.2.1 22) (um.2.1 24) n (i + 1)) (nI (i + 1)) := by
      intro v
      rw [f_X9_costsOf_41, nm, h3, dv_ok (nI_ne0 hn0 (by omega)), nI_mod (by omega) (by omega), ld_ok (okN (show i % n < 30 by omega) (by decide)), nI_cl (by omega), k4, ld_ok (okN (show k < 4 by omega) (by decide)), nm, nm, nI_1, cW, k4]
    have e := mn8 (cW (um.2.1 22) (um.2.1 24) n i / 10)
    by_cases c : cW (um.2.1 22) (um.2.1 24) n i / 10 ≤ 8
    · rw [if_pos c, key]
      rw [if_pos c] at e
      have := ih (i + 1) f (by omega) (by omega)
      rw [cS, ← e] at this
      exact this
    · rw [if_neg c, key]
      rw [if_neg c] at e
      have := ih (i + 1) f (by omega) (by omega)
      rw [cS, ← e] at this
      exact this
theorem costsOf9 {um : St} {n : Nat} (hn0 : 0 < n) (hn : n ≤ 30) (h3 : um.1 23 = nI n) (hk : ∀ j, j < n → ∃ k, k ≤ 3 ∧ um.2.1 24 j = nI k) {m : Nat} (hm : m ≤ 120) : f_X9_costsOf um (nI m) = some (cS (um.1 20) (um.1 21) (um.2.1 22) (um.2.1 24) n m) := by
  rw [f_X9_costsOf]
  have := costsOf_loop hn0 hn h3 hk m hm m 0 FU (by omega) (by unfold FU; omega)
  rw [cS, cW, nI_0] at this
  exact this
theorem addUp_loop {P L : Int32} {w pl : Nat → Int32} {n : Nat} (hn0 : 0 < n) (hn : n ≤ 30) (hk : ∀ j, j < n → ∃ k, k ≤ 3 ∧ pl j = nI k) (m : Nat) (hm : m ≤ 120) :
    ∀ (q i fuel : Nat) (u : St), i + q = m → q < fuel → u.1 3 = nI n → u.1 5 = L → u.2.1 0 = w → u.2.1 1 = pl → (∀ j, j ≤ i → u.2.1 2 j = cS P L w pl n j) →
    ∃ u', f_X1_addUp_17 fuel (nI m) (cW w pl n i) (nI (i % n)) (nI (i + 1)) u = some u' ∧ (∀ j, j ≤ m → u'.2.1 2 j = cS P L w pl n j) ∧ u'.1 = u.1 ∧ u'.2.1 0 = u.2.1 0 ∧ u'.2.1 1 = u.2.1 1 := by
  intro q
  induction q with
  | zero =>
    intro i fuel u hi hf h3 h5 h0 h1 hs
    obtain ⟨f, rfl⟩ : ∃ f, fuel = f + 1 := ⟨fuel - 1, by omega⟩
    have : i = m := by omega
    subst this
    rw [f_X1_addUp_17, if_pos (nI_lt (by omega) (by omega))]
    exact ⟨u, rfl, hs, rfl, rfl, rfl⟩
  | succ q ih =>
    intro i fuel u hi hf h3 h5 h0 h1 hs
    obtain ⟨f, rfl⟩ : ∃ f, fuel = f + 1 := ⟨fuel - 1, by omega⟩
    have hmod : i % n < n := Nat.mod_lt _ hn0
    obtain ⟨k, k3, k4⟩ := hk (i % n) hmod
    rw [f_X1_addUp_17, if_neg (nI_nlt (by omega) (by omega)), nI_pred, ld_ok (okN (show i < 121 by omega) (by decide)), nm, nm, sti_ok (okN (show i + 1 < 121 by omega) (by decide)), nI_cl (by omega), nI_cl (by omega)]
    have e1 : (st_r u 2 (upd (u.2.1 2) (i + 1) (u.2.1 2 i + u.1 5 * mn 8 (cW w pl n i / 10)))).2.1 1 = pl := by simp [st_r, va_up, h1]
    have e0 : (st_r u 2 (upd (u.2.1 2) (i + 1) (u.2.1 2 i + u.1 5 * mn 8 (cW w pl n i / 10)))).2.1 0 = w := by simp [st_r, va_up, h0]
    have hs2 : ∀ j, j ≤ i + 1 → (st_r u 2 (upd (u.2.1 2) (i + 1) (u.2.1 2 i + u.1 5 * mn 8 (cW w pl n i / 10)))).2.1 2 j = cS P L w pl n j := by
      intro j hj
      by_cases z : j = i + 1
      · subst z
        simp [st_r, va_up, upd, cS, hs i (Nat.le_refl _), h5]
      · simp [st_r, va_up, upd, z, hs j (by omega)]
    have f1 : (st_r u 2 (upd (u.2.1 2) (i + 1) (u.2.1 2 i + u.1 5 * mn 8 (cW w pl n i / 10)))).1 = u.1 := rfl
    generalize st_r u 2 (upd (u.2.1 2) (i + 1) (u.2.1 2 i + u.1 5 * mn 8 (cW w pl n i / 10))) = u5 at e1 e0 hs2 f1 ⊢
    rw [e1, ld_ok (okN (show i % n < 30 by omega) (by decide)), nI_cl (by omega), k4, e0, ld_ok (okN (show k < 4 by omega) (by decide)), nm, nI_cl (by omega), f1, h3]
    have ew : cW w pl n i + w k = cW w pl n (i + 1) := by rw [cW, k4, nI_cl (by omega)]
    rw [ew]
    have fin : ∀ z, z = nI ((i + 1) % n) → ∃ u', f_X1_addUp_85 (f_X1_addUp_17 f) (nI m) (cW w pl n (i + 1)) (nI (i + 1)) z u5 = some u' ∧ (∀ j, j ≤ m → u'.2.1 2 j = cS P L w pl n j) ∧ u'.1 = u.1 ∧ u'.2.1 0 = u.2.1 0 ∧ u'.2.1 1 = u.2.1 1 := by
      intro z hz
      rw [f_X1_addUp_85, nm, nI_1, hz]
      obtain ⟨u', g1, g2, g3, g4, g5⟩ := ih (i + 1) f u5 (by omega) (by omega) (by rw [f1]; exact h3) (by rw [f1]; exact h5) e0 e1 hs2
      exact ⟨u', g1, g2, by rw [g3, f1], by rw [g4, e0, h0], by rw [g5, e1, h1]⟩
    rw [nI_1]
    by_cases c : n ≤ i % n + 1
    · rw [if_pos (nI_le c (by omega))]
      refine fin _ ?_
      have : (i + 1) % n = 0 := by
        rw [Nat.add_mod]
        have e : i % n + 1 = n := by omega
        by_cases n1 : n = 1
        · subst n1; omega
        · rw [Nat.mod_eq_of_lt (show 1 < n by omega), e, Nat.mod_self]
      rw [this, nI_0]
    · rw [if_neg (nI_ge (by omega) (by omega))]
      refine fin _ ?_
      congr 1
      rw [Nat.add_mod, Nat.mod_eq_of_lt (show 1 < n by omega), Nat.mod_eq_of_lt (show i % n + 1 < n by omega)]
theorem addUp1 {ub : St} {n : Nat} (hn0 : 0 < n) (hn : n ≤ 30) (h3 : ub.1 3 = nI n) (hk : ∀ j, j < n → ∃ k, k ≤ 3 ∧ ub.2.1 1 j = nI k) {m : Nat} (hm : m ≤ 120) :
    ∃ u', f_X1_addUp (nI m) ub = some u' ∧ (∀ j, j ≤ m → u'.2.1 2 j = cS (ub.1 4) (ub.1 5) (ub.2.1 0) (ub.2.1 1) n j) ∧ u'.1 = ub.1 ∧ u'.2.1 0 = ub.2.1 0 ∧ u'.2.1 1 = ub.2.1 1 := by
  rw [f_X1_addUp, sti_ok (ok_lit (by decide))]
  have := addUp_loop (P := ub.1 4) (L := ub.1 5) (w := ub.2.1 0) (pl := ub.2.1 1) hn0 hn hk m hm m 0 FU (st_r ub 2 (upd (ub.2.1 2) (0 : Int32).toNatClampNeg (ub.1 4))) (by omega) (by unfold FU; omega) h3 rfl rfl rfl (fun j hj => by
    have : j = 0 := by omega
    subst this
    simp [st_r, va_up, upd, cS])
  rw [cW, Nat.zero_mod, nI_0] at this
  exact this
theorem RB.same {ub ub' um : St} (h : RB ub um) (h1 : ub'.1 = ub.1) (h2 : ub'.2.1 0 = ub.2.1 0) (h3 : ub'.2.1 1 = ub.2.1 1) : RB ub' um := by
  unfold RB
  rw [h1, h2, h3]
  exact h
theorem s_costs {ub um : St} (h : RB ub um) (p0 : Int32) : ∃ r ub', f_X8_costs p0 ub = some (r, ub') ∧ f_X9_costs um p0 = some r ∧ RB ub' um := by
  obtain ⟨a, b, c, d, e, n, hn, hl, hk⟩ := id h
  rw [f_X8_costs, f_X9_costs]
  rcases gd p0 1 120 with ⟨x0, x1, e1, e2⟩ | ⟨-, e1, e2⟩
  · obtain ⟨m, hm, rfl⟩ := asN (Int32.le_trans (by decide) x0) x1 (M := 120) (by decide)
    rw [e1, e2, bd_s, bd_s, if_neg zne1, if_neg zne1, f_X1_isEmpty, d, hl]
    by_cases n0 : n = 0
    · subst n0
      rw [nI_0, if_pos rfl, if_pos rfl, bd_s, if_neg zne1]
      exact ⟨_, _, rfl, rfl, h⟩
    · rw [if_neg (nI_ne0 (by omega) (by omega)), if_neg (nI_ne0 (by omega) (by omega)), bd_s, if_pos rfl, f_X1_wholeCost]
      obtain ⟨u', g1, g2, g3, g4, g5⟩ := addUp1 (ub := ub) (show 0 < n by omega) hn hl hk hm
      rw [g1, bd_s, ld_ok (okN (show m < 121 by omega) (by decide)), nI_cl (by omega), bd2_s, g2 m (Nat.le_refl _), costsOf9 (show 0 < n by omega) hn (by rw [d, hl]) (by rw [e]; exact hk) hm, bd_s, a, b, c, e]
      exact ⟨_, _, rfl, rfl, h.same g3 g4 g5⟩
  · rw [e1, e2, bd_s, bd_s, if_pos rfl, if_pos rfl]
    exact ⟨_, _, rfl, rfl, h⟩
theorem change_loop {um : St} {n : Nat} (hn0 : 0 < n) (hn : n ≤ 30) (h3 : um.1 23 = nI n) (hk : ∀ j, j < n → ∃ k, k ≤ 3 ∧ um.2.1 24 j = nI k) :
    ∀ (q s best f1 f2 : Nat) (u : St), s + q = 121 → best ≤ 120 → q < f1 → q < f2 → (∀ j, j ≤ 120 → u.2.1 2 j = cS (um.1 20) (um.1 21) (um.2.1 22) (um.2.1 24) n j) →
    ∃ r, f_X1_bestChange_10 f1 (nI best) (nI s) u = some (r, u) ∧ f_X9_change_20 um f2 (nI best) (cS (um.1 20) (um.1 21) (um.2.1 22) (um.2.1 24) n best) (nI s) = some r := by
  intro q
  induction q with
  | zero =>
    intro s best f1 f2 u hs hb hf1 hf2 hu
    obtain ⟨f1, rfl⟩ : ∃ f, f1 = f + 1 := ⟨f1 - 1, by omega⟩
    obtain ⟨f2, rfl⟩ : ∃ f, f2 = f + 1 := ⟨f2 - 1, by omega⟩
    have : s = 121 := by omega
    subst this
    rw [f_X1_bestChange_10, if_pos (by decide), f_X9_change_20, if_pos (by decide)]
    exact ⟨_, rfl, rfl⟩
  | succ q ih =>
    intro s best f1 f2 u hs hb hf1 hf2 hu
    obtain ⟨f1, rfl⟩ : ∃ f, f1 = f + 1 := ⟨f1 - 1, by omega⟩
    obtain ⟨f2, rfl⟩ : ∃ f, f2 = f + 1 := ⟨f2 - 1, by omega⟩
    have hc : ¬ (120 : Int32) < nI s := nI_nlt (a := 120) (b := s) (by omega) (by decide)
    rw [f_X1_bestChange_10, if_neg hc, ld_ok (okN (show s < 121 by omega) (by decide)), ld_ok (okN (show best < 121 by omega) (by decide)), nI_cl (by omega), nI_cl (by omega), hu s (by omega), hu best hb, f_X9_change_20, if_neg hc, costsOf9 hn0 hn h3 hk (show s ≤ 120 by omega), bd_s]
    by_cases c : cS (um.1 20) (um.1 21) (um.2.1 22) (um.2.1 24) n best * nI s ≤ cS (um.1 20) (um.1 21) (um.2.1 22) (um.2.1 24) n s * nI best
    · rw [if_pos c, if_pos c, f_X1_bestChange_37, f_X9_change_48, nm, nm, nI_1]
      exact ih (s + 1) best f1 f2 u (by omega) hb (by omega) (by omega) hu
    · rw [if_neg c, if_neg c, f_X1_bestChange_37, f_X9_change_48, nm, nm, nI_1]
      exact ih (s + 1) s f1 f2 u (by omega) (by omega) (by omega) (by omega) hu
theorem s_change {ub um : St} (h : RB ub um) : ∃ r ub', f_X8_change ub = some (r, ub') ∧ f_X9_change um = some r ∧ RB ub' um := by
  obtain ⟨a, b, c, d, e, n, hn, hl, hk⟩ := id h
  rw [f_X8_change, f_X9_change, f_X1_isEmpty, d, hl]
  by_cases n0 : n = 0
  · subst n0
    rw [nI_0, if_pos rfl, if_pos rfl, bd_s, if_neg zne1]
    exact ⟨_, _, rfl, rfl, h⟩
  · rw [if_neg (nI_ne0 (by omega) (by omega)), if_neg (nI_ne0 (by omega) (by omega)), bd_s, if_pos rfl, f_X1_bestChange]
    obtain ⟨u', g1, g2, g3, g4, g5⟩ := addUp1 (ub := ub) (show 0 < n by omega) hn hl hk (m := 120) (by omega)
    have g1 : f_X1_addUp 120 ub = some u' := g1
    have c1 := costsOf9 (um := um) (show 0 < n by omega) hn (by rw [d, hl]) (by rw [e]; exact hk) (show 1 ≤ 120 by omega)
    have c1 : f_X9_costsOf um 1 = _ := c1
    obtain ⟨r, k1, k2⟩ := change_loop (um := um) (show 0 < n by omega) hn (by rw [d, hl]) (by rw [e]; exact hk) 119 2 1 FU FU u' (by omega) (by omega) (by unfold FU; omega) (by unfold FU; omega) (by rw [a, b, c, e]; exact g2)
    have k1 : f_X1_bestChange_10 FU 1 2 u' = some (r, u') := k1
    have k2 : f_X9_change_20 um FU 1 _ 2 = some r := k2
    rw [g1, bd_s, k1, bd2_s, c1, bd_s, k2]
    exact ⟨_, _, rfl, rfl, h.same g3 g4 g5⟩
