/-- how many of the first n places have a property -/
def cnt (P : Nat → Bool) : Nat → Nat
  | 0 => 0
  | i + 1 => cnt P i + (if P i then 1 else 0)
theorem cnt_le (P : Nat → Bool) (n : Nat) : cnt P n ≤ n := by
  induction n with
  | zero => exact Nat.le_refl 0
  | succ n ih => rw [cnt]; split <;> omega
theorem cnt_congr {P Q : Nat → Bool} {n : Nat} (h : ∀ i, i < n → P i = Q i) : cnt P n = cnt Q n := by
  induction n with
  | zero => rfl
  | succ n ih => rw [cnt, cnt, ih (fun i hi => h i (by omega)), h n (by omega)]
theorem cnt_mono {P Q : Nat → Bool} {n : Nat} (h : ∀ i, i < n → P i = true → Q i = true) : cnt P n ≤ cnt Q n := by
  induction n with
  | zero => exact Nat.le_refl 0
  | succ n ih =>
    rw [cnt, cnt]
    have h1 := ih (fun i hi => h i (by omega))
    by_cases c : P n = true
    · rw [if_pos c, if_pos (h n (by omega) c)]; omega
    · rw [if_neg c]; omega
def nG (zs ks : Nat → Int32) (i : Nat) : Bool := decide (0 ≤ zs i) && decide (0 ≤ ks i)
def nP (zs ks : Nat → Int32) (z k w : Nat) (i : Nat) : Bool := nG zs ks i && ((decide (1 < w) || decide (zs i = nI z)) && (decide (w = 1) || (decide (w = 3) || decide (ks i = nI k))))
/-- NOTES: the reference keeps them, the class counts them -/
def RN (un um : St) : Prop := ∃ n, n ≤ 60 ∧ un.1 4 = nI n ∧ um.1 16 = nI n ∧ un.1 3 = nI (cnt (nP (um.2.1 17) (um.2.1 18) 0 0 3) n) ∧
  (∀ z k, z ≤ 3 → k ≤ 3 → un.2.1 0 (z * 4 + k) = nI (cnt (nP (um.2.1 17) (um.2.1 18) z k 0) n)) ∧ (∀ z, z ≤ 3 → un.2.1 1 z = nI (cnt (nP (um.2.1 17) (um.2.1 18) z 0 1) n)) ∧ (∀ k, k ≤ 3 → un.2.1 2 k = nI (cnt (nP (um.2.1 17) (um.2.1 18) 0 k 2) n))
theorem RN.fr {un um um' : St} {I R : List Nat} (h : RN un um) (hf : Fr I R um um') (h1 : 16 ∉ I) (h2 : 17 ∉ R) (h3 : 18 ∉ R) : RN un um' := by
  unfold RN
  rw [hf.1 16 h1, hf.2 17 h2, hf.2 18 h3]
  exact h
theorem tallyOf_loop {um : St} {n : Nat} (hn : n ≤ 60) (h16 : um.1 16 = nI n) {z k w : Nat} (hw : w ≤ 3) :
    ∀ (q i fuel : Nat), i + q = n → q < fuel → f_X9_tallyOf_6 um fuel (nI z) (nI k) (nI w) (nI (cnt (nP (um.2.1 17) (um.2.1 18) z k w) i)) (nI i) = some (nI (cnt (nP (um.2.1 17) (um.2.1 18) z k w) n)) := by
  intro q
  induction q with
  | zero =>
    intro i fuel hi hf
    obtain ⟨f, rfl⟩ : ∃ f, fuel = f + 1 := ⟨fuel - 1, by omega⟩
    have : i = n := by omega
    subst this
    rw [f_X9_tallyOf_6, h16, if_pos (nI_le (Nat.le_refl _) (by omega))]
  | succ q ih =>
    intro i fuel hi hf
    obtain ⟨f, rfl⟩ : ∃ f, fuel = f + 1 := ⟨fuel - 1, by omega⟩
    have step := ih (i + 1) f (by omega) (by omega)
    rw [cnt] at step
    have ok : okI (nI i) 60 := okN (by omega) (by decide)
    have k0 : nP (um.2.1 17) (um.2.1 18) z k w i = false → f_X9_tallyOf_88 um (f_X9_tallyOf_6 um f) (nI z) (nI k) (nI w) (nI (cnt (nP (um.2.1 17) (um.2.1 18) z k w) i)) (nI i) = some (nI (cnt (nP (um.2.1 17) (um.2.1 18) z k w) n)) := by
      intro c
      rw [c] at step
      rw [f_X9_tallyOf_88, f_X9_tallyOf_89, if_pos rfl, f_X9_tallyOf_103, nm, nm, nI_1, Int32.add_zero]
      exact step
    have k1 : nP (um.2.1 17) (um.2.1 18) z k w i = true → f_X9_tallyOf_84 um (f_X9_tallyOf_6 um f) (nI z) (nI k) (nI w) (nI (cnt (nP (um.2.1 17) (um.2.1 18) z k w) i)) (nI i) = some (nI (cnt (nP (um.2.1 17) (um.2.1 18) z k w) n)) := by
      intro c
      rw [c] at step
      rw [f_X9_tallyOf_84, f_X9_tallyOf_89, if_neg zne1, f_X9_tallyOf_103, nm, nm, nI_1, nI_1]
      exact step
    have w1 : (1 : Int32) < nI w ↔ 1 < w := nI_ltI (a := 1) (by decide) (by omega)
    have w2 : nI w = 1 ↔ w = 1 := nI_eq (b := 1) (by omega) (by decide)
    have w3 : nI w = 3 ↔ w = 3 := nI_eq (b := 3) (by omega) (by decide)
    rw [f_X9_tallyOf_6, h16, if_neg (nI_ge (by omega) (by omega)), ld_ok ok, nI_cl (by omega)]
    by_cases c1 : um.2.1 17 i < 0
    · rw [if_pos c1, f_X9_tallyOf_39, f_X9_tallyOf_40, if_pos rfl]
      refine k0 ?_
      have : ¬ 0 ≤ um.2.1 17 i := Int32.not_le.mpr c1
      simp [nP, nG, this]
    · rw [if_neg c1, ld_ok ok, nI_cl (by omega)]
      have c1' : 0 ≤ um.2.1 17 i := Int32.not_lt.mp c1
      by_cases c2 : um.2.1 18 i < 0
      · rw [if_pos c2, f_X9_tallyOf_39, f_X9_tallyOf_40, if_pos rfl]
        refine k0 ?_
        have : ¬ 0 ≤ um.2.1 18 i := Int32.not_le.mpr c2
        simp [nP, nG, this]
      · rw [if_neg c2, f_X9_tallyOf_40, if_neg zne1]
        have c2' : 0 ≤ um.2.1 18 i := Int32.not_lt.mp c2
        have k63 : (1 < w ∨ um.2.1 17 i = nI z) → f_X9_tallyOf_63 um (f_X9_tallyOf_6 um f) (nI z) (nI k) (nI w) (nI (cnt (nP (um.2.1 17) (um.2.1 18) z k w) i)) (nI i) = some (nI (cnt (nP (um.2.1 17) (um.2.1 18) z k w) n)) := by
          intro hz
          rw [f_X9_tallyOf_63]
          by_cases v1 : w = 1
          · rw [if_pos (w2.mpr v1)]
            refine k1 ?_
            simp [nP, nG, c1', c2', v1]
            subst v1
            simpa using hz
          · rw [if_neg (fun q => v1 (w2.mp q))]
            by_cases v3 : w = 3
            · rw [if_pos (w3.mpr v3)]
              exact k1 (by simp [nP, nG, c1', c2', v3])
            · rw [if_neg (fun q => v3 (w3.mp q)), ld_ok ok, nI_cl (by omega)]
              by_cases c4 : um.2.1 18 i = nI k
              · rw [if_pos c4]
                have kk0 : 0 ≤ nI k := c4 ▸ c2'
                exact k1 (by simp [nP, nG, c1', kk0, v1, v3, c4, hz])
              · rw [if_neg c4]
                exact k0 (by simp [nP, c4, v1, v3])
        by_cases v : 1 < w
        · rw [if_pos (w1.mpr v)]; exact k63 (Or.inl v)
        · rw [if_neg (fun q => v (w1.mp q)), ld_ok ok, nI_cl (by omega)]
          by_cases c3 : um.2.1 17 i = nI z
          · rw [if_pos c3]; exact k63 (Or.inr c3)
          · rw [if_neg c3]
            exact k0 (by simp [nP, v, c3])
theorem tallyOf9 {um : St} {n : Nat} (hn : n ≤ 60) (h16 : um.1 16 = nI n) {z k w : Nat} (hw : w ≤ 3) : f_X9_tallyOf um (nI z) (nI k) (nI w) = some (nI (cnt (nP (um.2.1 17) (um.2.1 18) z k w) n)) := by
  have := tallyOf_loop hn h16 (z := z) (k := k) hw n 0 FU (by omega) (by unfold FU; omega)
  rw [cnt, nI_0] at this
  exact this
theorem nP_1 (zs ks : Nat → Int32) (z k : Nat) : nP zs ks z k 1 = nP zs ks z 0 1 := by funext i; simp [nP]
theorem nP_2 (zs ks : Nat → Int32) (z k : Nat) : nP zs ks z k 2 = nP zs ks 0 k 2 := by funext i; simp [nP]
theorem nP_3 (zs ks : Nat → Int32) (z k : Nat) : nP zs ks z k 3 = nP zs ks 0 0 3 := by funext i; simp [nP]
theorem s_tally {un um : St} (h : RN un um) (p0 p1 p2 : Int32) : ∃ r, f_X8_tally un p0 p1 p2 = some r ∧ f_X9_tally um p0 p1 p2 = some r := by
  obtain ⟨n, hn, h4, h16, h3, hb, hz, hk⟩ := h
  rw [f_X8_tally, f_X9_tally]
  rcases gZ p0 with ⟨a, b, e1, e2⟩ | ⟨e1, e2⟩
  · rw [e1, e2, bd_s, bd_s, if_neg zne1, if_neg zne1]
    rcases gK p1 with ⟨a1, b1, e1, e2⟩ | ⟨e1, e2⟩
    · rw [e1, e2, bd_s, bd_s, if_neg zne1, if_neg zne1]
      rcases gd p2 0 3 with ⟨a2, b2, e1, e2⟩ | ⟨-, e1, e2⟩
      · rw [e1, e2, bd_s, bd_s, if_neg zne1, if_neg zne1]
        obtain ⟨z, hz3, rfl⟩ := asN a b (M := 3) (by decide)
        obtain ⟨k, hk3, rfl⟩ := asN a1 b1 (M := 3) (by decide)
        obtain ⟨w, hw3, rfl⟩ := asN a2 b2 (M := 3) (by decide)
        rw [tallyOf9 hn h16 hw3, bd_s, f_X5_read]
        have w0 : nI w = 0 ↔ w = 0 := nI_eq (b := 0) (by omega) (by decide)
        have w1 : nI w = 1 ↔ w = 1 := nI_eq (b := 1) (by omega) (by decide)
        have w2 : nI w = 2 ↔ w = 2 := nI_eq (b := 2) (by omega) (by decide)
        by_cases v0 : w = 0
        · subst v0
          rw [if_pos (w0.mpr rfl), show (4 : Int32) = nI 4 from rfl, nI_mul, nI_add, ld_ok (okN (show z * 4 + k < 16 by omega) (by decide)), nI_cl (by omega), hb z k hz3 hk3]
          exact ⟨_, rfl, rfl⟩
        · rw [if_neg (fun q => v0 (w0.mp q))]
          by_cases v1 : w = 1
          · subst v1
            rw [if_pos (w1.mpr rfl), ld_ok (okN (show z < 4 by omega) (by decide)), nI_cl (by omega), hz z hz3, nP_1]
            exact ⟨_, rfl, rfl⟩
          · rw [if_neg (fun q => v1 (w1.mp q))]
            by_cases v2 : w = 2
            · subst v2
              rw [if_pos (w2.mpr rfl), ld_ok (okN (show k < 4 by omega) (by decide)), nI_cl (by omega), hk k hk3, nP_2]
              exact ⟨_, rfl, rfl⟩
            · rw [if_neg (fun q => v2 (w2.mp q))]
              have : w = 3 := by omega
              subst this
              rw [h3, nP_3]
              exact ⟨_, rfl, rfl⟩
      · rw [e1, e2, bd_s, bd_s, if_pos rfl, if_pos rfl]; exact ⟨_, rfl, rfl⟩
    · rw [e1, e2, bd_s, bd_s, if_pos rfl, if_pos rfl]; exact ⟨_, rfl, rfl⟩
  · rw [e1, e2, bd_s, bd_s, if_pos rfl, if_pos rfl]; exact ⟨_, rfl, rfl⟩
theorem nP_upd {zs ks : Nat → Int32} {n : Nat} {a b : Int32} {z k w : Nat} : cnt (nP (upd zs n a) (upd ks n b) z k w) n = cnt (nP zs ks z k w) n :=
  cnt_congr (fun i hi => by simp [nP, nG, upd, Nat.ne_of_lt hi])
theorem nP_at {zs ks : Nat → Int32} {n : Nat} {a b : Int32} {z k w : Nat} : nP (upd zs n a) (upd ks n b) z k w n = (decide (0 ≤ a) && decide (0 ≤ b) && ((decide (1 < w) || decide (a = nI z)) && (decide (w = 1) || (decide (w = 3) || decide (b = nI k))))) := by
  simp [nP, nG, upd]
/-- the reference's own note -/
theorem note64 {um : St} {n : Nat} (hn : n < 60) (h16 : um.1 16 = nI n) (a b : Int32) : f_X9_note_64 b a (um.1 16) um = some (nI (n + 1), st_i (st_r (st_r um 17 (upd (um.2.1 17) n a)) 18 (upd (um.2.1 18) n b)) 16 (nI (n + 1))) := by
  rw [f_X9_note_64, h16, sti_ok (okN hn (by decide)), nI_cl (by omega)]
  have e : (st_r um 17 (upd (um.2.1 17) n a)).1 16 = nI n := h16
  rw [e, sti_ok (okN hn (by decide)), nI_cl (by omega), nm]
  have e2 : (st_r (st_r um 17 (upd (um.2.1 17) n a)) 18 (upd ((st_r um 17 (upd (um.2.1 17) n a)).2.1 18) n b)).1 16 = nI n := h16
  rw [e2, nI_1]
  rfl
theorem note_gap {un um : St} (h : RN un um) {n : Nat} (hn : n < 60) (h4 : un.1 4 = nI n) {a b : Int32} (hg : a < 0 ∨ b < 0) : RN (st_i un 4 (nI (n + 1))) (st_i (st_r (st_r um 17 (upd (um.2.1 17) n a)) 18 (upd (um.2.1 18) n b)) 16 (nI (n + 1))) := by
  obtain ⟨n', hn', h4', h16, h3, hb, hz, hk⟩ := h
  have : n' = n := (nI_eq (by omega) (by omega)).mp (h4'.symm.trans h4)
  subst this
  have hG : (decide (0 ≤ a) && decide (0 ≤ b)) = false := by
    rcases hg with g | g
    · have : ¬ 0 ≤ a := Int32.not_le.mpr g
      simp [this]
    · have : ¬ 0 ≤ b := Int32.not_le.mpr g
      simp [this]
  have e17 : (st_i (st_r (st_r um 17 (upd (um.2.1 17) n' a)) 18 (upd (um.2.1 18) n' b)) 16 (nI (n' + 1))).2.1 17 = upd (um.2.1 17) n' a := by simp [st_i, st_r, va_up]
  have e18 : (st_i (st_r (st_r um 17 (upd (um.2.1 17) n' a)) 18 (upd (um.2.1 18) n' b)) 16 (nI (n' + 1))).2.1 18 = upd (um.2.1 18) n' b := by simp [st_i, st_r, va_up]
  have ec : ∀ z k w, cnt (nP (upd (um.2.1 17) n' a) (upd (um.2.1 18) n' b) z k w) (n' + 1) = cnt (nP (um.2.1 17) (um.2.1 18) z k w) n' := by
    intro z k w
    rw [cnt, nP_upd, nP_at, hG]
    simp
  refine ⟨n' + 1, by omega, by simp [st_i, va_up], by simp [st_i, va_up], ?_, ?_, ?_, ?_⟩
  · rw [e17, e18, ec]; simpa [st_i, va_up] using h3
  · intro z k h1 h2; rw [e17, e18, ec]; exact hb z k h1 h2
  · intro z h1; rw [e17, e18, ec]; exact hz z h1
  · intro k h1; rw [e17, e18, ec]; exact hk k h1
theorem note_full {un um : St} (h : RN un um) {n : Nat} (hn : n < 60) (h4 : un.1 4 = nI n) {z k : Nat} (hz3 : z ≤ 3) (hk3 : k ≤ 3) : ∃ un', f_X5_add_43 (nI k) (nI z) (st_i un 4 (nI (n + 1))) = some (nI (n + 1), un') ∧ RN un' (st_i (st_r (st_r um 17 (upd (um.2.1 17) n (nI z))) 18 (upd (um.2.1 18) n (nI k))) 16 (nI (n + 1))) := by
  obtain ⟨n', hn', h4', h16, h3, hb, hz, hk⟩ := h
  have : n' = n := (nI_eq (by omega) (by omega)).mp (h4'.symm.trans h4)
  subst this
  rw [f_X5_add_43, nm, show (4 : Int32) = nI 4 from rfl, nI_mul, nI_add, ld_ok (okN (show z * 4 + k < 16 by omega) (by decide)), sti_ok (okN (show z * 4 + k < 16 by omega) (by decide)), ld_ok (okN (show z < 4 by omega) (by decide)), sti_ok (okN (show z < 4 by omega) (by decide)), ld_ok (okN (show k < 4 by omega) (by decide)), sti_ok (okN (show k < 4 by omega) (by decide)), nm, nI_cl (by omega), nI_cl (by omega), nI_cl (by omega)]
  refine ex1 (by simp [st_i, st_r, va_up]) ?_
  have e17 : (st_i (st_r (st_r um 17 (upd (um.2.1 17) n' (nI z))) 18 (upd (um.2.1 18) n' (nI k))) 16 (nI (n' + 1))).2.1 17 = upd (um.2.1 17) n' (nI z) := by simp [st_i, st_r, va_up]
  have e18 : (st_i (st_r (st_r um 17 (upd (um.2.1 17) n' (nI z))) 18 (upd (um.2.1 18) n' (nI k))) 16 (nI (n' + 1))).2.1 18 = upd (um.2.1 18) n' (nI k) := by simp [st_i, st_r, va_up]
  have z0 : 0 ≤ nI z := nI_pos' (by omega)
  have k0 : 0 ≤ nI k := nI_pos' (by omega)
  refine ⟨n' + 1, by omega, by simp [st_i, st_r, va_up], by simp [st_i, va_up], ?_, ?_, ?_, ?_⟩
  · rw [e17, e18, cnt, nP_upd, nP_at]
    simp [st_i, st_r, va_up, h3, z0, k0, nI_1]
  · intro z1 k1 q1 q2
    rw [e17, e18, cnt, nP_upd, nP_at]
    have ez : nI z = nI z1 ↔ z = z1 := nI_eq (by omega) (by omega)
    have ek : nI k = nI k1 ↔ k = k1 := nI_eq (by omega) (by omega)
    by_cases c : z = z1 ∧ k = k1
    · obtain ⟨rfl, rfl⟩ := c
      simp [st_i, st_r, va_up, upd, z0, k0, hb z k hz3 hk3, nI_1]
    · have : ¬ z1 * 4 + k1 = z * 4 + k := fun q => c (by omega)
      have c2 : ¬ (nI z = nI z1 ∧ nI k = nI k1) := by rw [ez, ek]; exact c
      simp [st_i, st_r, va_up, upd, this, hb z1 k1 q1 q2, z0, k0, c2]
  · intro z1 q1
    rw [e17, e18, cnt, nP_upd, nP_at]
    have ez : nI z = nI z1 ↔ z = z1 := nI_eq (by omega) (by omega)
    by_cases c : z = z1
    · subst c
      simp [st_i, st_r, va_up, upd, z0, k0, hz z hz3, nI_1]
    · have c1 : ¬ z1 = z := fun q => c q.symm
      simp [st_i, st_r, va_up, upd, c1, hz z1 q1, z0, k0, ez, c]
  · intro k1 q1
    rw [e17, e18, cnt, nP_upd, nP_at]
    have ek : nI k = nI k1 ↔ k = k1 := nI_eq (by omega) (by omega)
    by_cases c : k = k1
    · subst c
      simp [st_i, st_r, va_up, upd, z0, k0, hk k hk3, nI_1]
    · have c1 : ¬ k1 = k := fun q => c q.symm
      simp [st_i, st_r, va_up, upd, c1, hk k1 q1, z0, k0, ek, c]
theorem fr_note (um : St) (n : Nat) (a b : Int32) : Fr [16] [17, 18] um (st_i (st_r (st_r um 17 (upd (um.2.1 17) n a)) 18 (upd (um.2.1 18) n b)) 16 (nI (n + 1))) :=
  (((Fr.r um 17 _).mono (by simp) (by simp)).trans ((Fr.r _ 18 _).mono (by simp) (by simp))).trans ((Fr.i _ 16 _).mono (by simp) (by simp))
theorem m1_neg {p : Int32} (h0 : -1 ≤ p) (h : ¬ p = -1) : 0 ≤ p := by
  have T : (-1 : Int32).toInt = -1 := by decide
  have T0 : (0 : Int32).toInt = 0 := by decide
  have q : ¬ p.toInt = -1 := fun z => h (Int32.toInt_inj.mp (by rw [z, T]))
  simp only [Int32.le_iff_toInt_le, T, T0] at *
  omega
theorem flip_eq {z : Nat} (h : z ≤ 3) : ∃ z', z' ≤ 3 ∧ nI z ^^^ 1 = nI z' ∧ ((nI z / 2) * 2 + 1) - (nI z - nI z / 2 * 2) = nI z' := by
  rcases (show z = 0 ∨ z = 1 ∨ z = 2 ∨ z = 3 by omega) with rfl | rfl | rfl | rfl
  · exact ⟨1, by decide, by decide, by decide⟩
  · exact ⟨0, by decide, by decide, by decide⟩
  · exact ⟨3, by decide, by decide, by decide⟩
  · exact ⟨2, by decide, by decide, by decide⟩
theorem s_note {un um : St} (h : RN un um) (p0 p1 p2 : Int32) : ∃ r un' um', f_X8_note p0 p1 p2 un = some (r, un') ∧ f_X9_note p0 p1 p2 um = some (r, um') ∧ RN un' um' ∧ Fr [16] [17, 18] um um' := by
  have fr0 : Fr [16] [17, 18] um um := (Fr.refl um).mono (by simp) (by simp)
  obtain ⟨n, hn, h4, h16, -⟩ := id h
  rw [f_X8_note, f_X9_note]
  rcases gd p0 (-1) 3 with ⟨a, b, e1, e2⟩ | ⟨-, e1, e2⟩
  · rw [e1, e2, bd_s, bd_s, if_neg zne1, if_neg zne1]
    rcases gd p1 (-1) 3 with ⟨a1, b1, e1, e2⟩ | ⟨-, e1, e2⟩
    · rw [e1, e2, bd_s, bd_s, if_neg zne1, if_neg zne1, f_X5_add]
      by_cases c : n < 60
      · rw [h4, if_pos (show nI n < 60 from nI_lt (b := 60) c (by decide)), if_neg (fun z => by
          have : n = 60 := (nI_eq (by omega) (by decide)).mp (show nI n = nI 60 from h16.symm.trans z)
          omega), nm, nI_1]
        have m64 := note64 c h16
        have r4 : (st_i un 4 (nI (n + 1))).1 4 = nI (n + 1) := by simp [st_i, va_up]
        have x63 : f_X9_note_63 p0 p1 (um.1 16) um = some (nI (n + 1), st_i (st_r (st_r um 17 (upd (um.2.1 17) n p0)) 18 (upd (um.2.1 18) n p1)) 16 (nI (n + 1))) := by rw [f_X9_note_63, m64]
        by_cases q0 : p0 = -1
        · have neg0 : p0 < 0 := by rw [q0]; decide
          rw [if_pos q0, bd2_s, r4]
          have R := note_gap h c h4 (a := p0) (b := p1) (Or.inl neg0)
          by_cases q2 : p2 = 0
          · rw [if_pos q2, x63]; exact ⟨_, _, _, rfl, rfl, R, fr_note um n p0 p1⟩
          · rw [if_neg q2, if_pos neg0, x63]; exact ⟨_, _, _, rfl, rfl, R, fr_note um n p0 p1⟩
        · have pos0 := m1_neg a q0
          have npos0 : ¬ p0 < 0 := Int32.not_lt.mpr pos0
          obtain ⟨z, hz3, rfl⟩ := asN pos0 b (M := 3) (by decide)
          obtain ⟨z', hz', f1, f2⟩ := flip_eq hz3
          rw [if_neg q0]
          by_cases q1 : p1 = -1
          · have neg1 : p1 < 0 := by rw [q1]; decide
            rw [if_pos q1, bd2_s, r4]
            by_cases q2 : p2 = 0
            · rw [if_pos q2, x63]; exact ⟨_, _, _, rfl, rfl, note_gap h c h4 (Or.inr neg1), fr_note um n _ p1⟩
            · rw [if_neg q2, if_neg npos0, f2, m64]; exact ⟨_, _, _, rfl, rfl, note_gap h c h4 (Or.inr neg1), fr_note um n _ p1⟩
          · have pos1 := m1_neg a1 q1
            obtain ⟨k, hk3, rfl⟩ := asN pos1 b1 (M := 3) (by decide)
            rw [if_neg q1]
            by_cases q2 : p2 = 0
            · obtain ⟨un', g1, g2⟩ := note_full h c h4 hz3 hk3
              rw [if_pos q2, if_pos q2, g1, bd2_s, x63]
              exact ⟨_, _, _, rfl, rfl, g2, fr_note um n _ _⟩
            · obtain ⟨un', g1, g2⟩ := note_full h c h4 hz' hk3
              rw [if_neg q2, if_neg q2, f1, g1, bd2_s, if_neg npos0, f2, m64]
              exact ⟨_, _, _, rfl, rfl, g2, fr_note um n _ _⟩
      · have : n = 60 := by omega
        subst this
        rw [h4, h16, if_neg (by decide), if_pos (by decide), bd2_s]
        exact ⟨_, _, _, rfl, rfl, h, fr0⟩
    · rw [e1, e2, bd_s, bd_s, if_pos rfl, if_pos rfl]; exact ⟨_, _, _, rfl, rfl, h, fr0⟩
  · rw [e1, e2, bd_s, bd_s, if_pos rfl, if_pos rfl]; exact ⟨_, _, _, rfl, rfl, h, fr0⟩
