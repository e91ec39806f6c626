/-! numbers of ways to choose -/
def rowN : Nat → List Nat
  | 0 => [1]
  | n + 1 => List.zipWith (· + ·) (0 :: rowN n) (rowN n ++ [0])
def ch : Nat → Nat → Nat
  | _, 0 => 1
  | 0, _ + 1 => 0
  | n + 1, k + 1 => ch n k + ch n (k + 1)
theorem ch_0 (n : Nat) : ch n 0 = 1 := by cases n <;> rfl
theorem ch_0s (k : Nat) : ch 0 (k + 1) = 0 := rfl
theorem ch_ss (n k : Nat) : ch (n + 1) (k + 1) = ch n k + ch n (k + 1) := rfl
theorem ch_gt : ∀ {n k : Nat}, n < k → ch n k = 0 := by
  intro n
  induction n with
  | zero => intro k h; cases k with
    | zero => omega
    | succ k => rfl
  | succ n ih => intro k h; cases k with
    | zero => omega
    | succ k => rw [ch_ss, ih (by omega), ih (by omega)]
theorem rowN_len (n : Nat) : (rowN n).length = n + 1 := by
  induction n with
  | zero => rfl
  | succ n ih => rw [rowN]; simp [ih]
theorem rowN_ch : ∀ (n k : Nat), k ≤ n → (rowN n)[k]? = some (ch n k) := by
  intro n
  induction n with
  | zero => intro k h; have : k = 0 := by omega
            subst this; rfl
  | succ n ih =>
    intro k h
    rw [rowN, List.getElem?_zipWith]
    cases k with
    | zero =>
      have : (rowN n ++ [0])[0]? = some (ch n 0) := by
        rw [List.getElem?_append_left (by rw [rowN_len]; omega)]
        exact ih 0 (by omega)
      rw [this]
      simp [ch_0]
    | succ k =>
      rw [List.getElem?_cons_succ, ih k (by omega)]
      by_cases e : k = n
      · subst e
        rw [List.getElem?_append_right (by rw [rowN_len]; omega), rowN_len]
        simp [ch_ss, ch_gt (Nat.lt_succ_self k)]
      · rw [List.getElem?_append_left (by rw [rowN_len]; omega), ih (k + 1) (by omega)]
        simp [ch_ss]
theorem row_bound : (List.range 61).all (fun n => (rowN n).all (fun c => decide (c * 64 < 9223372036854775808))) = true := by decide +kernel
theorem ch_bound {n k : Nat} (hn : n ≤ 60) : ch n k * 64 < 9223372036854775808 := by
  by_cases h : k ≤ n
  · have h1 := List.all_eq_true.mp row_bound n (List.mem_range.mpr (by omega))
    have h2 := List.all_eq_true.mp h1 (ch n k) (List.mem_of_getElem? (rowN_ch n k h))
    exact of_decide_eq_true h2
  · rw [ch_gt (by omega)]; decide
theorem ch_self (n : Nat) : ch n n = 1 := by
  induction n with
  | zero => rfl
  | succ n ih => rw [ch_ss, ih, ch_gt (Nat.lt_succ_self n)]
theorem ch_mulD : ∀ (n k : Nat), (k + 1) * ch (n + 1) (k + 1) = (n + 1) * ch n k := by
  intro n
  induction n with
  | zero => intro k; cases k with
    | zero => rfl
    | succ k => rw [ch_ss, ch_0s, ch_0s]; simp
  | succ n ih =>
    intro k
    cases k with
    | zero =>
      have h := ih 0
      rw [ch_0] at h
      rw [ch_ss (n + 1) 0, ch_0]
      simp only [Nat.zero_add, Nat.one_mul, Nat.mul_one] at h ⊢
      rw [h]; omega
    | succ k =>
      have a := ih k
      have b := ih (k + 1)
      rw [ch_ss (n + 1) (k + 1), ch_ss n k] 
      rw [ch_ss n (k + 1)] at b
      rw [ch_ss n k] at a
      rw [ch_ss n (k + 1)]
      simp only [Nat.add_mul, Nat.mul_add, Nat.one_mul] at *
      omega
theorem ch_sym : ∀ (n k : Nat), k ≤ n → ch n k = ch n (n - k) := by
  intro n
  induction n with
  | zero => intro k h; have : k = 0 := by omega
            subst this; rfl
  | succ n ih =>
    intro k h
    cases k with
    | zero => rw [ch_0, Nat.sub_zero, ch_self]
    | succ k =>
      by_cases e : k = n
      · subst e; rw [ch_self, Nat.sub_self, ch_0]
      · obtain ⟨d, rfl⟩ : ∃ d, n = k + 1 + d := ⟨n - k - 1, by omega⟩
        have e1 : k + 1 + d + 1 - (k + 1) = d + 1 := by omega
        rw [e1, ch_ss, ch_ss, ih k (by omega), ih (k + 1) (by omega)]
        have e2 : k + 1 + d - k = d + 1 := by omega
        have e3 : k + 1 + d - (k + 1) = d := by omega
        rw [e2, e3]; omega
/-- Vandermonde, as a sum over all i -/
def vS (a b n : Nat) : Nat → Nat
  | 0 => 0
  | i + 1 => vS a b n i + ch a i * ch b (n - i)
def sm (f : Nat → Nat) : Nat → Nat
  | 0 => 0
  | i + 1 => sm f i + f i
theorem sm_congr {f g : Nat → Nat} {m : Nat} (h : ∀ i, i < m → f i = g i) : sm f m = sm g m := by
  induction m with
  | zero => rfl
  | succ m ih => rw [sm, sm, ih (fun i hi => h i (by omega)), h m (by omega)]
theorem sm_add (f g : Nat → Nat) (m : Nat) : sm (fun i => f i + g i) m = sm f m + sm g m := by
  induction m with
  | zero => rfl
  | succ m ih => rw [sm, sm, sm, ih]; omega
theorem sm_shift (f : Nat → Nat) (m : Nat) : sm f (m + 1) = f 0 + sm (fun i => f (i + 1)) m := by
  induction m with
  | zero => simp [sm]
  | succ m ih => rw [sm, ih, sm]; omega
theorem sm_le {f : Nat → Nat} {m k : Nat} (h : m ≤ k) : sm f m ≤ sm f k := by
  induction k with
  | zero => have : m = 0 := by omega
            subst this; exact Nat.le_refl _
  | succ k ih =>
    by_cases e : m = k + 1
    · subst e; exact Nat.le_refl _
    · rw [sm]; have := ih (by omega); omega
theorem vand : ∀ (a b n : Nat), sm (fun i => ch a i * ch b (n - i)) (n + 1) = ch (a + b) n := by
  intro a
  induction a with
  | zero =>
    intro b n
    rw [sm_shift]
    have : sm (fun i => ch 0 (i + 1) * ch b (n - (i + 1))) n = 0 := by
      have h : ∀ m, sm (fun i => ch 0 (i + 1) * ch b (n - (i + 1))) m = 0 := by
        intro m
        induction m with
        | zero => rfl
        | succ m ih => rw [sm, ih, ch_0s]; simp
      exact h n
    rw [this, ch_0]; simp
  | succ a ih =>
    intro b n
    cases n with
    | zero => simp [sm, ch_0]
    | succ n =>
      rw [sm_shift]
      have e : sm (fun i => ch (a + 1) (i + 1) * ch b (n + 1 - (i + 1))) (n + 1) = sm (fun i => ch a i * ch b (n - i)) (n + 1) + sm (fun i => ch a (i + 1) * ch b (n + 1 - (i + 1))) (n + 1) := by
        rw [← sm_add]
        apply sm_congr
        intro i hi
        show ch (a + 1) (i + 1) * ch b (n + 1 - (i + 1)) = ch a i * ch b (n - i) + ch a (i + 1) * ch b (n + 1 - (i + 1))
        rw [ch_ss, Nat.add_mul]
        congr 2
        congr 1
        omega
      rw [e, ih b n]
      have e2 := ih b (n + 1)
      rw [sm_shift, ch_0] at e2
      have e3 : a + 1 + b = (a + b) + 1 := by omega
      rw [e3, ch_ss, ch_0, ← e2]
      omega

theorem lN_tI {n : Nat} (h : n < 9223372036854775808) : (lN n).toInt = (n : Int) := by
  exact lg_ofNat_toInt (by omega)
theorem lN_leB {a b : Nat} (ha : a < 9223372036854775808) (hb : b < 9223372036854775808) : lN a ≤ lN b ↔ a ≤ b := by
  rw [Int64.le_iff_toInt_le, lN_tI ha, lN_tI hb]; omega
theorem lN_ltB {a b : Nat} (ha : a < 9223372036854775808) (hb : b < 9223372036854775808) : lN a < lN b ↔ a < b := by
  rw [Int64.lt_iff_toInt_lt, lN_tI ha, lN_tI hb]; omega
theorem lN_eqB {a b : Nat} (ha : a < 9223372036854775808) (hb : b < 9223372036854775808) : lN a = lN b ↔ a = b := by
  rw [← Int64.toInt_inj, lN_tI ha, lN_tI hb]; omega
theorem lN_div {a b : Nat} (ha : a < 9223372036854775808) (hb : b < 9223372036854775808) : lN a / lN b = lN (a / b) := by
  apply Int64.toInt_inj.mp
  have h1 : a / b ≤ a := Nat.div_le_self a b
  rw [Int64.toInt_div, lN_tI ha, lN_tI hb, lN_tI (by omega)]
  have h2 : (a : Int).tdiv (b : Int) = ((a / b : Nat) : Int) := by
    rw [Int.tdiv_eq_ediv_of_nonneg (by omega)]; rfl
  rw [h2]
  clear h2
  generalize a / b = z at h1 ⊢
  exact Int.bmod_eq_of_le (by omega) (by omega)
theorem cmp_gt {a b : Nat} (ha : a < 9223372036854775808) (hb : b < 9223372036854775808) : 0 < lg_cmp (lN a) (lN b) ↔ b < a := by
  unfold lg_cmp
  by_cases h : lN a > lN b
  · rw [if_pos h]
    exact ⟨fun _ => (lN_ltB hb ha).mp h, fun _ => by decide⟩
  · rw [if_neg h]
    have h' : ¬ b < a := fun q => h ((lN_ltB hb ha).mpr q)
    by_cases e : lN a = lN b
    · rw [if_pos e]; exact ⟨fun q => absurd q (by decide), fun q => absurd q h'⟩
    · rw [if_neg e]; exact ⟨fun q => absurd q (by decide), fun q => absurd q h'⟩
/-- the class's ways -/
theorem ways_loop {a c : Nat} (ha : a ≤ 60) (hc : c ≤ a) : ∀ (q i fuel : Nat), i + q = c → q < fuel → f_X5_ways_24 fuel (nI a) (nI c) (lN (ch (a - c + i) i)) (nI (i + 1)) = some (lN (ch a c)) := by
  intro q
  induction q with
  | zero =>
    intro i fuel hi hf
    obtain ⟨f, rfl⟩ : ∃ f, fuel = f + 1 := ⟨fuel - 1, by omega⟩
    have : i = c := by omega
    subst this
    rw [f_X5_ways_24, if_pos (nI_lt (by omega) (by omega)), show a - i + i = a by omega]
  | succ q ih =>
    intro i fuel hi hf
    obtain ⟨f, rfl⟩ : ∃ f, fuel = f + 1 := ⟨fuel - 1, by omega⟩
    have step := ih (i + 1) f (by omega) (by omega)
    have hb := ch_bound (n := a - c + i) (k := i) (by omega)
    have hm := ch_mulD (a - c + i) i
    have e1 : nI a - nI c + nI (i + 1) = nI (a - c + (i + 1)) := by rw [nI_sub hc, nI_add]
    rw [f_X5_ways_24, if_neg (nI_nlt (by omega) (by omega)), nm, nI_l (by omega), dvl_ok (fun z => by
      have := (lN_eqB (a := i + 1) (b := 0) (by omega) (by decide)).mp z
      omega), nm, nm, e1, nI_l (by omega), lN_mul, nI_1]
    have lt1 : ch (a - c + i) i * (a - c + (i + 1)) < 9223372036854775808 := by
      have h2 : ch (a - c + i) i * (a - c + (i + 1)) ≤ ch (a - c + i) i * 64 := Nat.mul_le_mul_left _ (by omega)
      omega
    rw [lN_div lt1 (by omega)]
    have e2 : ch (a - c + i) i * (a - c + (i + 1)) / (i + 1) = ch (a - c + (i + 1)) (i + 1) := by
      rw [Nat.mul_comm]
      have e3 : a - c + (i + 1) = a - c + i + 1 := by omega
      rw [e3, ← hm, Nat.mul_div_cancel_left _ (Nat.succ_pos i)]
    rw [e2]
    exact step
theorem ways5 {a k : Nat} (ha : a ≤ 60) (hk : k ≤ 60) : f_X5_ways (nI a) (nI k) = some (lN (ch a k)) := by
  rw [f_X5_ways, if_neg (nI_pos (by omega))]
  by_cases h : k ≤ a
  · rw [if_pos (nI_le h (by omega)), nm, nm, nI_sub h]
    have key : ∀ c, c ≤ a → ch a c = ch a k → f_X5_ways_24 FU (nI a) (nI c) 1 1 = some (lN (ch a k)) := by
      intro c hc e
      have := ways_loop ha hc c 0 FU (by omega) (by unfold FU; omega)
      rw [ch_0, e] at this
      exact this
    unfold mn
    by_cases c : a - k < k
    · rw [if_pos (nI_lt c (by omega))]
      exact key (a - k) (by omega) (ch_sym a k h).symm
    · rw [if_neg (nI_nlt (by omega) (by omega))]
      exact key k h rfl
  · rw [if_neg (nI_ge (by omega) (by omega)), ch_gt (by omega)]
    rfl
/-- the reference's row of ways -/
theorem choose_42 {n k : Nat} (hn : n ≤ 60) (hk : k ≤ 60) : ∀ (q m fuel : Nat) (um : St), m + q = n → q < fuel → (∀ j, j ≤ 60 → um.2.2 j = lN (ch m j)) → ∃ um', f_X9_choose_42 fuel (nI n) (nI k) (nI (m + 1)) um = some (lN (ch n k), um') ∧ um'.1 = um.1 ∧ um'.2.1 = um.2.1 := by
  intro q
  induction q with
  | zero =>
    intro m fuel um hm hf hu
    obtain ⟨f, rfl⟩ : ∃ f, fuel = f + 1 := ⟨fuel - 1, by omega⟩
    have : m = n := by omega
    subst this
    rw [f_X9_choose_42, if_pos (nI_lt (by omega) (by omega)), ld_ok (okN (show k < 61 by omega) (by decide)), nI_cl (by omega), hu k hk]
    exact ⟨um, rfl, rfl, rfl⟩
  | succ q ih =>
    intro m fuel um hm hf hu
    obtain ⟨f, rfl⟩ : ∃ f, fuel = f + 1 := ⟨fuel - 1, by omega⟩
    have hx : ∀ um' : St, um'.1 = um.1 → um'.2.1 = um.2.1 → (∀ j, j ≤ 60 → um'.2.2 j = lN (ch (m + 1) j)) → ∃ um'', f_X9_choose_42 f (nI n) (nI k) (nI (m + 2)) um' = some (lN (ch n k), um'') ∧ um''.1 = um.1 ∧ um''.2.1 = um.2.1 := by
      intro um' a1 a2 a3
      obtain ⟨u2, b1, b2, b3⟩ := ih (m + 1) f um' (by omega) (by omega) a3
      exact ⟨u2, b1, by rw [b2, a1], by rw [b3, a2]⟩
    rw [f_X9_choose_42, if_neg (nI_nlt (by omega) (by omega))]
    -- follow the inner loop to its end
    have hz : ∃ um', um'.1 = um.1 ∧ um'.2.1 = um.2.1 ∧ (∀ j, j ≤ 60 → um'.2.2 j = lN (ch (m + 1) j)) ∧ f_X9_choose_50 (f_X9_choose_42 f) FU (nI n) (nI k) (nI (m + 1)) (nI (m + 1)) um = f_X9_choose_42 f (nI n) (nI k) (nI (m + 2)) um' := by
      have lem : ∀ (i fuel : Nat) (v : St), i ≤ m + 1 → i < fuel → v.1 = um.1 → v.2.1 = um.2.1 → (∀ j, j ≤ i → v.2.2 j = lN (ch m j)) → (∀ j, i < j → j ≤ 60 → v.2.2 j = lN (ch (m + 1) j)) → ∃ um', um'.1 = um.1 ∧ um'.2.1 = um.2.1 ∧ (∀ j, j ≤ 60 → um'.2.2 j = lN (ch (m + 1) j)) ∧ f_X9_choose_50 (f_X9_choose_42 f) fuel (nI n) (nI k) (nI (m + 1)) (nI i) v = f_X9_choose_42 f (nI n) (nI k) (nI (m + 2)) um' := by
        intro i
        induction i with
        | zero =>
          intro fuel v hi hf v1 v2 h1 h2
          obtain ⟨f9, rfl⟩ : ∃ f, fuel = f + 1 := ⟨fuel - 1, by omega⟩
          rw [f_X9_choose_50, if_pos (by decide), nm, nI_1]
          refine ⟨v, v1, v2, fun j hj => ?_, rfl⟩
          by_cases e : j = 0
          · subst e; rw [h1 0 (Nat.le_refl _), ch_0, ch_0]
          · exact h2 j (by omega) hj
        | succ i ih2 =>
          intro fuel v hi hf v1 v2 h1 h2
          obtain ⟨f9, rfl⟩ : ∃ f, fuel = f + 1 := ⟨fuel - 1, by omega⟩
          rw [f_X9_choose_50, if_neg (nI_nle (by omega) (by omega)), ld_ok (okN (show i + 1 < 61 by omega) (by decide)), nI_pred, ld_ok (okN (show i < 61 by omega) (by decide)), stl_ok (okN (show i + 1 < 61 by omega) (by decide)), nm, nI_cl (by omega), nI_cl (by omega), h1 (i + 1) (Nat.le_refl _), h1 i (by omega), lN_add, Nat.add_comm (ch m (i + 1)), ← ch_ss]
          have e : nI (i + 1) + -1 = nI i := by rw [← Int32.sub_eq_add_neg]; exact nI_pred i
          rw [e]
          refine ih2 f9 _ (by omega) (by omega) v1 v2 ?_ ?_
          · intro j hj
            simp [st_l, vp_updL, show ¬ j = i + 1 by omega, h1 j (by omega)]
          · intro j hj hj2
            by_cases z : j = i + 1
            · subst z; simp [st_l, vp_updL]
            · simp [st_l, vp_updL, z, h2 j (by omega) hj2]
      exact lem (m + 1) FU um (Nat.le_refl _) (by unfold FU; omega) rfl rfl (fun j hj => hu j (by omega)) (fun j hj hj2 => by rw [hu j hj2, ch_gt (by omega), ch_gt (show m + 1 < j by omega)])
    obtain ⟨um', a1, a2, a3, a4⟩ := hz
    rw [a4]
    exact hx um' a1 a2 a3
theorem choose9 {n k : Nat} (hn : n ≤ 60) (hk : k ≤ 60) (um : St) : ∃ um', f_X9_choose (nI n) (nI k) um = some (lN (ch n k), um') ∧ um'.1 = um.1 ∧ um'.2.1 = um.2.1 := by
  rw [f_X9_choose, if_neg (nI_pos (by omega))]
  by_cases h : k ≤ n
  · rw [if_pos (nI_le h (by omega))]
    have lem : ∀ (q i fuel : Nat) (v : St), i + q = 61 → q < fuel → v.1 = um.1 → v.2.1 = um.2.1 → (∀ j, j < i → v.2.2 j = lN (ch 0 j)) → ∃ um', um'.1 = um.1 ∧ um'.2.1 = um.2.1 ∧ (∀ j, j ≤ 60 → um'.2.2 j = lN (ch 0 j)) ∧ f_X9_choose_13 fuel (nI n) (nI k) (nI i) v = f_X9_choose_42 FU (nI n) (nI k) 1 um' := by
      intro q
      induction q with
      | zero =>
        intro i fuel v hi hf v1 v2 hu
        obtain ⟨f, rfl⟩ : ∃ f, fuel = f + 1 := ⟨fuel - 1, by omega⟩
        have : i = 61 := by omega
        subst this
        rw [f_X9_choose_13, if_pos (by decide)]
        exact ⟨v, v1, v2, fun j hj => hu j (by omega), rfl⟩
      | succ q ih =>
        intro i fuel v hi hf v1 v2 hu
        obtain ⟨f, rfl⟩ : ∃ f, fuel = f + 1 := ⟨fuel - 1, by omega⟩
        have ok : okI (nI i) 61 := okN (by omega) (by decide)
        have go : ∀ w, w = lN (ch 0 i) → ∃ um', um'.1 = um.1 ∧ um'.2.1 = um.2.1 ∧ (∀ j, j ≤ 60 → um'.2.2 j = lN (ch 0 j)) ∧ f_X9_choose_33 (f_X9_choose_13 f) (nI n) (nI k) (nI i) w (nI i) v = f_X9_choose_42 FU (nI n) (nI k) 1 um' := by
          intro w hw
          rw [f_X9_choose_33, stl_ok ok, nm, nI_1, nI_cl (by omega)]
          refine ih (i + 1) f _ (by omega) (by omega) v1 v2 ?_
          intro j hj
          by_cases e : j = i
          · subst e; simp [st_l, vp_updL, hw]
          · simp [st_l, vp_updL, e, hu j (by omega)]
        rw [f_X9_choose_13, if_neg (show ¬ (60 : Int32) < nI i from nI_nlt (a := 60) (by omega) (by decide))]
        by_cases e : i = 0
        · subst e
          rw [if_pos nI_0]; exact go 1 rfl
        · rw [if_neg (nI_ne0 (by omega) (by omega))]
          obtain ⟨i', rfl⟩ : ∃ i', i = i' + 1 := ⟨i - 1, by omega⟩
          exact go 0 rfl
    obtain ⟨u1, a1, a2, a3, a4⟩ := lem 61 0 FU um (by omega) (by unfold FU; omega) rfl rfl (fun j hj => by omega)
    rw [nI_0] at a4
    rw [a4]
    obtain ⟨u2, b1, b2, b3⟩ := choose_42 hn hk n 0 FU u1 (by omega) (by unfold FU; omega) a3
    exact ⟨u2, b1, by rw [b2, a1], by rw [b3, a2]⟩
  · rw [if_neg (nI_ge (by omega) (by omega)), ch_gt (by omega)]
    exact ⟨um, rfl, rfl, rfl⟩
