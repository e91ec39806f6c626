theorem aboveZero_loop {uf : Nat → Int32} {c : Nat → Nat} (hc : ∀ z, z ≤ 3 → c z ≤ 60 ∧ uf z = nI (c z)) : ∀ (q i fuel : Nat), i + q = 4 → q < fuel → f_X5_aboveZero_10 uf fuel (nI (cnt (fun z => decide (0 < c z)) i)) 4 (nI i) = some (nI (cnt (fun z => decide (0 < c z)) 4)) := by
  intro q
  induction q with
  | zero =>
    intro i fuel hi hf
    obtain ⟨f, rfl⟩ : ∃ f, fuel = f + 1 := ⟨fuel - 1, by omega⟩
    have : i = 4 := by omega
    subst this
    rw [f_X5_aboveZero_10, if_pos (by decide)]
  | succ q ih =>
    intro i fuel hi hf
    obtain ⟨f, rfl⟩ : ∃ f, fuel = f + 1 := ⟨fuel - 1, by omega⟩
    have step := ih (i + 1) f (by omega) (by omega)
    rw [cnt] at step
    obtain ⟨h1, h2⟩ := hc i (by omega)
    rw [f_X5_aboveZero_10, if_neg (show ¬ (4 : Int32) ≤ nI i from nI_ge (b := 4) (by omega) (by decide)), ld_ok (okN (show i < 4 by omega) (by decide)), nI_cl (by omega), h2]
    by_cases e : c i = 0
    · rw [e, nI_0, if_pos (by decide), f_X5_aboveZero_30, nm, nI_1]
      simpa [e] using step
    · rw [if_neg (nI_nle (by omega) (by omega)), nm, f_X5_aboveZero_30, nm, nI_1, nI_1]
      simpa [show 0 < c i by omega] using step
theorem aboveZero5 {uf : Nat → Int32} {c : Nat → Nat} (hc : ∀ z, z ≤ 3 → c z ≤ 60 ∧ uf z = nI (c z)) : f_X5_aboveZero uf = some (nI (cnt (fun z => decide (0 < c z)) 4)) := by
  have := aboveZero_loop hc 4 0 FU (by omega) (by unfold FU; omega)
  rw [cnt, nI_0] at this
  exact this
def cA (um : St) (n z : Nat) : Nat := cnt (nP (um.2.1 17) (um.2.1 18) z 0 1) n
def cB (um : St) (n k : Nat) : Nat := cnt (nP (um.2.1 17) (um.2.1 18) 0 k 2) n
def cX (um : St) (n z k : Nat) : Nat := cnt (nP (um.2.1 17) (um.2.1 18) z k 0) n
def cT (um : St) (n : Nat) : Nat := cnt (nP (um.2.1 17) (um.2.1 18) 0 0 3) n
def tri (um : St) (n : Nat) : Nat := cnt (fun z => decide (0 < cA um n z)) 4 * cnt (fun k => decide (0 < cB um n k)) 4
theorem isTried9 {um : St} {n : Nat} (hn : n ≤ 60) (h16 : um.1 16 = nI n) (z k : Nat) : f_X9_isTried um (nI z) (nI k) = some (if 0 < cA um n z ∧ 0 < cB um n k then 1 else 0) := by
  have t1 := tallyOf9 hn h16 (z := z) (k := k) (w := 1) (by omega)
  have t2 := tallyOf9 hn h16 (z := z) (k := k) (w := 2) (by omega)
  rw [nP_1] at t1
  rw [nP_2] at t2
  have l1 : cA um n z ≤ 60 := Nat.le_trans (cnt_le _ _) hn
  have l2 : cB um n k ≤ 60 := Nat.le_trans (cnt_le _ _) hn
  have t1 : f_X9_tallyOf um (nI z) (nI k) 1 = some (nI (cA um n z)) := t1
  have t2 : f_X9_tallyOf um (nI z) (nI k) 2 = some (nI (cB um n k)) := t2
  rw [f_X9_isTried, t1, bd_s]
  by_cases e1 : cA um n z = 0
  · rw [e1, nI_0, if_pos (by decide), if_neg (by omega)]
  · rw [if_neg (nI_nle (by omega) (by omega)), t2, bd_s]
    by_cases e2 : cB um n k = 0
    · rw [e2, nI_0, if_pos (by decide), if_neg (by omega)]
    · rw [if_neg (nI_nle (by omega) (by omega)), if_pos ⟨by omega, by omega⟩]
theorem triedMany_loop {um : St} {n : Nat} (hn : n ≤ 60) (h16 : um.1 16 = nI n) : ∀ (q i fuel : Nat), i + q = 16 → q < fuel → f_X9_triedMany_4 um fuel (nI (cnt (fun h => decide (0 < cA um n (h / 4)) && decide (0 < cB um n (h % 4))) i)) (nI i) = some (nI (cnt (fun h => decide (0 < cA um n (h / 4)) && decide (0 < cB um n (h % 4))) 16)) := by
  intro q
  induction q with
  | zero =>
    intro i fuel hi hf
    obtain ⟨f, rfl⟩ : ∃ f, fuel = f + 1 := ⟨fuel - 1, by omega⟩
    have : i = 16 := by omega
    subst this
    rw [f_X9_triedMany_4, if_pos (by decide)]
  | succ q ih =>
    intro i fuel hi hf
    obtain ⟨f, rfl⟩ : ∃ f, fuel = f + 1 := ⟨fuel - 1, by omega⟩
    have step := ih (i + 1) f (by omega) (by omega)
    rw [cnt] at step
    rw [f_X9_triedMany_4, if_neg (show ¬ (16 : Int32) ≤ nI i from nI_ge (b := 16) (by omega) (by decide)), show (4 : Int32) = nI 4 from rfl, nI_mod (by omega) (by decide), nI_div (by omega) (by decide), isTried9 hn h16, bd_s]
    by_cases e : 0 < cA um n (i / 4) ∧ 0 < cB um n (i % 4)
    · rw [if_pos e, if_neg zne1, f_X9_triedMany_29, nm, nm, nI_1, nI_1]
      simpa [e.1, e.2] using step
    · rw [if_neg e, if_pos rfl, f_X9_triedMany_29, nm, nm, nI_1, Int32.add_zero]
      have e' : (decide (0 < cA um n (i / 4)) && decide (0 < cB um n (i % 4))) = false := by
        rw [Bool.and_eq_false_iff]
        by_cases c : 0 < cA um n (i / 4)
        · exact Or.inr (by simp [show ¬ 0 < cB um n (i % 4) from fun z => e ⟨c, z⟩])
        · exact Or.inl (by simp [c])
      rw [e'] at step
      simpa using step
theorem cnt_sm (P : Nat → Bool) (n : Nat) : cnt P n = sm (fun i => (P i).toNat) n := by
  induction n with
  | zero => rfl
  | succ n ih => rw [cnt, sm, ih]; cases P n <;> rfl
theorem and_nat (a b : Bool) : (a && b).toNat = a.toNat * b.toNat := by cases a <;> cases b <;> rfl
theorem cnt_prod (p q : Nat → Bool) : cnt (fun h => p (h / 4) && q (h % 4)) 16 = cnt p 4 * cnt q 4 := by
  rw [cnt_sm, cnt_sm, cnt_sm]
  simp only [sm, and_nat, Nat.reduceDiv, Nat.reduceMod, Nat.add_mul, Nat.mul_add, Nat.zero_mul, Nat.mul_zero]
  omega
theorem triedMany9 {um : St} {n : Nat} (hn : n ≤ 60) (h16 : um.1 16 = nI n) : f_X9_triedMany um = some (nI (tri um n)) := by
  have := triedMany_loop hn h16 16 0 FU (by omega) (by unfold FU; omega)
  rw [cnt, nI_0, cnt_prod (fun z => decide (0 < cA um n z)) (fun k => decide (0 < cB um n k))] at this
  exact this
theorem tri_le (um : St) (n : Nat) : tri um n ≤ 16 := by
  have h1 := cnt_le (fun z => decide (0 < cA um n z)) 4
  have h2 := cnt_le (fun k => decide (0 < cB um n k)) 4
  exact Nat.mul_le_mul h1 h2
theorem triedHabits5 {un um : St} (h : RN un um) {n : Nat} (hn : n ≤ 60) (h16 : um.1 16 = nI n) : f_X5_triedHabits un = some (nI (tri um n)) := by
  obtain ⟨n', hn', h4, h16', h3, hb, hz, hk⟩ := h
  have : n' = n := (nI_eq (by omega) (by omega)).mp (h16'.symm.trans h16)
  subst this
  rw [f_X5_triedHabits, aboveZero5 (c := cA um n') (fun z hz3 => ⟨Nat.le_trans (cnt_le _ _) hn, hz z hz3⟩), aboveZero5 (c := cB um n') (fun k hk3 => ⟨Nat.le_trans (cnt_le _ _) hn, hk k hk3⟩), bd_s, bd_s, nI_mul]
  rfl
def gT (a b t : Nat) (i : Nat) : Nat := ch b i * ch (t - b) (a - i)
theorem sm_top (g : Nat → Nat) (x : Nat) : ∀ d, sm (fun j => g (x + j)) d + sm g x = sm g (x + d) := by
  intro d
  induction d with
  | zero => simp [sm]
  | succ d ih => rw [sm, show x + (d + 1) = x + d + 1 by omega, sm, ← ih]; omega
theorem gT_total {a b t x d : Nat} (hb : b ≤ t) (hd : x + d ≤ a + 1) : sm (fun j => gT a b t (x + j)) d ≤ ch t a := by
  have h1 := sm_top (gT a b t) x d
  have h2 : sm (gT a b t) (x + d) ≤ sm (gT a b t) (a + 1) := sm_le hd
  have h3 : sm (gT a b t) (a + 1) = ch (b + (t - b)) a := vand b (t - b) a
  rw [show b + (t - b) = t by omega] at h3
  omega
def pastV (um : St) (n z k : Nat) : Int32 :=
  if 0 < cA um n z ∧ 0 < cB um n k then
    (if sm (fun j => gT (cA um n z) (cB um n k) (cT um n) (cX um n z k + j)) (min (cA um n z) (cB um n k) + 1 - cX um n z k) ≤ ch (cT um n) (cA um n z) / (20 * tri um n) then 1 else 0) else 0
theorem pred_lt {x : Nat} (hx : x < 1000) : nI x + -1 < nI x := by
  rw [Int32.lt_iff_toInt_lt]
  have h1 : (nI x).toInt = x := nI_toInt (by omega)
  have h2 : (-1 : Int32).toInt = -1 := by decide
  rw [tI_add (by rw [h1, h2]; omega) (by rw [h1, h2]; omega), h1, h2]
  omega
theorem past5_loop {un : St} {z k a b t x most S : Nat} (hz : z ≤ 3) (hk : k ≤ 3) (ha : a ≤ 60) (hb : b ≤ t) (ht : t ≤ 60) (hx : un.2.1 0 (z * 4 + k) = nI x) (h3 : un.1 3 = nI t) (hS : S < 9223372036854775808) (hm : most < 9223372036854775808) :
    ∀ (r fuel τ : Nat), x + r ≤ min a b + 1 → τ + sm (fun j => gT a b t (x + j)) r = S → r < fuel → f_X5_isPastChance_66 un fuel (nI z) (nI k) (nI a) (nI b) (lN most) (lN τ) (nI (x + r) + -1) = some (if S ≤ most then 1 else 0) := by
  intro r
  induction r with
  | zero =>
    intro fuel τ hr hτ hf
    obtain ⟨f, rfl⟩ : ∃ f, fuel = f + 1 := ⟨fuel - 1, by omega⟩
    have : τ = S := by simpa [sm] using hτ
    subst this
    rw [show x + 0 = x from rfl, f_X5_isPastChance_66, show (4 : Int32) = nI 4 from rfl, nI_mul, nI_add, ld_ok (okN (show z * 4 + k < 16 by omega) (by decide)), nI_cl (by omega), hx, if_pos (pred_lt (show x < 1000 by omega)), f_X5_isPastChance_122]
    by_cases c : most < τ
    · rw [if_pos ((cmp_gt hS hm).mpr c), if_neg (by omega)]
    · rw [if_neg (fun q => c ((cmp_gt hS hm).mp q)), if_pos (by omega)]
  | succ r ih =>
    intro fuel τ hr hτ hf
    obtain ⟨f, rfl⟩ : ∃ f, fuel = f + 1 := ⟨fuel - 1, by omega⟩
    have e : nI (x + (r + 1)) + -1 = nI (x + r) := by rw [← Int32.sub_eq_add_neg]; exact nI_pred (x + r)
    have hτ2 : τ + gT a b t (x + r) + sm (fun j => gT a b t (x + j)) r = S := by rw [sm] at hτ; omega
    have hτS : τ < 9223372036854775808 := by omega
    rw [e, f_X5_isPastChance_66, show (4 : Int32) = nI 4 from rfl, nI_mul, nI_add, ld_ok (okN (show z * 4 + k < 16 by omega) (by decide)), nI_cl (by omega), hx, if_neg (nI_nlt (by omega) (by omega))]
    by_cases c : most < τ
    · rw [if_pos ((cmp_gt hτS hm).mpr c), f_X5_isPastChance_122, if_pos ((cmp_gt hτS hm).mpr c), if_neg (by omega)]
    · rw [if_neg (fun q => c ((cmp_gt hτS hm).mp q)), ways5 (by omega) (by omega), bd_s, h3, nI_sub hb, nI_sub (show x + r ≤ a by omega), ways5 (by omega) (by omega), bd_s, nm, nm, lN_mul, lN_add]
      exact ih f (τ + gT a b t (x + r)) (by omega) hτ2 (by omega)
theorem past9_loop {um0 : St} {n a b t S : Nat} (hn : n ≤ 60) (h16 : um0.1 16 = nI n) (hT : 0 < tri um0 n) (ha : a ≤ 60) (hb : b ≤ t) (ht : t ≤ 60) (hS : S < 9223372036854775808) :
    ∀ (r i fuel σ : Nat) (um : St), um.1 = um0.1 → um.2.1 = um0.2.1 → i + r = min a b + 1 → σ + sm (fun j => gT a b t (i + j)) r = S → r < fuel → ∃ um', f_X9_isPast_52 fuel (nI a) (nI b) (nI t) (lN σ) (nI i) um = some ((if S ≤ ch t a / (20 * tri um0 n) then 1 else 0), um') ∧ um'.1 = um0.1 ∧ um'.2.1 = um0.2.1 := by
  intro r
  induction r with
  | zero =>
    intro i fuel σ um u1 u2 hi hσ hf
    obtain ⟨f, rfl⟩ : ∃ f, fuel = f + 1 := ⟨fuel - 1, by omega⟩
    have : σ = S := by simpa [sm] using hσ
    subst this
    have fin : ∃ um', f_X9_isPast_100 (nI a) (nI t) (lN σ) um = some ((if σ ≤ ch t a / (20 * tri um0 n) then 1 else 0), um') ∧ um'.1 = um0.1 ∧ um'.2.1 = um0.2.1 := by
      obtain ⟨v, c1, c2, c3⟩ := choose9 ht ha um
      have e1 : v.1 = um0.1 := by rw [c2, u1]
      have e2 : v.2.1 = um0.2.1 := by rw [c3, u2]
      have tm : f_X9_triedMany v = some (nI (tri um0 n)) := by
        rw [triedMany9 hn (um := v) (by rw [e1]; exact h16)]
        unfold tri cA cB
        rw [e2]
      have hl := tri_le um0 n
      have hB := ch_bound (n := t) (k := a) ht
      have hq : ch t a / (20 * tri um0 n) ≤ ch t a := Nat.div_le_self _ _
      rw [f_X9_isPast_100, c1, bd2_s, tm, bd_s, nm, nI_l (by omega), show (20 : Int64) = lN 20 from rfl, lN_mul, dvl_ok (fun z => by
        have := (lN_eqB (a := 20 * tri um0 n) (b := 0) (by omega) (by decide)).mp z
        omega), lN_div (by omega) (by omega)]
      by_cases c : ch t a / (20 * tri um0 n) < σ
      · rw [if_pos ((cmp_gt hS (by omega)).mpr c), if_neg (by omega)]
        exact ⟨v, rfl, e1, e2⟩
      · rw [if_neg (fun q => c ((cmp_gt hS (by omega)).mp q)), if_pos (by omega)]
        exact ⟨v, rfl, e1, e2⟩
    rw [f_X9_isPast_52]
    by_cases c : a < i
    · rw [if_pos (nI_lt c (by omega))]; exact fin
    · rw [if_neg (nI_nlt (by omega) (by omega)), if_pos (nI_lt (by omega) (by omega))]; exact fin
  | succ r ih =>
    intro i fuel σ um u1 u2 hi hσ hf
    obtain ⟨f, rfl⟩ : ∃ f, fuel = f + 1 := ⟨fuel - 1, by omega⟩
    obtain ⟨v, c1, c2, c3⟩ := choose9 (n := b) (k := i) (by omega) (by omega) um
    obtain ⟨w, d1, d2, d3⟩ := choose9 (n := t - b) (k := a - i) (by omega) (by omega) v
    rw [f_X9_isPast_52, if_neg (nI_nlt (by omega) (by omega)), if_neg (nI_nlt (by omega) (by omega)), c1, bd2_s, nI_sub hb, nI_sub (show i ≤ a by omega), d1, bd2_s, nm, nm, lN_mul, lN_add, nI_1]
    refine ih (i + 1) f (σ + ch b i * ch (t - b) (a - i)) w (by rw [d2, c2, u1]) (by rw [d3, c3, u2]) (by omega) ?_ (by omega)
    rw [sm_shift] at hσ
    have e : sm (fun j => gT a b t (i + 1 + j)) r = sm (fun j => gT a b t (i + (j + 1))) r := sm_congr (fun j _ => by show gT a b t (i + 1 + j) = gT a b t (i + (j + 1)); congr 1; omega)
    rw [e, ← hσ]
    show σ + gT a b t i + _ = σ + (gT a b t (i + 0) + _)
    rw [Nat.add_zero]
    omega
theorem cX_le {um : St} {n z k : Nat} : cX um n z k ≤ cA um n z ∧ cX um n z k ≤ cB um n k ∧ cA um n z ≤ cT um n ∧ cB um n k ≤ cT um n := by
  refine ⟨cnt_mono fun i _ h => ?_, cnt_mono fun i _ h => ?_, cnt_mono fun i _ h => ?_, cnt_mono fun i _ h => ?_⟩ <;> simp_all [nP]
theorem past5 {un um : St} (h : RN un um) {n : Nat} (hn : n ≤ 60) (h16 : um.1 16 = nI n) {z k : Nat} (hz3 : z ≤ 3) (hk3 : k ≤ 3) : f_X5_isPastChance un (nI z) (nI k) = some (pastV um n z k) := by
  have tH := triedHabits5 h hn h16
  obtain ⟨n', hn', h4, h16', h3, hb, hz, hk⟩ := h
  have : n' = n := (nI_eq (by omega) (by omega)).mp (h16'.symm.trans h16)
  subst this
  have tA := hz z hz3
  have tB := hk k hk3
  have tX := hb z k hz3 hk3
  have tA : un.2.1 1 z = nI (cA um n' z) := tA
  have tB : un.2.1 2 k = nI (cB um n' k) := tB
  have tX : un.2.1 0 (z * 4 + k) = nI (cX um n' z k) := tX
  have h3 : un.1 3 = nI (cT um n') := h3
  obtain ⟨x1, x2, x3, x4⟩ := cX_le (um := um) (n := n') (z := z) (k := k)
  have x5 : cT um n' ≤ 60 := Nat.le_trans (cnt_le _ _) hn
  rw [f_X5_isPastChance, ld_ok (okN (show z < 4 by omega) (by decide)), ld_ok (okN (show k < 4 by omega) (by decide)), nI_cl (by omega), nI_cl (by omega), tA, tB, tH, bd_s]
  unfold pastV
  by_cases e1 : cA um n' z = 0
  · rw [e1, nI_0, if_pos rfl, if_neg (by omega)]
  · rw [if_neg (nI_ne0 (by omega) (by omega))]
    by_cases e2 : cB um n' k = 0
    · rw [e2, nI_0, if_pos rfl, if_neg (by omega)]
    · rw [if_neg (nI_ne0 (by omega) (by omega)), if_pos (show 0 < cA um n' z ∧ 0 < cB um n' k from ⟨by omega, by omega⟩)]
      have hT : 0 < tri um n' := by
        have p1 : 0 < cnt (fun z => decide (0 < cA um n' z)) 4 := by
          have : cnt (fun i => decide (i = z)) 4 ≤ cnt (fun z => decide (0 < cA um n' z)) 4 := cnt_mono (fun i _ hi => by
            have : i = z := by simpa using hi
            subst this
            simp; omega)
          have : cnt (fun i => decide (i = z)) 4 = 1 := by
            rcases (show z = 0 ∨ z = 1 ∨ z = 2 ∨ z = 3 by omega) with rfl | rfl | rfl | rfl <;> rfl
          omega
        have p2 : 0 < cnt (fun k => decide (0 < cB um n' k)) 4 := by
          have : cnt (fun i => decide (i = k)) 4 ≤ cnt (fun k => decide (0 < cB um n' k)) 4 := cnt_mono (fun i _ hi => by
            have : i = k := by simpa using hi
            subst this
            simp; omega)
          have : cnt (fun i => decide (i = k)) 4 = 1 := by
            rcases (show k = 0 ∨ k = 1 ∨ k = 2 ∨ k = 3 by omega) with rfl | rfl | rfl | rfl <;> rfl
          omega
        exact Nat.mul_pos p1 p2
      have hl := tri_le um n'
      have hB := ch_bound (n := cT um n') (k := cA um n' z) x5
      have hq : ch (cT um n') (cA um n' z) / (20 * tri um n') ≤ ch (cT um n') (cA um n' z) := Nat.div_le_self _ _
      rw [if_neg (nI_ne0 hT (by omega)), h3, ways5 x5 (by omega), bd_s, nm, nI_l (by omega), show (20 : Int64) = lN 20 from rfl, lN_mul, dvl_ok (fun z => by
        have := (lN_eqB (a := 20 * tri um n') (b := 0) (by omega) (by decide)).mp z
        omega), nm, lN_div (by omega) (by omega), nm]
      have tot := gT_total (a := cA um n' z) (b := cB um n' k) (t := cT um n') (x := cX um n' z k) (d := min (cA um n' z) (cB um n' k) + 1 - cX um n' z k) x4 (by omega)
      have em : mn (nI (cA um n' z)) (nI (cB um n' k)) = nI (cX um n' z k + (min (cA um n' z) (cB um n' k) + 1 - cX um n' z k)) + -1 := by
        rw [show cX um n' z k + (min (cA um n' z) (cB um n' k) + 1 - cX um n' z k) = min (cA um n' z) (cB um n' k) + 1 by omega, ← Int32.sub_eq_add_neg, nI_pred]
        unfold mn
        by_cases c : cB um n' k < cA um n' z
        · rw [if_pos (nI_lt c (by omega)), Nat.min_eq_right (by omega)]
        · rw [if_neg (nI_nlt (by omega) (by omega)), Nat.min_eq_left (by omega)]
      rw [em]
      exact past5_loop hz3 hk3 (by omega) x4 x5 tX h3 (by omega) (by omega) (min (cA um n' z) (cB um n' k) + 1 - cX um n' z k) FU 0 (by omega) (by omega) (by unfold FU; omega)
theorem past9 {um : St} {n : Nat} (hn : n ≤ 60) (h16 : um.1 16 = nI n) {z k : Nat} (hz3 : z ≤ 3) (hk3 : k ≤ 3) : ∃ um', f_X9_isPast (nI z) (nI k) um = some (pastV um n z k, um') ∧ um'.1 = um.1 ∧ um'.2.1 = um.2.1 := by
  obtain ⟨x1, x2, x3, x4⟩ := cX_le (um := um) (n := n) (z := z) (k := k)
  have x5 : cT um n ≤ 60 := Nat.le_trans (cnt_le _ _) hn
  have t0 := tallyOf9 hn h16 (z := z) (k := k) (w := 0) (by omega)
  have t1 := tallyOf9 hn h16 (z := z) (k := k) (w := 1) (by omega)
  have t2 := tallyOf9 hn h16 (z := z) (k := k) (w := 2) (by omega)
  have t3 := tallyOf9 hn h16 (z := z) (k := k) (w := 3) (by omega)
  rw [nP_1] at t1
  rw [nP_2] at t2
  rw [nP_3] at t3
  have t0 : f_X9_tallyOf um (nI z) (nI k) 0 = some (nI (cX um n z k)) := t0
  have t1 : f_X9_tallyOf um (nI z) (nI k) 1 = some (nI (cA um n z)) := t1
  have t2 : f_X9_tallyOf um (nI z) (nI k) 2 = some (nI (cB um n k)) := t2
  have t3 : f_X9_tallyOf um (nI z) (nI k) 3 = some (nI (cT um n)) := t3
  rw [f_X9_isPast, isTried9 hn h16, bd_s]
  unfold pastV
  by_cases e : 0 < cA um n z ∧ 0 < cB um n k
  · rw [if_pos e, if_neg zne1, t0, bd_s, t1, bd_s, t2, bd_s, t3, bd_s, if_pos e]
    have hT : 0 < tri um n := by
      have p1 : 0 < cnt (fun z => decide (0 < cA um n z)) 4 := by
        have : cnt (fun i => decide (i = z)) 4 ≤ cnt (fun z => decide (0 < cA um n z)) 4 := cnt_mono (fun i _ hi => by
          have : i = z := by simpa using hi
          subst this
          simp; omega)
        have : cnt (fun i => decide (i = z)) 4 = 1 := by
          rcases (show z = 0 ∨ z = 1 ∨ z = 2 ∨ z = 3 by omega) with rfl | rfl | rfl | rfl <;> rfl
        omega
      have p2 : 0 < cnt (fun k => decide (0 < cB um n k)) 4 := by
        have : cnt (fun i => decide (i = k)) 4 ≤ cnt (fun k => decide (0 < cB um n k)) 4 := cnt_mono (fun i _ hi => by
          have : i = k := by simpa using hi
          subst this
          simp; omega)
        have : cnt (fun i => decide (i = k)) 4 = 1 := by
          rcases (show k = 0 ∨ k = 1 ∨ k = 2 ∨ k = 3 by omega) with rfl | rfl | rfl | rfl <;> rfl
        omega
      exact Nat.mul_pos p1 p2
    have hB := ch_bound (n := cT um n) (k := cA um n z) x5
    have tot := gT_total (a := cA um n z) (b := cB um n k) (t := cT um n) (x := cX um n z k) (d := min (cA um n z) (cB um n k) + 1 - cX um n z k) x4 (by omega)
    exact past9_loop hn h16 hT (by omega) x4 x5 (by omega) (min (cA um n z) (cB um n k) + 1 - cX um n z k) (cX um n z k) FU 0 um rfl rfl (by omega) (by omega) (by unfold FU; omega)
  · rw [if_neg e, if_pos rfl]
    exact ⟨um, by rw [if_neg e], rfl, rfl⟩
theorem pastV_cases (um : St) (n z k : Nat) : pastV um n z k = 0 ∨ pastV um n z k = 1 := by
  unfold pastV
  split
  · split
    · exact Or.inr rfl
    · exact Or.inl rfl
  · exact Or.inl rfl
theorem Fr.of2 {um um' : St} (h1 : um'.1 = um.1) (h2 : um'.2.1 = um.2.1) : Fr [] [] um um' := ⟨fun k _ => by rw [h1], fun k _ => by rw [h2]⟩
theorem s_habit {un um : St} (h : RN un um) (p0 p1 : Int32) : ∃ r um', f_X8_habit un p0 p1 = some r ∧ f_X9_habit p0 p1 um = some (r, um') ∧ Fr [] [] um um' := by
  obtain ⟨n, hn, h4, h16, -⟩ := id h
  rw [f_X8_habit, f_X9_habit]
  rcases gZ p0 with ⟨a, b, e1, e2⟩ | ⟨e1, e2⟩
  · rw [e1, e2, bd_s, bd_s, if_neg zne1, if_neg zne1]
    rcases gK p1 with ⟨a1, b1, e1, e2⟩ | ⟨e1, e2⟩
    · rw [e1, e2, bd_s, bd_s, if_neg zne1, if_neg zne1]
      obtain ⟨z, hz3, rfl⟩ := asN a b (M := 3) (by decide)
      obtain ⟨k, hk3, rfl⟩ := asN a1 b1 (M := 3) (by decide)
      obtain ⟨um', q1, q2, q3⟩ := past9 hn h16 hz3 hk3
      rw [past5 h hn h16 hz3 hk3, q1, bd_s, bd2_s]
      rcases pastV_cases um n z k with e | e <;> rw [e]
      · exact ⟨_, _, rfl, rfl, Fr.of2 q2 q3⟩
      · exact ⟨_, _, rfl, rfl, Fr.of2 q2 q3⟩
    · rw [e1, e2, bd_s, bd_s, if_pos rfl, if_pos rfl]; exact ⟨_, _, rfl, rfl, Fr.refl um⟩
  · rw [e1, e2, bd_s, bd_s, if_pos rfl, if_pos rfl]; exact ⟨_, _, rfl, rfl, Fr.refl um⟩

theorem nI_inj_m1 {j : Nat} (h : j < 1000) : ¬ nI j = -1 := by
  intro q
  have := congrArg Int32.toInt q
  rw [nI_toInt (by omega)] at this
  have h2 : (-1 : Int32).toInt = -1 := by decide
  omega
theorem RN.of2 {un um um' : St} (h : RN un um) (h1 : um'.1 = um.1) (h2 : um'.2.1 = um.2.1) : RN un um' := by
  unfold RN; rw [h1, h2]; exact h
/-- what both hold of the best so far -/
def bst (um0 : St) (n : Nat) (best bb bz : Int32) : Prop := (best = -1) ∨ ∃ h, h < 16 ∧ best = nI h ∧ bb = nI (cX um0 n (h / 4) (h % 4)) ∧ bz = nI (cA um0 n (h / 4))
theorem strong_loop {un um0 : St} (h : RN un um0) {n : Nat} (hn : n ≤ 60) (h16 : um0.1 16 = nI n) : ∀ (q i f1 f2 : Nat) (best bb bz : Int32) (um : St), i + q = 16 → q < f1 → q < f2 → um.1 = um0.1 → um.2.1 = um0.2.1 → bst um0 n best bb bz → ∃ r um', f_X5_strongestHabit_9 un f1 best bb bz (nI i) = some r ∧ f_X9_strongest_4 f2 best (nI i) um = some (r, um') ∧ um'.1 = um0.1 ∧ um'.2.1 = um0.2.1 := by
  intro q
  induction q with
  | zero =>
    intro i f1 f2 best bb bz um hi hf1 hf2 u1 u2 hb
    obtain ⟨f1, rfl⟩ : ∃ f, f1 = f + 1 := ⟨f1 - 1, by omega⟩
    obtain ⟨f2, rfl⟩ : ∃ f, f2 = f + 1 := ⟨f2 - 1, by omega⟩
    have : i = 16 := by omega
    subst this
    rw [f_X5_strongestHabit_9, f_X9_strongest_4, if_pos (by decide), if_pos (by decide)]
    exact ⟨_, _, rfl, rfl, u1, u2⟩
  | succ q ih =>
    intro i f1 f2 best bb bz um hi hf1 hf2 u1 u2 hb
    obtain ⟨f1, rfl⟩ : ∃ f, f1 = f + 1 := ⟨f1 - 1, by omega⟩
    obtain ⟨f2, rfl⟩ : ∃ f, f2 = f + 1 := ⟨f2 - 1, by omega⟩
    have hc : ¬ (16 : Int32) ≤ nI i := nI_ge (b := 16) (by omega) (by decide)
    have hz3 : i / 4 ≤ 3 := by omega
    have hk3 : i % 4 ≤ 3 := by omega
    have hum := h.of2 u1 u2
    have h16' : um.1 16 = nI n := by rw [u1]; exact h16
    have p5 := past5 h hn h16 hz3 hk3
    obtain ⟨w, p9, w1, w2⟩ := past9 hn h16' hz3 hk3
    have pe : pastV um n (i / 4) (i % 4) = pastV um0 n (i / 4) (i % 4) := by
      unfold pastV cA cB cX cT tri cA cB; rw [u2]
    rw [pe] at p9
    have v1 : w.1 = um0.1 := by rw [w1, u1]
    have v2 : w.2.1 = um0.2.1 := by rw [w2, u2]
    have w16 : w.1 16 = nI n := by rw [v1]; exact h16
    have tX : ∀ z k, f_X9_tallyOf w (nI z) (nI k) 0 = some (nI (cX um0 n z k)) := fun z k => by
      have := tallyOf9 hn w16 (z := z) (k := k) (w := 0) (by omega)
      rw [v2] at this; exact this
    have tA : ∀ z k, f_X9_tallyOf w (nI z) (nI k) 1 = some (nI (cA um0 n z)) := fun z k => by
      have := tallyOf9 hn w16 (z := z) (k := k) (w := 1) (by omega)
      rw [nP_1, v2] at this; exact this
    obtain ⟨n', hn', h4, h16'', h3, hbo, hzo, hko⟩ := id h
    have : n' = n := (nI_eq (by omega) (by omega)).mp (h16''.symm.trans h16)
    subst this
    have cb : un.2.1 0 i = nI (cX um0 n' (i / 4) (i % 4)) := by
      have := hbo (i / 4) (i % 4) hz3 hk3
      rw [show i / 4 * 4 + i % 4 = i by omega] at this
      exact this
    have cz : un.2.1 1 (i / 4) = nI (cA um0 n' (i / 4)) := hzo (i / 4) hz3
    have okI16 : okI (nI i) 16 := okN (by omega) (by decide)
    have okI4 : okI (nI (i / 4)) 4 := okN (by omega) (by decide)
    -- the two ways on
    have keep : ∃ r um', f_X5_strongestHabit_92 un (f_X5_strongestHabit_9 un f1) best bb bz (nI i) = some r ∧ f_X9_strongest_89 (f_X9_strongest_4 f2) best (nI i) w = some (r, um') ∧ um'.1 = um0.1 ∧ um'.2.1 = um0.2.1 := by
      rw [f_X5_strongestHabit_92, f_X9_strongest_89, nm, nm, nI_1]
      exact ih (i + 1) f1 f2 best bb bz w (by omega) (by omega) (by omega) v1 v2 hb
    have take : ∃ r um', f_X5_strongestHabit_92 un (f_X5_strongestHabit_9 un f1) (nI i) (nI (cX um0 n' (i / 4) (i % 4))) (nI (cA um0 n' (i / 4))) (nI i) = some r ∧ f_X9_strongest_83 (f_X9_strongest_4 f2) (nI i) w = some (r, um') ∧ um'.1 = um0.1 ∧ um'.2.1 = um0.2.1 := by
      rw [f_X5_strongestHabit_92, f_X9_strongest_83, f_X9_strongest_88, f_X9_strongest_89, nm, nm, nI_1]
      exact ih (i + 1) f1 f2 _ _ _ w (by omega) (by omega) (by omega) v1 v2 (Or.inr ⟨i, by omega, rfl, rfl, rfl⟩)
    rw [f_X5_strongestHabit_9, if_neg hc, nm, f_X9_strongest_4, if_neg hc, show (4 : Int32) = nI 4 from rfl, nI_mod (by omega) (by decide), nI_div (by omega) (by decide), p9, bd2_s]
    rcases hb with hb | ⟨bh, hbh, hb1, hb2, hb3⟩
    · rw [if_pos hb, f_X5_strongestHabit_48, f_X5_strongestHabit_53, if_neg zne1, show (4 : Int32) = nI 4 from rfl, nI_mod (by omega) (by decide), p5, bd_s]
      rcases pastV_cases um0 n' (i / 4) (i % 4) with e | e <;> rw [e]
      · rw [if_pos rfl, if_pos rfl]; exact keep
      · rw [if_neg zne1, if_neg zne1, ld_ok okI16, ld_ok okI4, nI_cl (by omega), nI_cl (by omega), cb, cz, tX, bd_s, tA, bd_s, if_pos hb]
        exact take
    · have hne : ¬ best = -1 := by rw [hb1]; exact nI_inj_m1 (by omega)
      rw [if_neg hne, ld_ok okI16, ld_ok okI4, nI_cl (by omega), nI_cl (by omega), cb, cz]
      have mb : best / nI 4 = nI (bh / 4) := by rw [hb1, nI_div (by omega) (by decide)]
      have mm : best - best / nI 4 * nI 4 = nI (bh % 4) := by rw [hb1, nI_mod (by omega) (by decide)]
      by_cases c : nI (cX um0 n' (i / 4) (i % 4)) * bz ≤ bb * nI (cA um0 n' (i / 4))
      · rw [if_pos c, f_X5_strongestHabit_53, if_pos rfl]
        rcases pastV_cases um0 n' (i / 4) (i % 4) with e | e <;> rw [e]
        · rw [if_pos rfl]; exact keep
        · rw [if_neg zne1, tX, bd_s, tA, bd_s, if_neg hne, mm, mb, tA, bd_s, tX, bd_s, ← hb2, ← hb3, if_pos c, f_X9_strongest_88]
          exact keep
      · rw [if_neg c, f_X5_strongestHabit_48, f_X5_strongestHabit_53, if_neg zne1, show (4 : Int32) = nI 4 from rfl, nI_mod (by omega) (by decide), p5, bd_s]
        rcases pastV_cases um0 n' (i / 4) (i % 4) with e | e <;> rw [e]
        · rw [if_pos rfl, if_pos rfl]; exact keep
        · rw [if_neg zne1, if_neg zne1, ld_ok okI16, ld_ok okI4, nI_cl (by omega), nI_cl (by omega), cb, cz, tX, bd_s, tA, bd_s, if_neg hne, mm, mb, tA, bd_s, tX, bd_s, ← hb2, ← hb3, if_neg c]
          exact take
theorem s_strongest {un um : St} (h : RN un um) : ∃ r um', f_X8_strongest un = some r ∧ f_X9_strongest um = some (r, um') ∧ Fr [] [] um um' := by
  obtain ⟨n, hn, h4, h16, -⟩ := id h
  rw [f_X8_strongest, f_X9_strongest, f_X5_strongestHabit]
  obtain ⟨r, um', q1, q2, q3, q4⟩ := strong_loop h hn h16 16 0 FU FU (-1) 0 1 um (by omega) (by unfold FU; omega) (by unfold FU; omega) rfl rfl (Or.inl rfl)
  rw [nI_0] at q1 q2
  rw [q1, q2, bd_s]
  exact ⟨_, _, rfl, rfl, Fr.of2 q3 q4⟩
theorem s_count {un ub ue um : St} (hn : RN un um) (hb : RB ub um) (he : REb ue um) (p0 : Int32) : ∃ r, f_X8_count un ub ue p0 = some r ∧ f_X9_count um p0 = some r := by
  obtain ⟨n, n60, h4, h16, -⟩ := id hn
  rw [f_X8_count, f_X9_count]
  by_cases q0 : p0 = 0
  · rw [if_pos q0, if_pos q0, f_X5_size, h4, h16]; exact ⟨_, rfl, rfl⟩
  · rw [if_neg q0, if_neg q0]
    by_cases q1 : p0 = 1
    · rw [if_pos q1, if_pos q1, triedHabits5 hn n60 h16, triedMany9 n60 h16]; exact ⟨_, rfl, rfl⟩
    · rw [if_neg q1, if_neg q1]
      by_cases q2 : p0 = 2
      · rw [if_pos q2, if_pos q2, f_X4_thereNow, thereMany9, he.2.2.2.2.2.2.1, he.1]; exact ⟨_, rfl, rfl⟩
      · rw [if_neg q2, if_neg q2]
        by_cases q3 : p0 = 3
        · rw [if_pos q3, if_pos q3, f_X4_roundsPlayed, he.2.2.2.2.2.1]; exact ⟨_, rfl, rfl⟩
        · rw [if_neg q3, if_neg q3]
          by_cases q4 : p0 = 4
          · rw [if_pos q4, if_pos q4, f_X1_size, hb.2.2.2.1]; exact ⟨_, rfl, rfl⟩
          · rw [if_neg q4, if_neg q4]; exact ⟨_, rfl, rfl⟩
