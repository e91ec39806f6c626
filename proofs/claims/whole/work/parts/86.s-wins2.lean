section M8
variable {F L : Nat → Nat → Nat} {C : Nat → Nat → Nat → Nat}
theorem mt_uniq {st rc c a s i j : Nat} (hi : mt F L C st rc c a s i) (hj : mt F L C st rc c a s j) : i = j := by
  rcases Nat.lt_trichotomy i j with h | h | h
  · exact absurd hi.2.2.1 (hj.2.2.2 i hi.1 h)
  · exact h
  · exact absurd hj.2.2.1 (hi.2.2.2 j hj.1 h)
variable {us um : St} {p q stp rcp stq rcq : Nat}
def TQ (F L : Nat → Nat → Nat) (C : Nat → Nat → Nat → Nat) (st rc : Nat) (um : St) (r : Nat) : Prop := ∀ a s c, a < 16 → s < 64 → c < 16 → mS F L C st rc c a s (um.2.1 r (1024 * c + 64 * a + s))
def TK (um : St) (r : Nat) (W : Nat → Nat → Prop) (n : Nat) : Prop := ∀ k, k < n → tb (um.2.1 r k) (W (k / 16) (k % 16))
theorem mS_nn (hB : BD F L C) {st rc c a s : Nat} (ha : a < 16) (hs : s < 64) {v : Int32} (h : mS F L C st rc c a s v) : v = -1 ↔ (F a s ≠ 0 ∧ ∀ j, F a s ≤ j → j ≤ L a s → ¬ cm C st rc c a s j) := by
  rcases h with ⟨h, e⟩ | ⟨h, h2, e⟩ | ⟨h, j, h2, e⟩
  · subst e
    exact ⟨fun z => absurd z (by decide), fun z => absurd h z.1⟩
  · exact ⟨fun _ => ⟨h, h2⟩, fun _ => e⟩
  · have b2 := (hB a s ha hs).2 h
    have b1 := (hB a s ha hs).1
    have b3 := b2.2.2 j h2.1 h2.2.1
    have := h2.2.1
    exact ⟨fun z => absurd (e.symm.trans z) (nI_inj_m1 (by omega)), fun z => absurd h2.2.2.1 (z.2 j h2.1 h2.2.1)⟩
theorem ixN {x y s : Nat} : ((1024 * nI x) + (64 * nI y)) + nI s = nI (1024 * x + 64 * y + s) := by
  rw [show (1024 : Int32) = nI 1024 from rfl, show (64 : Int32) = nI 64 from rfl, nI_mul, nI_mul, nI_add, nI_add]
theorem lt_succ0 {P : Nat → Prop} {s : Nat} : (∃ j, j < s + 1 ∧ P j) ↔ (∃ j, j < s ∧ P j) ∨ P s := by
  constructor
  · rintro ⟨j, b, c⟩
    by_cases e : j = s
    · subst e; exact Or.inr c
    · exact Or.inl ⟨j, by omega, c⟩
  · rintro (⟨j, b, c⟩ | b)
    · exact ⟨j, by omega, c⟩
    · exact ⟨s, by omega, b⟩
theorem all_succ {P : Nat → Prop} {s : Nat} : (∀ j, j < s + 1 → P j) ↔ (∀ j, j < s → P j) ∧ P s := by
  constructor
  · exact fun h => ⟨fun j hj => h j (by omega), h s (by omega)⟩
  · rintro ⟨h, h2⟩ j hj
    by_cases e : j = s
    · subst e; exact h2
    · exact h j (by omega)
theorem now9 (hB : BD F L C) (hT : TQ F L C stq rcq um 10) {a c : Nat} (ha : a < 16) (hc : c < 16) : ∃ r, f_X9_winsNow um (nI a) (nI c) = some r ∧ tb r (W0 F L C stq rcq a c) := by
  have loop : ∀ (n s fuel : Nat) (l3 : Int32), s + n = 64 → n < fuel → tb l3 (∃ s', s' < s ∧ (F a s' ≠ 0 ∧ ∀ j, F a s' ≤ j → j ≤ L a s' → ¬ cm C stq rcq c a s' j)) → ∃ r, f_X9_winsNow_5 um fuel (nI a) (nI c) l3 (nI s) = some r ∧ tb r (W0 F L C stq rcq a c) := by
    intro n
    induction n with
    | zero =>
      intro s fuel l3 hs hf hm
      obtain ⟨f, rfl⟩ : ∃ f, fuel = f + 1 := ⟨fuel - 1, by omega⟩
      have : s = 64 := by omega
      subst this
      rw [f_X9_winsNow_5, if_pos (by decide)]
      rcases hm with ⟨rfl, h⟩ | ⟨rfl, h⟩
      · rw [bk_1]; exact ⟨_, rfl, Or.inl ⟨rfl, h⟩⟩
      · rw [bk_0]; exact ⟨_, rfl, Or.inr ⟨rfl, h⟩⟩
    | succ n ih =>
      intro s fuel l3 hs hf hm
      obtain ⟨f, rfl⟩ : ∃ f, fuel = f + 1 := ⟨fuel - 1, by omega⟩
      have e := mS_nn hB ha (show s < 64 by omega) (hT a s c ha (by omega) hc)
      rw [f_X9_winsNow_5, if_neg (show ¬ (64 : Int32) ≤ nI s from nI_ge (b := 64) (by omega) (by decide))]
      rcases hm with ⟨rfl, h⟩ | ⟨rfl, h⟩
      · rw [if_neg zne1, f_X9_winsNow_38, f_X9_winsNow_43, nm, nI_1]
        exact ih (s + 1) f 1 (by omega) (by omega) (Or.inl ⟨rfl, lt_succ0.mpr (Or.inl h)⟩)
      · rw [if_pos rfl, ixN, ld_ok (okN (show 1024 * c + 64 * a + s < 16384 by omega) (by decide)), nI_cl (by omega)]
        by_cases z : um.2.1 10 (1024 * c + 64 * a + s) = -1
        · rw [if_pos z, f_X9_winsNow_38, f_X9_winsNow_43, nm, nI_1]
          exact ih (s + 1) f 1 (by omega) (by omega) (Or.inl ⟨rfl, lt_succ0.mpr (Or.inr (e.mp z))⟩)
        · rw [if_neg z, f_X9_winsNow_43, nm, nI_1]
          exact ih (s + 1) f 0 (by omega) (by omega) (Or.inr ⟨rfl, fun y => (lt_succ0.mp y).elim h (fun y => z (e.mpr y))⟩)
  obtain ⟨r, r1, r2⟩ := loop 64 0 FU 0 (by omega) (by unfold FU; omega) (Or.inr ⟨rfl, fun ⟨j, h, _⟩ => absurd h (by omega)⟩)
  rw [nI_0] at r1
  exact ⟨r, r1, r2⟩
theorem all9 {W : Nat → Nat → Prop} (hW : TK um 11 W 256) {e d R : Nat} (he : e < 16) (hd : d < 16) (hR : R < 1000) : ∃ r, f_X9_winsAll um (nI e) (nI d) (nI R) = some r ∧ tb r (∀ f, f < 16 → fdN d f ≤ R → W e f) := by
  have loop : ∀ (n i fuel : Nat) (l4 : Int32), i + n = 16 → n < fuel → tb l4 (∀ f, f < i → fdN d f ≤ R → W e f) → ∃ r, f_X9_winsAll_6 um fuel (nI e) (nI d) (nI R) l4 (nI i) = some r ∧ tb r (∀ f, f < 16 → fdN d f ≤ R → W e f) := by
    intro n
    induction n with
    | zero =>
      intro i fuel l4 hi hf hm
      obtain ⟨f, rfl⟩ : ∃ f, fuel = f + 1 := ⟨fuel - 1, by omega⟩
      have : i = 16 := by omega
      subst this
      rw [f_X9_winsAll_6, if_pos (by decide)]
      rcases hm with ⟨rfl, h⟩ | ⟨rfl, h⟩
      · rw [bk_1]; exact ⟨_, rfl, Or.inl ⟨rfl, h⟩⟩
      · rw [bk_0]; exact ⟨_, rfl, Or.inr ⟨rfl, h⟩⟩
    | succ n ih =>
      intro i fuel l4 hi hf hm
      obtain ⟨f, rfl⟩ : ∃ f, fuel = f + 1 := ⟨fuel - 1, by omega⟩
      have yes : (∀ f, f < i → fdN d f ≤ R → W e f) → (fdN d i ≤ R → W e i) → ∃ r, f_X9_winsAll_43 um (f_X9_winsAll_6 um f) (nI e) (nI d) (nI R) (nI i) = some r ∧ tb r (∀ f, f < 16 → fdN d f ≤ R → W e f) := by
        intro h1 h2
        rw [f_X9_winsAll_43, f_X9_winsAll_48, nm, nI_1]
        exact ih (i + 1) f 1 (by omega) (by omega) (Or.inl ⟨rfl, all_succ.mpr ⟨h1, h2⟩⟩)
      have no : ¬ (∀ f, f < i + 1 → fdN d f ≤ R → W e f) → ∃ r, f_X9_winsAll_47 um (f_X9_winsAll_6 um f) (nI e) (nI d) (nI R) (nI i) = some r ∧ tb r (∀ f, f < 16 → fdN d f ≤ R → W e f) := by
        intro h1
        rw [f_X9_winsAll_47, f_X9_winsAll_48, nm, nI_1]
        exact ih (i + 1) f 0 (by omega) (by omega) (Or.inr ⟨rfl, h1⟩)
      rw [f_X9_winsAll_6, if_neg (show ¬ (16 : Int32) ≤ nI i from nI_ge (b := 16) (by omega) (by decide))]
      rcases hm with ⟨rfl, h⟩ | ⟨rfl, h⟩
      · obtain ⟨g1, g2⟩ := farN hd (show i < 16 by omega)
        rw [if_neg zne1, far9, g1, bd_s]
        by_cases y : R < fdN d i
        · rw [if_pos (nI_lt y (by omega))]
          exact yes h (fun z => absurd z (by omega))
        · have ix : 16 * nI e + nI i = nI (16 * e + i) := by rw [show (16 : Int32) = nI 16 from rfl, nI_mul, nI_add]
          rw [if_neg (nI_nlt (by omega) (by omega)), ix, ld_ok (okN (show 16 * e + i < 256 by omega) (by decide)), nI_cl (by omega)]
          have t := hW (16 * e + i) (by omega)
          rw [show (16 * e + i) / 16 = e by omega, show (16 * e + i) % 16 = i by omega] at t
          rcases t with ⟨t, w⟩ | ⟨t, w⟩
          · rw [t, if_neg zne1]; exact yes h (fun _ => w)
          · rw [t, if_pos rfl]; exact no (fun z => w (z i (by omega) (by omega)))
      · rw [if_pos rfl]
        exact no (fun z => h (all_succ.mp z).1)
  obtain ⟨r, r1, r2⟩ := loop 16 0 FU 1 (by omega) (by unfold FU; omega) (Or.inl ⟨rfl, fun f h => absurd h (by omega)⟩)
  rw [nI_0] at r1
  exact ⟨r, r1, r2⟩
theorem dec16 {j c : Nat} (hj : j ≤ 43) (hc : c < 16) : nI (16 * j + c) / 16 = nI j ∧ nI (16 * j + c) - nI j * 16 = nI c := by
  have e1 : nI (16 * j + c) / 16 = nI j := by
    rw [show (16 : Int32) = nI 16 from rfl, nI_div (by omega) (by decide)]
    congr 1; omega
  refine ⟨e1, ?_⟩
  rw [show (16 : Int32) = nI 16 from rfl, nI_mul, nI_sub (by omega)]
  congr 1; omega
theorem holds9 (hB : BD F L C) (hs : RS us um) (hq : PL us q stq rcq) (hT : TQ F L C stp rcp um 9) {W : Nat → Nat → Prop} (hW : TK um 11 W 256) {b d : Nat} (hb : b < 16) (hd : d < 16) : ∃ r, f_X9_holdsAll um (nI b) (nI d) (nI q) = some r ∧ tb r (HD F L C stp rcp stq W b d) := by
  obtain ⟨h3, h1, hq8, hst, hrc⟩ := hq
  have loop : ∀ (n s fuel : Nat), s + n = 64 → n < fuel → (∀ s', s' < s → F d s' ≠ 0 → ∃ j, mt F L C stp rcp b d s' j ∧ GO C stq W d s' j) → ∃ r, f_X9_holdsAll_3 um fuel (nI b) (nI d) (nI q) (nI s) = some r ∧ tb r (HD F L C stp rcp stq W b d) := by
    intro n
    induction n with
    | zero =>
      intro s fuel hs' hf hm
      obtain ⟨f, rfl⟩ : ∃ f, fuel = f + 1 := ⟨fuel - 1, by omega⟩
      have : s = 64 := by omega
      subst this
      rw [f_X9_holdsAll_3, if_pos (by decide)]
      exact ⟨_, rfl, Or.inl ⟨rfl, hm⟩⟩
    | succ n ih =>
      intro s fuel hs' hf hm
      obtain ⟨f, rfl⟩ : ∃ f, fuel = f + 1 := ⟨fuel - 1, by omega⟩
      rw [f_X9_holdsAll_3, if_neg (show ¬ (64 : Int32) ≤ nI s from nI_ge (b := 64) (by omega) (by decide)), ixN, ld_ok (okN (show 1024 * b + 64 * d + s < 16384 by omega) (by decide)), nI_cl (by omega)]
      rcases hT d s b hd (by omega) hb with ⟨z, e⟩ | ⟨z, z2, e⟩ | ⟨z, j, j1, e⟩
      · rw [e, if_neg (by decide), if_pos rfl, f_X9_holdsAll_72, nm, nI_1]
        exact ih (s + 1) f (by omega) (by omega) (all_succ.mpr ⟨hm, fun y => absurd z y⟩)
      · rw [e, if_pos rfl]
        exact ⟨_, rfl, Or.inr ⟨rfl, fun h => by
          obtain ⟨j, j1, -⟩ := h s (by omega) z
          exact z2 j j1.1 j1.2.1 j1.2.2.1⟩⟩
      · have b1 := (hB d s hd (by omega)).1
        have b2 := (((hB d s hd (by omega)).2 z).2.2) j j1.1 j1.2.1
        have jL := j1.2.1
        have hm' : j * stq ≤ 60 * 20 := Nat.mul_le_mul (by omega) hst
        obtain ⟨d1, d2⟩ := dec16 (j := j) (c := C d s j) (by omega) b2
        obtain ⟨r, r1, r2⟩ := all9 hW b2 hd (R := j * stq / 10) (by omega)
        rw [e, if_neg (nI_inj_m1 (by omega)), if_neg (fun y => by
          have := congrArg Int32.toInt y
          rw [nI_toInt (by omega), show (-100 : Int32).toInt = -100 by decide] at this
          omega), stride9 hs hq8, bd_s, h3, d1, d2, nI_mul, show (10 : Int32) = nI 10 from rfl, nI_div (by omega) (by decide), r1, bd_s]
        rcases r2 with ⟨rfl, h⟩ | ⟨rfl, h⟩
        · rw [if_neg zne1, f_X9_holdsAll_72, nm, nI_1]
          exact ih (s + 1) f (by omega) (by omega) (all_succ.mpr ⟨hm, fun _ => ⟨j, j1, h⟩⟩)
        · rw [if_pos rfl]
          exact ⟨_, rfl, Or.inr ⟨rfl, fun y => by
            obtain ⟨i, i1, i2⟩ := y s (by omega) z
            have := mt_uniq i1 j1
            subst this
            exact h i2⟩⟩
  obtain ⟨r, r1, r2⟩ := loop 64 0 FU (by omega) (by unfold FU; omega) (fun f h => absurd h (by omega))
  rw [nI_0] at r1
  exact ⟨r, r1, r2⟩
theorem later9 (hB : BD F L C) (hs : RS us um) (hp : PL us p stp rcp) (hT : TQ F L C stq rcq um 10) {H : Nat → Nat → Prop} (hH : TK um 13 H 256) {a c : Nat} (ha : a < 16) (hc : c < 16) : ∃ r, f_X9_winsLater um (nI a) (nI c) (nI p) = some r ∧ tb r (FO F L C stp stq rcq H a c) := by
  obtain ⟨h3, h1, hp8, hst, hrc⟩ := hp
  have loop : ∀ (n s fuel : Nat), s + n = 64 → n < fuel → (¬ ∃ s', s' < s ∧ (F a s' ≠ 0 ∧ ∃ j, mt F L C stq rcq c a s' j ∧ FG C stp H a s' j)) → ∃ r, f_X9_winsLater_3 um fuel (nI a) (nI c) (nI p) (nI s) = some r ∧ tb r (FO F L C stp stq rcq H a c) := by
    intro n
    induction n with
    | zero =>
      intro s fuel hs' hf hm
      obtain ⟨f, rfl⟩ : ∃ f, fuel = f + 1 := ⟨fuel - 1, by omega⟩
      have : s = 64 := by omega
      subst this
      rw [f_X9_winsLater_3, if_pos (by decide)]
      exact ⟨_, rfl, Or.inr ⟨rfl, hm⟩⟩
    | succ n ih =>
      intro s fuel hs' hf hm
      obtain ⟨f, rfl⟩ : ∃ f, fuel = f + 1 := ⟨fuel - 1, by omega⟩
      rw [f_X9_winsLater_3, if_neg (show ¬ (64 : Int32) ≤ nI s from nI_ge (b := 64) (by omega) (by decide)), ixN, ld_ok (okN (show 1024 * c + 64 * a + s < 16384 by omega) (by decide)), nI_cl (by omega)]
      have next : (¬ (F a s ≠ 0 ∧ ∃ j, mt F L C stq rcq c a s j ∧ FG C stp H a s j)) → ∃ r, f_X9_winsLater_95 um (f_X9_winsLater_3 um f) (nI a) (nI c) (nI p) (nI s) = some r ∧ tb r (FO F L C stp stq rcq H a c) := by
        intro h
        rw [f_X9_winsLater_95, nm, nI_1]
        exact ih (s + 1) f (by omega) (by omega) (fun y => (lt_succ0.mp y).elim hm h)
      obtain ⟨g0, hg0⟩ := FU_add 1 (by decide)
      rcases hT a s c ha (by omega) hc with ⟨z, e⟩ | ⟨z, z2, e⟩ | ⟨z, j, j1, e⟩
      · rw [e, hg0, f_X9_winsLater_33, if_neg (by decide), if_pos (by decide)]
        exact next (fun y => y.1 z)
      · rw [e, hg0, f_X9_winsLater_33, if_neg (by decide), if_pos (by decide)]
        exact next (fun ⟨_, j, j1, _⟩ => z2 j j1.1 j1.2.1 j1.2.2.1)
      · have b1 := (hB a s ha (by omega)).1
        have b2 := (((hB a s ha (by omega)).2 z).2.2) j j1.1 j1.2.1
        have jL := j1.2.1
        have hm' : j * stp ≤ 60 * 20 := Nat.mul_le_mul (by omega) hst
        obtain ⟨d1, d2⟩ := dec16 (j := j) (c := C a s j) (by omega) b2
        rw [e]
        have inner : ∀ (m i fuel : Nat), i + m = 16 → m < fuel → (¬ ∃ b, b < i ∧ (fdN a b ≤ j * stp / 10 ∧ H b (C a s j))) → ∃ r, f_X9_winsLater_33 um (f_X9_winsLater_3 um f) fuel (nI a) (nI c) (nI p) (nI s) (nI (16 * j + C a s j)) (nI i) = some r ∧ tb r (FO F L C stp stq rcq H a c) := by
          intro m
          induction m with
          | zero =>
            intro i fuel hi hf hno
            obtain ⟨g, rfl⟩ : ∃ g, fuel = g + 1 := ⟨fuel - 1, by omega⟩
            have : i = 16 := by omega
            subst this
            rw [f_X9_winsLater_33, if_pos (by decide)]
            refine next (fun ⟨_, i, i1, i2⟩ => ?_)
            have := mt_uniq i1 j1
            subst this
            exact hno i2
          | succ m ihm =>
            intro i fuel hi hf hno
            obtain ⟨g, rfl⟩ : ∃ g, fuel = g + 1 := ⟨fuel - 1, by omega⟩
            obtain ⟨g1, g2⟩ := farN ha (show i < 16 by omega)
            have more : (¬ (fdN a i ≤ j * stp / 10 ∧ H i (C a s j))) → ∃ r, f_X9_winsLater_89 um (f_X9_winsLater_3 um f) (f_X9_winsLater_33 um (f_X9_winsLater_3 um f) g) (nI a) (nI c) (nI p) (nI s) (nI (16 * j + C a s j)) (nI i) = some r ∧ tb r (FO F L C stp stq rcq H a c) := by
              intro h
              rw [f_X9_winsLater_89, nm, nI_1]
              exact ihm (i + 1) g (by omega) (by omega) (fun y => (lt_succ0.mp y).elim hno h)
            rw [f_X9_winsLater_33, if_neg (show ¬ (16 : Int32) ≤ nI i from nI_ge (b := 16) (by omega) (by decide)), if_neg (show ¬ nI (16 * j + C a s j) < 0 from nI_nlt (b := 0) (by omega) (by omega)), far9, g1, bd_s, stride9 hs hp8, bd_s, h3, d1, d2, nI_mul, show (10 : Int32) = nI 10 from rfl, nI_div (by omega) (by decide)]
            by_cases y : j * stp / 10 < fdN a i
            · rw [if_pos (nI_lt y (by omega))]
              exact more (fun z => absurd z.1 (by omega))
            · have ix : 16 * nI i + nI (C a s j) = nI (16 * i + C a s j) := by rw [show (16 : Int32) = nI 16 from rfl, nI_mul, nI_add]
              rw [if_neg (nI_nlt (by omega) (by omega)), ix, ld_ok (okN (show 16 * i + C a s j < 256 by omega) (by decide)), nI_cl (by omega)]
              have t := hH (16 * i + C a s j) (by omega)
              rw [show (16 * i + C a s j) / 16 = i by omega, show (16 * i + C a s j) % 16 = C a s j by omega] at t
              rcases t with ⟨t, w⟩ | ⟨t, w⟩
              · rw [t, if_neg zne1]
                exact ⟨_, rfl, Or.inl ⟨rfl, s, by omega, z, j, j1, i, by omega, by omega, w⟩⟩
              · rw [t, if_pos rfl]; exact more (fun z => w z.2)
        have r := inner 16 0 FU (by omega) (by unfold FU; omega) (fun ⟨b, h, _⟩ => absurd h (by omega))
        rw [nI_0] at r
        exact r
  obtain ⟨r, r1, r2⟩ := loop 64 0 FU (by omega) (by unfold FU; omega) (fun ⟨b, h, _⟩ => absurd h (by omega))
  rw [nI_0] at r1
  exact ⟨r, r1, r2⟩
end M8
