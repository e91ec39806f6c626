/-! a RALLY looked at ahead: the reference's side -/
def mS (F L : Nat → Nat → Nat) (C : Nat → Nat → Nat → Nat) (st rc c a s : Nat) (v : Int32) : Prop := (F a s = 0 ∧ v = -100) ∨ (F a s ≠ 0 ∧ (∀ j, F a s ≤ j → j ≤ L a s → ¬ cm C st rc c a s j) ∧ v = -1) ∨ (F a s ≠ 0 ∧ ∃ j, mt F L C st rc c a s j ∧ v = nI (16 * j + C a s j))
def tb (v : Int32) (P : Prop) : Prop := (v = 1 ∧ P) ∨ (v = 0 ∧ ¬ P)
theorem tb.congr {v : Int32} {P Q : Prop} (h : tb v P) (e : P ↔ Q) : tb v Q := h.elim (fun h => Or.inl ⟨h.1, e.mp h.2⟩) (fun h => Or.inr ⟨h.1, fun q => h.2 (e.mpr q)⟩)
theorem tb.nar {v : Int32} {P : Prop} (h : tb v P) : tb (vp_nar .boolean v) P := by
  rcases h with ⟨rfl, h⟩ | ⟨rfl, h⟩
  · rw [nar_1]; exact Or.inl ⟨rfl, h⟩
  · rw [nar_0]; exact Or.inr ⟨rfl, h⟩
theorem ovr9 {us um : St} (hs : RS us um) {p st rc : Nat} (h : PL us p st rc) {i d c : Nat} (h7 : um.2.1 7 i = nI d) (hd : d < 16) (hc : c < 16) (hi : i ≤ 60) : ∃ v, f_X9_over0 um (nI p) (nI c) (nI i) = some v ∧ (v < 0 ↔ ¬ fdN c d ≤ i * st / 10 + rc) := by
  obtain ⟨h3, h1, hp, hst, hrc⟩ := h
  obtain ⟨f1, f2⟩ := farN hc hd
  have hm : i * st ≤ 60 * 20 := Nat.mul_le_mul hi hst
  have t1 : (nI (i * st / 10)).toInt = (i * st / 10 : Nat) := nI_toInt (by omega)
  have t2 : (nI (fdN c d)).toInt = fdN c d := nI_toInt (by omega)
  have t3 : (nI rc).toInt = rc := nI_toInt (by omega)
  have T0 : (0 : Int32).toInt = 0 := by decide
  have t4 : (nI (fdN c d) - nI rc).toInt = (fdN c d : Int) - rc := by rw [tI_sub (by rw [t2, t3]; omega) (by rw [t2, t3]; omega), t2, t3]
  rw [f_X9_over0, ld_ok (okN (show i < 64 by omega) (by decide)), nI_cl (by omega), h7, far9, f1, bd_s, ld_ok (okN hp (by decide)), nI_cl (by omega), hs.2.1, h1, nm, stride9 hs hp, bd_s, h3, nI_mul, show (10 : Int32) = nI 10 from rfl, nI_div (by omega) (by decide)]
  by_cases z : 0 ≤ nI (fdN c d) - nI rc
  · rw [if_pos z]
    refine ⟨_, rfl, ?_⟩
    rw [Int32.le_iff_toInt_le, t4, T0] at z
    rw [Int32.lt_iff_toInt_lt, tI_sub (by rw [t1, t4]; omega) (by rw [t1, t4]; omega), t1, t4, T0]
    omega
  · rw [if_neg z]
    refine ⟨_, rfl, ?_⟩
    rw [Int32.le_iff_toInt_le, t4, T0] at z
    rw [Int32.lt_iff_toInt_lt, tI_sub (by rw [t1, T0]; omega) (by rw [t1, T0]; omega), t1, T0]
    omega
section M9
variable {sp dr me : Nat → Nat} {b : Nat}
theorem meets9 (hok : ∀ k, k < 4 → okF (sp k) (dr k) (me k) b) {us um : St} (hs : RS us um) {p st rc : Nat} (h : PL us p st rc) {a s : Nat} (ha : a < 16) (hs64 : s < 64) {c : Nat} (hc : c < 16) (h2 : um.2.1 2 (s / 16) = nI (me (s / 16))) (h8 : um.1 8 = nI (LL sp dr b a s)) (h7 : ∀ j, 1 ≤ j → j ≤ LL sp dr b a s → um.2.1 7 j = cN (sp (s / 16)) (dr (s / 16)) b a (s % 16) j) : ∃ v, f_X9_meetsOf um (nI p) (nI c) (nI (s / 16)) = some v ∧ mS (FF sp dr me b) (LL sp dr b) (CC sp dr b) st rc c a s v := by
  obtain ⟨b1, b2⟩ := BD_of hok a s ha hs64
  have e1 : f_X9_firstMet um (nI (s / 16)) = some (if FF sp dr me b a s = 0 then -1 else nI (FF sp dr me b a s)) := first9 (hok (s / 16) (by omega)) ha (show s % 16 < 16 by omega) (show s / 16 < 4 by omega) h2 h8 h7
  rw [f_X9_meetsOf, e1, bd_s]
  by_cases z : FF sp dr me b a s = 0
  · rw [if_pos z, if_pos rfl]; exact ⟨_, rfl, Or.inl ⟨z, rfl⟩⟩
  · obtain ⟨b3, b4, b5⟩ := b2 z
    rw [if_neg z, if_neg (nI_inj_m1 (by omega))]
    have loop : ∀ (m i fuel : Nat), i + m = LL sp dr b a s + 1 → m < fuel → FF sp dr me b a s ≤ i → (∀ j, FF sp dr me b a s ≤ j → j < i → ¬ cm (CC sp dr b) st rc c a s j) → ∃ v, f_X9_meetsOf_20 um fuel (nI p) (nI c) (nI i) = some v ∧ mS (FF sp dr me b) (LL sp dr b) (CC sp dr b) st rc c a s v := by
      intro m
      induction m with
      | zero =>
        intro i fuel hi hf hFi hno
        obtain ⟨f, rfl⟩ : ∃ f, fuel = f + 1 := ⟨fuel - 1, by omega⟩
        rw [f_X9_meetsOf_20, h8, if_pos (nI_lt (by omega) (by omega))]
        exact ⟨_, rfl, Or.inr (Or.inl ⟨z, fun j h1 h2 => hno j h1 (by omega), rfl⟩)⟩
      | succ m ih =>
        intro i fuel hi hf hFi hno
        obtain ⟨f, rfl⟩ : ∃ f, fuel = f + 1 := ⟨fuel - 1, by omega⟩
        have ok64 : okI (nI i) 64 := okN (by omega) (by decide)
        obtain ⟨c1, c2⟩ := CC_eq hok ha hs64 z hFi (show i ≤ LL sp dr b a s by omega)
        have hr : um.2.1 7 i = nI (CC sp dr b a s i) := (h7 i (by omega) (by omega)).trans c1
        obtain ⟨v, v1, v2⟩ := ovr9 hs h hr c2 hc (show i ≤ 60 by omega)
        rw [f_X9_meetsOf_20, h8, if_neg (nI_nlt (by omega) (by omega)), ld_ok ok64, nI_cl (by omega), hr, if_neg (nI_inj_m1 (by omega)), v1, bd_s]
        by_cases y : v < 0
        · rw [if_pos y, f_X9_meetsOf_65, nm, nI_1]
          refine ih (i + 1) f (by omega) (by omega) (by omega) (fun j h1 h2 => ?_)
          by_cases e : j = i
          · subst e; exact v2.mp y
          · exact hno j h1 (by omega)
        · rw [if_neg y, ld_ok ok64, nI_cl (by omega), hr, show (16 : Int32) = nI 16 from rfl, nI_mul, nI_add]
          exact ⟨_, rfl, Or.inr (Or.inr ⟨z, i, ⟨hFi, by omega, Classical.byContradiction (fun n => y (v2.mpr n)), hno⟩, rfl⟩)⟩
    exact loop (LL sp dr b a s + 1 - FF sp dr me b a s) (FF sp dr me b a s) FU (by omega) (by unfold FU; omega) (Nat.le_refl _) (fun j h1 h2 => absurd h2 (by omega))
variable {us um0 : St} {p q stp rcp stq rcq : Nat}
def T9 (F L : Nat → Nat → Nat) (C : Nat → Nat → Nat → Nat) (stp rcp stq rcq : Nat) (um : St) (x y : Nat) : Prop := ∀ a s c, a < 16 → s < 64 → c < 16 → (64 * a + s < x ∨ (64 * a + s = x ∧ c < y)) → mS F L C stp rcp c a s (um.2.1 9 (1024 * c + 64 * a + s)) ∧ mS F L C stq rcq c a s (um.2.1 10 (1024 * c + 64 * a + s))
theorem find_c (hok : ∀ k, k < 4 → okF (sp k) (dr k) (me k) b) (hs : RS us um0) (h0 : ∀ k, k < 4 → um0.2.1 0 k = nI (sp k) ∧ um0.2.1 1 k = nI (dr k) ∧ um0.2.1 2 k = nI (me k)) (hp : PL us p stp rcp) (hq : PL us q stq rcq) {a s : Nat} (ha : a < 16) (hs64 : s < 64) (k2 : Int32 → Int32 → Int32 → St → Option St) (k11 : Int32 → Int32 → Int32 → Int32 → St → Option St) :
    ∀ (n i fuel : Nat) (um : St), i + n = 16 → n < fuel → Fr [8] [7, 9, 10] um0 um → um.1 8 = nI (LL sp dr b a s) → (∀ j, 1 ≤ j → j ≤ LL sp dr b a s → um.2.1 7 j = cN (sp (s / 16)) (dr (s / 16)) b a (s % 16) j) → T9 (FF sp dr me b) (LL sp dr b) (CC sp dr b) stp rcp stq rcq um (64 * a + s) i →
    ∃ um', f_X9_findMeetings_36 k2 k11 fuel (nI p) (nI q) (nI a) (nI s) (nI i) um = k11 (nI p) (nI q) (nI a) (nI (s + 1)) um' ∧ Fr [8] [7, 9, 10] um0 um' ∧ T9 (FF sp dr me b) (LL sp dr b) (CC sp dr b) stp rcp stq rcq um' (64 * a + s + 1) 0 := by
  intro n
  induction n with
  | zero =>
    intro i fuel um hi hf hv h8 h7 hT
    obtain ⟨f, rfl⟩ : ∃ f, fuel = f + 1 := ⟨fuel - 1, by omega⟩
    have : i = 16 := by omega
    subst this
    rw [f_X9_findMeetings_36, if_pos (by decide), nm, nI_1]
    exact ⟨um, rfl, hv, fun a' s' c' h1 h2 h3 h4 => hT a' s' c' h1 h2 h3 (by omega)⟩
  | succ n ih =>
    intro i fuel um hi hf hv h8 h7 hT
    obtain ⟨f, rfl⟩ : ∃ f, fuel = f + 1 := ⟨fuel - 1, by omega⟩
    have ok : okI (nI (1024 * i + 64 * a + s)) 16384 := okN (by omega) (by decide)
    have cl : (nI (1024 * i + 64 * a + s)).toNatClampNeg = 1024 * i + 64 * a + s := nI_cl (by omega)
    have ix : ((1024 * nI i) + (64 * nI a)) + nI s = nI (1024 * i + 64 * a + s) := by
      rw [show (1024 : Int32) = nI 1024 from rfl, show (64 : Int32) = nI 64 from rfl, nI_mul, nI_mul, nI_add, nI_add]
    have dv : nI s / 16 = nI (s / 16) := by rw [show (16 : Int32) = nI 16 from rfl, nI_div (by omega) (by decide)]
    have h2 : ∀ v : St, Fr [8] [7, 9, 10] um0 v → v.2.1 2 (s / 16) = nI (me (s / 16)) := fun v hv => by
      rw [hv.2 2 (by simp)]; exact (h0 (s / 16) (by omega)).2.2
    have hr : ∀ v : St, Fr [8] [7, 9, 10] um0 v → RS us v := fun v hv => hs.fr hv (by simp) (by simp) (by simp)
    obtain ⟨v1, e1, m1⟩ := meets9 hok (hr um hv) hp ha hs64 (c := i) (by omega) (h2 um hv) h8 h7
    have hv1 : Fr [8] [7, 9, 10] um0 (st_r um 9 (upd (um.2.1 9) (1024 * i + 64 * a + s) v1)) := hv.trans ((Fr.r um 9 _).mono (by simp) (by simp))
    obtain ⟨v2, e2, m2⟩ := meets9 hok (hr _ hv1) hq ha hs64 (c := i) (by omega) (h2 _ hv1) h8 (fun j j1 j2 => by rw [st_r_2, up_ne _ _ (by decide)]; exact h7 j j1 j2)
    have hv2 : Fr [8] [7, 9, 10] um0 (st_r (st_r um 9 (upd (um.2.1 9) (1024 * i + 64 * a + s) v1)) 10 (upd ((st_r um 9 (upd (um.2.1 9) (1024 * i + 64 * a + s) v1)).2.1 10) (1024 * i + 64 * a + s) v2)) := hv1.trans ((Fr.r _ 10 _).mono (by simp) (by simp))
    rw [f_X9_findMeetings_36, if_neg (show ¬ (16 : Int32) ≤ nI i from nI_ge (b := 16) (by omega) (by decide)), dv, e1, bd_s, ix, sti_ok ok, cl, e2, bd_s, sti_ok ok, cl, nm, nI_1]
    refine ih (i + 1) f _ (by omega) (by omega) hv2 h8 (fun j j1 j2 => ?_) (fun a' s' c' x1 x2 x3 x4 => ?_)
    · rw [st_r_2, up_ne _ _ (by decide), st_r_2, up_ne _ _ (by decide)]; exact h7 j j1 j2
    · rw [st_r_2, up_eq, up_ne _ _ (show (9 : Nat) ≠ 10 by decide), st_r_2, up_eq, up_ne _ _ (show (10 : Nat) ≠ 9 by decide)]
      by_cases e : 1024 * c' + 64 * a' + s' = 1024 * i + 64 * a + s
      · have ec : c' = i := by omega
        have ea : a' = a := by omega
        have es : s' = s := by omega
        subst ec ea es
        rw [upd_eq, upd_eq]
        exact ⟨m1, m2⟩
      · rw [upd_ne _ _ e, upd_ne _ _ e]
        refine hT a' s' c' x1 x2 x3 ?_
        by_cases y : 64 * a' + s' = 64 * a + s
        · refine Or.inr ⟨y, ?_⟩
          rcases x4 with x4 | x4 <;> omega
        · rcases x4 with x4 | x4
          · exact Or.inl x4
          · exact absurd x4.1 y
theorem find_s (hok : ∀ k, k < 4 → okF (sp k) (dr k) (me k) b) (hs : RS us um0) (h0 : ∀ k, k < 4 → um0.2.1 0 k = nI (sp k) ∧ um0.2.1 1 k = nI (dr k) ∧ um0.2.1 2 k = nI (me k)) (hb : um0.1 3 = nI b) (hp : PL us p stp rcp) (hq : PL us q stq rcq) {a : Nat} (ha : a < 16) (k2 : Int32 → Int32 → Int32 → St → Option St) :
    ∀ (n s fuel : Nat) (um : St), s + n = 64 → n < fuel → Fr [8] [7, 9, 10] um0 um → T9 (FF sp dr me b) (LL sp dr b) (CC sp dr b) stp rcp stq rcq um (64 * a + s) 0 →
    ∃ um', f_X9_findMeetings_11 k2 fuel (nI p) (nI q) (nI a) (nI s) um = k2 (nI p) (nI q) (nI (a + 1)) um' ∧ Fr [8] [7, 9, 10] um0 um' ∧ T9 (FF sp dr me b) (LL sp dr b) (CC sp dr b) stp rcp stq rcq um' (64 * (a + 1)) 0 := by
  intro n
  induction n with
  | zero =>
    intro s fuel um hi hf hv hT
    obtain ⟨f, rfl⟩ : ∃ f, fuel = f + 1 := ⟨fuel - 1, by omega⟩
    have : s = 64 := by omega
    subst this
    rw [f_X9_findMeetings_11, if_pos (by decide), nm, nI_1]
    exact ⟨um, rfl, hv, fun a' s' c' h1 h2 h3 h4 => hT a' s' c' h1 h2 h3 (by omega)⟩
  | succ n ih =>
    intro s fuel um hi hf hv hT
    obtain ⟨f, rfl⟩ : ∃ f, fuel = f + 1 := ⟨fuel - 1, by omega⟩
    have dv : nI s / 16 = nI (s / 16) := by rw [show (16 : Int32) = nI 16 from rfl, nI_div (by omega) (by decide)]
    have md : nI s - nI (s / 16) * 16 = nI (s % 16) := by
      rw [← dv, show (16 : Int32) = nI 16 from rfl, nI_mod (by omega) (by decide)]
    obtain ⟨x0, x1, x2⟩ := h0 (s / 16) (by omega)
    obtain ⟨v, f1, f2, f3, f4⟩ := fly9 (um := um) (hok (s / 16) (by omega)) ha (show s % 16 < 16 by omega) (show s / 16 < 4 by omega) (by rw [hv.2 0 (by simp)]; exact x0) (by rw [hv.2 1 (by simp)]; exact x1) (by rw [hv.1 3 (by simp)]; exact hb)
    have hv' : Fr [8] [7, 9, 10] um0 v := hv.trans (f4.mono (by simp) (by simp))
    rw [f_X9_findMeetings_11, if_neg (show ¬ (64 : Int32) ≤ nI s from nI_ge (b := 64) (by omega) (by decide)), dv, md, f1, bd_s]
    obtain ⟨w, w1, w2, w3⟩ := find_c hok hs h0 hp hq ha (show s < 64 by omega) k2 (f_X9_findMeetings_11 k2 f) 16 0 FU v (by omega) (by unfold FU; omega) hv' f2 f3 (fun a' s' c' y1 y2 y3 y4 => by
      rw [f4.2 9 (by simp), f4.2 10 (by simp)]
      exact hT a' s' c' y1 y2 y3 (by omega))
    rw [nI_0] at w1
    rw [w1]
    exact ih (s + 1) f w (by omega) (by omega) w2 w3
theorem findM9 (hok : ∀ k, k < 4 → okF (sp k) (dr k) (me k) b) (hs : RS us um0) (h0 : ∀ k, k < 4 → um0.2.1 0 k = nI (sp k) ∧ um0.2.1 1 k = nI (dr k) ∧ um0.2.1 2 k = nI (me k)) (hb : um0.1 3 = nI b) (hp : PL us p stp rcp) (hq : PL us q stq rcq) :
    ∃ um', f_X9_findMeetings (nI p) (nI q) um0 = some um' ∧ Fr [8] [7, 9, 10] um0 um' ∧ ∀ a s c, a < 16 → s < 64 → c < 16 → mS (FF sp dr me b) (LL sp dr b) (CC sp dr b) stp rcp c a s (um'.2.1 9 (1024 * c + 64 * a + s)) ∧ mS (FF sp dr me b) (LL sp dr b) (CC sp dr b) stq rcq c a s (um'.2.1 10 (1024 * c + 64 * a + s)) := by
  have loop : ∀ (n a fuel : Nat) (um : St), a + n = 16 → n < fuel → Fr [8] [7, 9, 10] um0 um → T9 (FF sp dr me b) (LL sp dr b) (CC sp dr b) stp rcp stq rcq um (64 * a) 0 → ∃ um', f_X9_findMeetings_2 fuel (nI p) (nI q) (nI a) um = some um' ∧ Fr [8] [7, 9, 10] um0 um' ∧ T9 (FF sp dr me b) (LL sp dr b) (CC sp dr b) stp rcp stq rcq um' (64 * 16) 0 := by
    intro n
    induction n with
    | zero =>
      intro a fuel um ha hf hv hT
      obtain ⟨f, rfl⟩ : ∃ f, fuel = f + 1 := ⟨fuel - 1, by omega⟩
      have : a = 16 := by omega
      subst this
      rw [f_X9_findMeetings_2, if_pos (by decide)]
      exact ⟨um, rfl, hv, hT⟩
    | succ n ih =>
      intro a fuel um ha hf hv hT
      obtain ⟨f, rfl⟩ : ∃ f, fuel = f + 1 := ⟨fuel - 1, by omega⟩
      rw [f_X9_findMeetings_2, if_neg (show ¬ (16 : Int32) ≤ nI a from nI_ge (b := 16) (by omega) (by decide))]
      obtain ⟨w, w1, w2, w3⟩ := find_s hok hs h0 hb hp hq (show a < 16 by omega) (f_X9_findMeetings_2 f) 64 0 FU um (by omega) (by unfold FU; omega) hv hT
      rw [nI_0] at w1
      rw [w1]
      exact ih (a + 1) f w (by omega) (by omega) w2 w3
  obtain ⟨v, v1, v2, v3⟩ := loop 16 0 FU um0 (by omega) (by unfold FU; omega) ((Fr.refl um0).mono (by simp) (by simp)) (fun a s c _ _ _ h => absurd h (by omega))
  rw [nI_0] at v1
  exact ⟨v, v1, v2, fun a s c h1 h2 h3 => v3 a s c h1 h2 h3 (by omega)⟩
end M9
