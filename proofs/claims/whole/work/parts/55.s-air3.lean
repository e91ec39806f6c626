theorem cmp0 (x : Int64) : lg_cmp x 0 = 0 ↔ x = 0 := by
  unfold lg_cmp
  by_cases h : x > 0
  · rw [if_pos h]
    exact ⟨fun q => absurd q (by decide), fun q => by subst q; exact absurd h (by decide)⟩
  · rw [if_neg h]
    by_cases e : x = 0
    · rw [if_pos e]; exact ⟨fun _ => e, fun _ => rfl⟩
    · rw [if_neg e]; exact ⟨fun q => absurd q (by decide), fun q => absurd q e⟩
/-- the class's flights, by its numbers -/
def RAp (sp dr me : Nat → Nat) (b : Nat) (ua : St) : Prop := ua.1 4 = nI b ∧ (∀ k, k < 4 → okF (sp k) (dr k) (me k) b ∧ ua.2.1 0 k = nI (sp k) ∧ ua.2.1 1 k = nI (dr k) ∧ ua.2.1 2 k = nI (me k)) ∧ b ≤ 8 ∧
  ∀ k A T, k < 4 → A < 16 → T < 16 → ua.2.2 ((k * 16 + A) * 16 + T) = 0 ∨ ua.2.2 ((k * 16 + A) * 16 + T) = lN (pathN (sp k) (dr k) (me k) b A T)
theorem pathOf0 {sp dr me : Nat → Nat} {b : Nat} {ua : St} (h : RAp sp dr me b ua) {k A T : Nat} (hk : k < 4) (hA : A < 16) (hT : T < 16) : ∃ ua', f_X0_pathOf (nI k) (nI A) (nI T) ua = some (lN (pathN (sp k) (dr k) (me k) b A T), ua') ∧ RAp sp dr me b ua' ∧ ua'.1 = ua.1 ∧ ua'.2.1 = ua.2.1 ∧ ua'.2.2 ((k * 16 + A) * 16 + T) = lN (pathN (sp k) (dr k) (me k) b A T) ∧ ∀ k' A' T', k' < 4 → A' < 16 → T' < 16 → ua.2.2 ((k' * 16 + A') * 16 + T') = lN (pathN (sp k') (dr k') (me k') b A' T') → ua'.2.2 ((k' * 16 + A') * 16 + T') = lN (pathN (sp k') (dr k') (me k') b A' T') := by
  obtain ⟨hb, hp, hb8, hc⟩ := id h
  obtain ⟨ok, p0, p1, p2⟩ := hp k hk
  have okx : okI (nI ((k * 16 + A) * 16 + T)) 1024 := okN (by omega) (by decide)
  have cx : (nI ((k * 16 + A) * 16 + T)).toNatClampNeg = (k * 16 + A) * 16 + T := nI_cl (by omega)
  rw [f_X0_pathOf, nm, show (16 : Int32) = nI 16 from rfl, nI_mul, nI_add, nI_mul, nI_add, ld_ok okx, cx]
  by_cases z : ua.2.2 ((k * 16 + A) * 16 + T) = 0
  · rw [if_pos ((cmp0 _).mpr z), work0 ok hA hT hk p0 p1 p2 hb, bd_s, stl_ok okx, ld_ok okx, cx]
    have e : ∀ j, (st_l ua (vp_updL ua.2.2 ((k * 16 + A) * 16 + T) (lN (pathN (sp k) (dr k) (me k) b A T)))).2.2 j = if j = (k * 16 + A) * 16 + T then lN (pathN (sp k) (dr k) (me k) b A T) else ua.2.2 j := fun j => rfl
    refine ⟨st_l ua (vp_updL ua.2.2 ((k * 16 + A) * 16 + T) (lN (pathN (sp k) (dr k) (me k) b A T))), by rw [e, if_pos rfl], ⟨hb, hp, hb8, fun k' A' T' h1 h2 h3 => ?_⟩, rfl, rfl, by rw [e, if_pos rfl], fun k' A' T' h1 h2 h3 q => ?_⟩
    · rw [e]
      by_cases c : (k' * 16 + A') * 16 + T' = (k * 16 + A) * 16 + T
      · have : k' = k ∧ A' = A ∧ T' = T := by omega
        obtain ⟨rfl, rfl, rfl⟩ := this
        rw [if_pos rfl]; exact Or.inr rfl
      · rw [if_neg c]; exact hc k' A' T' h1 h2 h3
    · rw [e]
      by_cases c : (k' * 16 + A') * 16 + T' = (k * 16 + A) * 16 + T
      · have : k' = k ∧ A' = A ∧ T' = T := by omega
        obtain ⟨rfl, rfl, rfl⟩ := this
        rw [if_pos rfl]
      · rw [if_neg c]; exact q
  · rw [if_neg (fun q => z ((cmp0 _).mp q)), ld_ok okx, cx]
    rcases hc k A T hk hA hT with q | q
    · exact absurd q z
    · rw [q]; exact ⟨ua, rfl, h, rfl, rfl, q, fun _ _ _ _ _ _ x => x⟩
section FM
variable {sp dr me b A T k : Nat}
theorem fly9 (h : okF sp dr me b) (hA : A < 16) (hT : T < 16) (hk : k < 4) {um : St} (h0 : um.2.1 0 k = nI sp) (h1 : um.2.1 1 k = nI dr) (hb : um.1 3 = nI b) : ∃ um', f_X9_fly (nI k) (nI A) (nI T) um = some um' ∧ um'.1 8 = nI (nN sp dr b A T) ∧ (∀ j, 1 ≤ j → j ≤ nN sp dr b A T → um'.2.1 7 j = cN sp dr b A T j) ∧ Fr [8] [7] um um' := by
  have hL := Ln_rng hA hT
  have hw := wh_rng h.2.2.2 hA hT
  obtain ⟨n1, n2, n3, n4⟩ := nN_spec h hA hT
  have hLne : ¬ nI (Ln A T) = 0 := nI_ne0 (by omega) (by omega)
  have hm : Ln A T * (100 - 4 * b) ≤ 85 * 100 := Nat.mul_le_mul hL.2 (by omega)
  have eW : nI (Ln A T) * (100 - 4 * um.1 3) / 100 = nI (wh b A T) := by
    rw [hb, show (4 : Int32) = nI 4 from rfl, show (100 : Int32) = nI 100 from rfl, nI_mul, nI_sub (by have := h.2.2.2; omega), nI_mul, nI_div (by omega) (by decide)]
    rfl
  rw [f_X9_fly, nm, size9, bd_s, nm, (len_eq hA hT).2, nm, eW, ld_ok (okN hk (by decide)), nI_cl (by omega), h0, nm]
  have loop : ∀ (q i fuel w : Nat) (v : St), i + q = nN sp dr b A T → q < fuel → w ≤ 60 → max 2 w = sN sp dr b A T i → v.1 8 = nI i → v.2.1 1 k = nI dr → v.1 3 = nI b → (∀ j, 1 ≤ j → j ≤ i → v.2.1 7 j = cN sp dr b A T j) → ∃ um', f_X9_fly_64 fuel (nI k) (nI A) (nI T) (nI A / 4 + nI T / 4 + 1) (nI (Ln A T)) (nI (wh b A T)) (nI (gN sp dr b A T i)) (nI w) v = some um' ∧ um'.1 8 = nI (nN sp dr b A T) ∧ (∀ j, 1 ≤ j → j ≤ nN sp dr b A T → um'.2.1 7 j = cN sp dr b A T j) ∧ Fr [8] [7] v um' := by
    intro q
    induction q with
    | zero =>
      intro i fuel w v hi hf hw60 hmx v8 v1 v3 v7
      obtain ⟨f, rfl⟩ : ∃ f, fuel = f + 1 := ⟨fuel - 1, by omega⟩
      have : i = nN sp dr b A T := by omega
      subst this
      rw [f_X9_fly_64, n2, if_pos (nI_le (Nat.le_refl _) (by omega))]
      exact ⟨v, rfl, v8, v7, (Fr.refl v).mono (by simp) (by simp)⟩
    | succ q ih =>
      intro i fuel w v hi hf hw60 hmx v8 v1 v3 v7
      obtain ⟨f, rfl⟩ : ∃ f, fuel = f + 1 := ⟨fuel - 1, by omega⟩
      have hs := sN_rng (A := A) (T := T) h i
      have hg := n1 i (by omega)
      have eg : min (wh b A T) (gN sp dr b A T i + sN sp dr b A T i) = gN sp dr b A T (i + 1) := rfl
      have es : max 2 (sN sp dr b A T i * (100 - dr - 2 * b) / 100) = sN sp dr b A T (i + 1) := rfl
      have hm2 : sN sp dr b A T i * (100 - dr - 2 * b) ≤ 60 * 100 := Nat.mul_le_mul hs.2 (by omega)
      have hL1 := gN_le (sp := sp) (dr := dr) h.2.2.2 hA hT (i + 1)
      rw [f_X9_fly_64, if_neg (nI_ge (by omega) (by omega)), nm, v8, nI_1]
      generalize hv2 : st_i v 8 (nI (i + 1)) = v2
      have w8 : v2.1 8 = nI (i + 1) := by rw [← hv2]; simp [st_i, va_up]
      have w3 : v2.1 3 = nI b := by rw [← hv2]; simpa [st_i, va_up] using v3
      have w1 : v2.2.1 = v.2.1 := by rw [← hv2]; rfl
      have wf : Fr [8] [7] v v2 := by rw [← hv2]; exact (Fr.i v 8 _).mono (by simp) (by simp)
      have go : ∃ um', f_X9_fly_93 (f_X9_fly_64 f) (nI k) (nI A) (nI T) (nI A / 4 + nI T / 4 + 1) (nI (Ln A T)) (nI (wh b A T)) (nI (gN sp dr b A T i)) (nI (sN sp dr b A T i)) v2 = some um' ∧ um'.1 8 = nI (nN sp dr b A T) ∧ (∀ j, 1 ≤ j → j ≤ nN sp dr b A T → um'.2.1 7 j = cN sp dr b A T j) ∧ Fr [8] [7] v um' := by
        have g115 : ∃ um', f_X9_fly_115 (f_X9_fly_64 f) (nI k) (nI A) (nI T) (nI A / 4 + nI T / 4 + 1) (nI (Ln A T)) (nI (wh b A T)) (nI (sN sp dr b A T i)) (nI (gN sp dr b A T (i + 1))) v2 = some um' ∧ um'.1 8 = nI (nN sp dr b A T) ∧ (∀ j, 1 ≤ j → j ≤ nN sp dr b A T → um'.2.1 7 j = cN sp dr b A T j) ∧ Fr [8] [7] v um' := by
          have g200 : ∀ x, x = cN sp dr b A T (i + 1) → ∃ um', f_X9_fly_200 (f_X9_fly_64 f) (nI k) (nI A) (nI T) (nI A / 4 + nI T / 4 + 1) (nI (Ln A T)) (nI (wh b A T)) (nI (gN sp dr b A T (i + 1))) (nI (sN sp dr b A T i * (100 - dr - 2 * b) / 100)) x (nI (i + 1)) v2 = some um' ∧ um'.1 8 = nI (nN sp dr b A T) ∧ (∀ j, 1 ≤ j → j ≤ nN sp dr b A T → um'.2.1 7 j = cN sp dr b A T j) ∧ Fr [8] [7] v um' := by
            intro x hx
            rw [f_X9_fly_200, sti_ok (okN (show i + 1 < 64 by omega) (by decide)), nI_cl (by omega)]
            obtain ⟨u, k1, k2, k3, k4⟩ := ih (i + 1) f (sN sp dr b A T i * (100 - dr - 2 * b) / 100) (st_r v2 7 (upd (v2.2.1 7) (i + 1) x)) (by omega) (by omega) (by omega) es w8 (by simpa [st_r, va_up, w1] using v1) w3 (fun j hj1 hj2 => by
              by_cases e : j = i + 1
              · subst e; simp [st_r, va_up, upd, hx]
              · simp [st_r, va_up, upd, e, w1, v7 j hj1 (by omega)])
            exact ⟨u, k1, k2, k3, (wf.trans ((Fr.r v2 7 _).mono (by simp) (by simp))).trans k4⟩
          have pe := pl_expr (nI A) (nI T) (nI (Ln A T)) (nI (gN sp dr b A T (i + 1))) hLne (show nI 1 ≤ nI (Ln A T) from nI_le (by omega) (by omega))
          rw [pl_eq hA hT hL1] at pe
          have pe := Option.some.inj pe
          have pe : cN sp dr b A T (i + 1) = _ := pe
          rw [f_X9_fly_115, ld_ok (okN hk (by decide)), nI_cl (by omega), w1, v1, w3, w8, show (2 : Int32) = nI 2 from rfl, show (100 : Int32) = nI 100 from rfl, nI_mul, nI_sub (by have := h.2.1; omega), nI_sub (by have := h.2.1; have := h.2.2.2; omega), nI_mul, nI_div (by omega) (by decide), nm, dv_ok hLne, nm, dv_ok hLne, nm]
          by_cases c : ((nI A / 4 + nI T / 4 + 1) * nI (gN sp dr b A T (i + 1)) / nI (Ln A T) - nI A / 4) - 1 < 0
          · rw [if_pos c]
            refine g200 _ ?_
            rw [pe, if_neg (Int32.not_le.mpr c)]
          · rw [if_neg c]
            refine g200 _ ?_
            rw [pe, if_pos (Int32.not_lt.mp c)]
        rw [f_X9_fly_93, nI_add]
        by_cases c : gN sp dr b A T i + sN sp dr b A T i ≤ wh b A T
        · rw [if_pos (nI_le c (by omega))]
          rw [Nat.min_eq_right c] at eg
          rw [eg]; exact g115
        · rw [if_neg (nI_ge (by omega) (by omega))]
          rw [Nat.min_eq_left (by omega)] at eg
          rw [← eg] at g115
          exact g115
      by_cases c : 2 ≤ w
      · rw [if_pos (show (2 : Int32) ≤ nI w from nI_le (a := 2) c (by omega))]
        rw [Nat.max_eq_right c] at hmx
        rw [hmx]; exact go
      · rw [if_neg (show ¬ (2 : Int32) ≤ nI w from nI_ge (b := 2) (by omega) (by decide))]
        rw [Nat.max_eq_left (by omega)] at hmx
        rw [← hmx] at go
        exact go
  obtain ⟨u, k1, k2, k3, k4⟩ := loop (nN sp dr b A T) 0 FU sp (st_i um 8 0) (by omega) (by unfold FU; omega) h.1.2 (by have := h.1.1; show max 2 sp = sp; omega) (by simp [st_i, va_up]; exact nI_0.symm) (by simpa [st_i] using h1) (by simpa [st_i, va_up] using hb) (fun j h1 h2 => by omega)
  exact ⟨u, k1, k2, k3, ((Fr.i um 8 _).mono (by simp) (by simp)).trans k4⟩
theorem first9 (h : okF sp dr me b) (hA : A < 16) (hT : T < 16) (hk : k < 4) {um : St} (h2 : um.2.1 2 k = nI me) (h8 : um.1 8 = nI (nN sp dr b A T)) (h7 : ∀ j, 1 ≤ j → j ≤ nN sp dr b A T → um.2.1 7 j = cN sp dr b A T j) : f_X9_firstMet um (nI k) = some (if fmN sp dr me b A T = 0 then -1 else nI (fmN sp dr me b A T)) := by
  obtain ⟨n1, n2, n3, n4⟩ := nN_spec h hA hT
  have hov := ov_le (sp := sp) (dr := dr) (b := b) (A := A) (T := T) (nN sp dr b A T)
  have hs := ov_suf (sp := sp) (dr := dr) h.2.2.2 hA hT (nN sp dr b A T)
  have hme := h.2.2.1
  have loop : ∀ (t q i fuel : Nat), i + q = t → q < fuel → 1 ≤ i → (∀ j, i ≤ j → j < t → cN sp dr b A T j = -1) → (t = nN sp dr b A T + 1 ∨ (t ≤ nN sp dr b A T ∧ ¬ cN sp dr b A T t = -1)) → f_X9_firstMet_25 um fuel (nI i) = some (if t = nN sp dr b A T + 1 then -1 else nI t) := by
    intro t q
    induction q with
    | zero =>
      intro i fuel hi hf hi1 hj ht
      obtain ⟨f, rfl⟩ : ∃ f, fuel = f + 1 := ⟨fuel - 1, by omega⟩
      have : i = t := by omega
      subst this
      rw [f_X9_firstMet_25, h8]
      rcases ht with e | ⟨e1, e2⟩
      · rw [if_pos (nI_lt (by omega) (by omega)), f_X9_firstMet_49, h8, if_neg (nI_ge (by omega) (by omega)), if_pos e]
      · rw [if_neg (nI_nlt (by omega) (by omega)), ld_ok (okN (show i < 64 by omega) (by decide)), nI_cl (by omega), h7 i hi1 e1, if_neg e2, f_X9_firstMet_49, h8, if_pos (nI_le e1 (by omega)), if_neg (by omega)]
    | succ q ih =>
      intro i fuel hi hf hi1 hj ht
      obtain ⟨f, rfl⟩ : ∃ f, fuel = f + 1 := ⟨fuel - 1, by omega⟩
      have hle : i ≤ nN sp dr b A T := by rcases ht with e | ⟨e1, e2⟩ <;> omega
      rw [f_X9_firstMet_25, h8, if_neg (nI_nlt (by omega) (by omega)), ld_ok (okN (show i < 64 by omega) (by decide)), nI_cl (by omega), h7 i hi1 hle, if_pos (hj i (Nat.le_refl _) (by omega)), nm, nI_1]
      exact ih (i + 1) f (by omega) (by omega) (by omega) (fun j a1 a2 => hj j (by omega) a2) ht
  have none_of : ∀ j, 1 ≤ j → j ≤ nN sp dr b A T → j ≤ nN sp dr b A T - ovN sp dr b A T (nN sp dr b A T) → cN sp dr b A T j = -1 := by
    intro j a1 a2 a3
    rcases cN_rng (sp := sp) (dr := dr) h.2.2.2 hA hT j with e | ⟨x, x1, x2⟩
    · exact e
    · exact absurd ((hs j a1 a2).mp (by rw [x2]; exact nI_inj_m1 (by omega))) (by omega)
  have fin : ∀ s, 1 ≤ s → s = max 1 (nN sp dr b A T + 1 - me) → f_X9_firstMet_24 um (nI s) = some (if fmN sp dr me b A T = 0 then -1 else nI (fmN sp dr me b A T)) := by
    intro s hs1 hse
    rw [f_X9_firstMet_24]
    by_cases c : ovN sp dr b A T (nN sp dr b A T) = 0
    · have e : fmN sp dr me b A T = 0 := by unfold fmN; rw [if_pos c]
      rw [e, if_pos rfl, loop (nN sp dr b A T + 1) (nN sp dr b A T + 1 - s) s FU (by omega) (by unfold FU; omega) hs1 (fun j a1 a2 => none_of j (by omega) (by omega) (by omega)) (Or.inl rfl), if_pos rfl]
    · have e : fmN sp dr me b A T = nN sp dr b A T + 1 - min (ovN sp dr b A T (nN sp dr b A T)) me := by unfold fmN; rw [if_neg c]
      have e1 : s ≤ fmN sp dr me b A T := by omega
      rw [loop (fmN sp dr me b A T) (fmN sp dr me b A T - s) s FU (by omega) (by unfold FU; omega) hs1 (fun j a1 a2 => none_of j (by omega) (by omega) (by omega)) (Or.inr ⟨by omega, (hs _ (by omega) (by omega)).mpr (by omega)⟩), if_neg (by omega), if_neg (by omega)]
  rw [f_X9_firstMet, ld_ok (okN hk (by decide)), nI_cl (by omega), h2, h8, nm]
  by_cases c : me ≤ nN sp dr b A T
  · rw [nI_sub c, nI_1, if_pos (show (1 : Int32) ≤ nI (nN sp dr b A T - me + 1) from nI_le (a := 1) (by omega) (by omega))]
    exact fin _ (by omega) (by omega)
  · have e : ¬ (1 : Int32) ≤ nI (nN sp dr b A T) - nI me + 1 := by
      have t1 : (nI (nN sp dr b A T)).toInt = nN sp dr b A T := nI_toInt (by omega)
      have t2 : (nI me).toInt = me := nI_toInt (by omega)
      have T1 : (1 : Int32).toInt = 1 := by decide
      have t3 : (nI (nN sp dr b A T) - nI me).toInt = nN sp dr b A T - me := by rw [tI_sub (by rw [t1, t2]; omega) (by rw [t1, t2]; omega), t1, t2]
      rw [Int32.le_iff_toInt_le, tI_add (by rw [t3, T1]; omega) (by rw [t3, T1]; omega), t3, T1]
      omega
    rw [if_neg e]
    exact fin 1 (Nat.le_refl _) (by omega)
end FM
theorem RA.p {ua um : St} (h : RA ua um) : ∃ sp dr me b, RAp sp dr me b ua := by
  obtain ⟨-, -, -, -, sp, dr, me, b, q⟩ := h; exact ⟨sp, dr, me, b, q⟩
theorem RA.of {ua um ua' : St} {sp dr me : Nat → Nat} {b : Nat} (h : RA ua um) (h1 : ua'.1 = ua.1) (h2 : ua'.2.1 = ua.2.1) (hp : RAp sp dr me b ua') : RA ua' um := by
  obtain ⟨a1, a2, a3, a4, -⟩ := h
  refine ⟨by rw [h2]; exact a1, by rw [h2]; exact a2, by rw [h2]; exact a3, by rw [h1]; exact a4, sp, dr, me, b, hp⟩
theorem s_flight {ua um : St} (h : RA ua um) (p0 p1 p2 p3 : Int32) : ∃ r ua' um', f_X8_flight p0 p1 p2 p3 ua = some (r, ua') ∧ f_X9_flight p0 p1 p2 p3 um = some (r, um') ∧ RA ua' um' ∧ Fr [8] [7] um um' := by
  have fr0 : Fr [8] [7] um um := (Fr.refl um).mono (by simp) (by simp)
  rw [f_X8_flight, f_X9_flight]
  rcases gK p0 with ⟨a0, b0, e1, e2⟩ | ⟨e1, e2⟩
  · rw [e1, e2, bd_s, bd_s, if_neg zne1, if_neg zne1]
    rcases gC p1 with ⟨a1, b1, e1, e2⟩ | ⟨e1, e2⟩
    · rw [e1, e2, bd_s, bd_s, if_neg zne1, if_neg zne1]
      rcases gC p2 with ⟨a2, b2, e1, e2⟩ | ⟨e1, e2⟩
      · rw [e1, e2, bd_s, bd_s, if_neg zne1, if_neg zne1]
        obtain ⟨k, hk, rfl⟩ := asN a0 b0 (M := 3) (by decide)
        obtain ⟨A, hA, rfl⟩ := asN a1 b1 (M := 15) (by decide)
        obtain ⟨T, hT, rfl⟩ := asN a2 b2 (M := 15) (by decide)
        obtain ⟨sp, dr, me, b, hp⟩ := h.p
        obtain ⟨ok, q0, q1, q2⟩ := hp.2.1 k (by omega)
        obtain ⟨m0', m1, m2, m3, -⟩ := id h
        obtain ⟨n1, n2, n3, n4⟩ := nN_spec ok (show A < 16 by omega) (show T < 16 by omega)
        obtain ⟨v, f1, f2, f3, f4⟩ := fly9 ok (show A < 16 by omega) (show T < 16 by omega) (show k < 4 by omega) (um := um) (by rw [m0']; exact q0) (by rw [m1]; exact q1) (by rw [m3]; exact hp.1)
        obtain ⟨ua', g1, g2, g3, g4, -⟩ := pathOf0 hp (show k < 4 by omega) (show A < 16 by omega) (show T < 16 by omega)
        have hR : RA ua' v := (h.of g3 g4 g2).fr f4 (by simp) (by simp) (by simp) (by simp)
        rw [f1, bd_s]
        rcases gd p3 0 2 with ⟨a3, b3, e1, -⟩ | ⟨hn, e1, -⟩
        · rw [e1, bd_s, if_neg zne1, g1, bd2_s, land0 ok (by omega) (by omega), bd_s]
          by_cases w0 : p3 = 0
          · rw [if_pos w0, if_pos w0, f2]; exact ⟨_, _, _, rfl, rfl, hR, f4⟩
          · rw [if_neg w0, if_neg w0, net0 ok (by omega) (by omega), bd_s]
            have fn := fm_net ok (show A < 16 by omega) (show T < 16 by omega)
            by_cases w1 : p3 = 1
            · rw [if_pos w1, if_pos w1, f2, ld_ok (okN (show nN (sp k) (dr k) b A T < 64 by omega) (by decide)), nI_cl (by omega), f3 _ n4 (Nat.le_refl _)]
              by_cases c : fmN (sp k) (dr k) (me k) b A T = 0
              · rw [if_pos c, if_neg zne1, fn.mp c]; exact ⟨_, _, _, rfl, rfl, hR, f4⟩
              · rw [if_neg c, if_pos rfl, cell0 ok (by omega) (by omega) (by have := ok.2.2.1; unfold fmN; split <;> omega) (Nat.le_refl _) c, bd_s]
                exact ⟨_, _, _, rfl, rfl, hR, f4⟩
            · have w2 : p3 = 2 := by
                apply Int32.toInt_inj.mp
                have T0 : (0 : Int32).toInt = 0 := by decide
                have T1 : (1 : Int32).toInt = 1 := by decide
                have T2 : (2 : Int32).toInt = 2 := by decide
                have z0 : ¬ p3.toInt = 0 := fun z => w0 (Int32.toInt_inj.mp (by rw [z, T0]))
                have z1 : ¬ p3.toInt = 1 := fun z => w1 (Int32.toInt_inj.mp (by rw [z, T1]))
                simp only [Int32.le_iff_toInt_le, T0, T2] at a3 b3
                rw [T2]; omega
              rw [if_neg w1, if_neg w1, if_pos w2, first9 ok (by omega) (by omega) (show k < 4 by omega) (by rw [f4.2 2 (by simp), m2]; exact q2) f2 f3, bd_s]
              by_cases c : fmN (sp k) (dr k) (me k) b A T = 0
              · rw [if_pos c, if_neg zne1, if_pos c]; exact ⟨_, _, _, rfl, rfl, hR, f4⟩
              · rw [if_neg c, if_pos rfl, met0 ok (by omega) (by omega), bd_s, if_neg c]
                exact ⟨_, _, _, rfl, rfl, hR, f4⟩
        · rw [e1, bd_s, if_pos rfl]
          have k9 : ∀ c : Int32, 0 ≤ c → c ≤ 2 → ¬ p3 = c := fun c c0 c5 q => hn (by rw [q]; exact ⟨c0, c5⟩)
          rw [if_neg (k9 0 (by decide) (by decide)), if_neg (k9 1 (by decide) (by decide)), if_neg (k9 2 (by decide) (by decide))]
          exact ⟨_, _, _, rfl, rfl, h.fr f4 (by simp) (by simp) (by simp) (by simp), f4⟩
      · rw [e1, e2, bd_s, bd_s, if_pos rfl, if_pos rfl]; exact ⟨_, _, _, rfl, rfl, h, fr0⟩
    · rw [e1, e2, bd_s, bd_s, if_pos rfl, if_pos rfl]; exact ⟨_, _, _, rfl, rfl, h, fr0⟩
  · rw [e1, e2, bd_s, bd_s, if_pos rfl, if_pos rfl]; exact ⟨_, _, _, rfl, rfl, h, fr0⟩
