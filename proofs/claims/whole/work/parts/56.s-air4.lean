theorem behind0 {sp dr me b A T k : Nat} {ua : St} (h : okF sp dr me b) (hA : A < 16) (hT : T < 16) (hk : k < 4) (h0 : ua.2.1 0 k = nI sp) (h1 : ua.2.1 1 k = nI dr) (hb : ua.1 4 = nI b) {n : Nat} (hn : n ≤ 60) (hn1 : 1 ≤ n) : f_X0_placeBehind ua (nI k) (nI A) (nI T) (nI n) = some (cN sp dr b A T (min n (nN sp dr b A T))) := by
  have hL := Ln_rng hA hT
  have hw := wh_rng h.2.2.2 hA hT
  obtain ⟨n1, n2, n3, n4⟩ := nN_spec h hA hT
  rw [f_X0_placeBehind, (len_eq hA hT).1, bd_s, whole0 hb h.2.2.2 hA hT, bd_s, ld_ok (okN hk (by decide)), nI_cl (by omega), h0]
  have loop : ∀ (q i fuel : Nat), i + q = min n (nN sp dr b A T) → q < fuel → f_X0_placeBehind_29 ua fuel (nI k) (nI A) (nI T) (nI n) (nI (Ln A T)) (nI (wh b A T)) (nI (sN sp dr b A T i)) (nI (gN sp dr b A T i)) (nI (i + 1)) = some (cN sp dr b A T (min n (nN sp dr b A T))) := by
    intro q
    induction q with
    | zero =>
      intro i fuel hi hf
      obtain ⟨f, rfl⟩ : ∃ f, fuel = f + 1 := ⟨fuel - 1, by omega⟩
      have e : i = min n (nN sp dr b A T) := by omega
      have fin : f_X0_placeBehind_70 ua (nI A) (nI T) (nI (Ln A T)) (nI (gN sp dr b A T i)) = some (cN sp dr b A T (min n (nN sp dr b A T))) := by
        rw [f_X0_placeBehind_70, pl_eq hA hT (gN_le h.2.2.2 hA hT i), bd_s, ← e]; rfl
      rw [f_X0_placeBehind_29]
      by_cases c : n < i + 1
      · rw [if_pos (nI_lt c (by omega)), fin]
      · have e2 : i = nN sp dr b A T := by omega
        rw [if_neg (nI_nlt (by omega) (by omega)), if_pos (by rw [e2, n2]; exact nI_le (Nat.le_refl _) (by omega)), fin]
    | succ q ih =>
      intro i fuel hi hf
      obtain ⟨f, rfl⟩ : ∃ f, fuel = f + 1 := ⟨fuel - 1, by omega⟩
      have hs := sN_rng (A := A) (T := T) h i
      have hg := n1 i (by omega)
      have eg : min (wh b A T) (gN sp dr b A T i + sN sp dr b A T i) = gN sp dr b A T (i + 1) := rfl
      have es : max 2 (sN sp dr b A T i * (100 - dr - 2 * b) / 100) = sN sp dr b A T (i + 1) := rfl
      rw [f_X0_placeBehind_29, if_neg (nI_nlt (by omega) (by omega)), if_neg (nI_ge (by omega) (by omega)), nm, nI_add, nm, mn_nI (by omega) (by omega), eg, slow0 h1 hk hb h.2.1 h.2.2.2 hs.2, bd_s, es, nm, nI_1]
      exact ih (i + 1) f (by omega) (by omega)
  exact loop (min n (nN sp dr b A T)) 0 FU (by omega) (by unfold FU; omega)
theorem s_over {ua um : St} (h : RA ua um) (p0 p1 p2 p3 : Int32) : ∃ r um', f_X8_over ua p0 p1 p2 p3 = some r ∧ f_X9_over p0 p1 p2 p3 um = some (r, um') ∧ Fr [8] [7] um um' := by
  have fr0 : Fr [8] [7] um um := (Fr.refl um).mono (by simp) (by simp)
  rw [f_X8_over, f_X9_over]
  rcases gK p0 with ⟨a0, b0, e1, e2⟩ | ⟨e1, e2⟩
  · rw [e1, e2, bd_s, bd_s, if_neg zne1, if_neg zne1]
    rcases gC p1 with ⟨a1, b1, e1, e2⟩ | ⟨e1, e2⟩
    · rw [e1, e2, bd_s, bd_s, if_neg zne1, if_neg zne1]
      rcases gC p2 with ⟨a2, b2, e1, e2⟩ | ⟨e1, e2⟩
      · rw [e1, e2, bd_s, bd_s, if_neg zne1, if_neg zne1]
        rcases gd p3 1 60 with ⟨a3, b3, e1, e2⟩ | ⟨hn, e1, e2⟩
        · rw [e1, e2, bd_s, bd_s, if_neg zne1, if_neg zne1]
          obtain ⟨k, hk, rfl⟩ := asN a0 b0 (M := 3) (by decide)
          obtain ⟨A, hA, rfl⟩ := asN a1 b1 (M := 15) (by decide)
          obtain ⟨T, hT, rfl⟩ := asN a2 b2 (M := 15) (by decide)
          obtain ⟨n, hn, rfl⟩ := asN (Int32.le_trans (by decide) a3) b3 (M := 60) (by decide)
          have hn1 : 1 ≤ n := (nI_leI (a := 1) (by decide) (by omega)).mp a3
          obtain ⟨sp, dr, me, b, hp⟩ := h.p
          obtain ⟨ok, q0, q1, q2⟩ := hp.2.1 k (by omega)
          obtain ⟨m0', m1, m2, m3, -⟩ := id h
          obtain ⟨n1, n2, n3, n4⟩ := nN_spec ok (show A < 16 by omega) (show T < 16 by omega)
          obtain ⟨v, f1, f2, f3, f4⟩ := fly9 ok (show A < 16 by omega) (show T < 16 by omega) (show k < 4 by omega) (um := um) (by rw [m0']; exact q0) (by rw [m1]; exact q1) (by rw [m3]; exact hp.1)
          rw [f1, bd_s, behind0 ok (by omega) (by omega) (show k < 4 by omega) q0 q1 hp.1 hn hn1, bd_s, f2]
          by_cases c : nN (sp k) (dr k) b A T ≤ n
          · rw [if_pos (nI_le c (by omega)), ld_ok (okN (show nN (sp k) (dr k) b A T < 64 by omega) (by decide)), nI_cl (by omega), f3 _ n4 (Nat.le_refl _), Nat.min_eq_right c]
            exact ⟨_, _, rfl, rfl, f4⟩
          · rw [if_neg (nI_ge (by omega) (by omega)), ld_ok (okN (show n < 64 by omega) (by decide)), nI_cl (by omega), f3 n hn1 (by omega), Nat.min_eq_left (by omega)]
            exact ⟨_, _, rfl, rfl, f4⟩
        · rw [e1, e2, bd_s, bd_s, if_pos rfl, if_pos rfl]; exact ⟨_, _, rfl, rfl, fr0⟩
      · rw [e1, e2, bd_s, bd_s, if_pos rfl, if_pos rfl]; exact ⟨_, _, rfl, rfl, fr0⟩
    · rw [e1, e2, bd_s, bd_s, if_pos rfl, if_pos rfl]; exact ⟨_, _, rfl, rfl, fr0⟩
  · rw [e1, e2, bd_s, bd_s, if_pos rfl, if_pos rfl]; exact ⟨_, _, rfl, rfl, fr0⟩
theorem clear0 {k : Nat} (hk : k < 4) : ∀ (q i fuel : Nat) (ua : St), i + q = 256 → q < fuel → ∃ ua', f_X0_setKind_25 fuel (nI k) (nI i) ua = some ua' ∧ ua'.1 = ua.1 ∧ ua'.2.1 = ua.2.1 ∧ ∀ j, ua'.2.2 j = if k * 256 + i ≤ j ∧ j < k * 256 + 256 then 0 else ua.2.2 j := by
  intro q
  induction q with
  | zero =>
    intro i fuel ua hi hf
    obtain ⟨f, rfl⟩ : ∃ f, fuel = f + 1 := ⟨fuel - 1, by omega⟩
    have : i = 256 := by omega
    subst this
    rw [f_X0_setKind_25, if_pos (by decide)]
    exact ⟨ua, rfl, rfl, rfl, fun j => by rw [if_neg (by omega)]⟩
  | succ q ih =>
    intro i fuel ua hi hf
    obtain ⟨f, rfl⟩ : ∃ f, fuel = f + 1 := ⟨fuel - 1, by omega⟩
    rw [f_X0_setKind_25, if_neg (show ¬ (256 : Int32) ≤ nI i from nI_ge (b := 256) (by omega) (by decide)), show (16 : Int32) = nI 16 from rfl, nI_mul, nI_mul, nI_add, stl_ok (okN (show k * 16 * 16 + i < 1024 by omega) (by decide)), nm, nI_1, nI_cl (by omega)]
    obtain ⟨ua', g1, g2, g3, g4⟩ := ih (i + 1) f (st_l ua (vp_updL ua.2.2 (k * 16 * 16 + i) 0)) (by omega) (by omega)
    refine ⟨ua', g1, g2, g3, fun j => ?_⟩
    rw [g4]
    show (if _ then _ else (if j = k * 16 * 16 + i then (0 : Int64) else ua.2.2 j)) = _
    by_cases c : k * 256 + i ≤ j ∧ j < k * 256 + 256
    · rw [if_pos c]
      by_cases e : j = k * 16 * 16 + i
      · rw [if_neg (by omega), if_pos e]
      · rw [if_pos (by omega)]
    · rw [if_neg c, if_neg (by omega), if_neg (by omega)]
theorem s_kind {ua um : St} (h : RA ua um) (p0 p1 p2 p3 : Int32) : ∃ r ua' um', f_X8_kind p0 p1 p2 p3 ua = some (r, ua') ∧ f_X9_kind p0 p1 p2 p3 um = some (r, um') ∧ RA ua' um' ∧ Fr [] [0, 1, 2] um um' := by
  have fr0 : Fr [] [0, 1, 2] um um := (Fr.refl um).mono (by simp) (by simp)
  rw [f_X8_kind, f_X9_kind]
  rcases gK p0 with ⟨a0, b0, e1, e2⟩ | ⟨e1, e2⟩
  · rw [e1, e2, bd_s, bd_s, if_neg zne1, if_neg zne1]
    rcases gd p1 10 60 with ⟨a1, b1, e1, e2⟩ | ⟨-, e1, e2⟩
    · rw [e1, e2, bd_s, bd_s, if_neg zne1, if_neg zne1]
      rcases gd p2 0 60 with ⟨a2, b2, e1, e2⟩ | ⟨-, e1, e2⟩
      · rw [e1, e2, bd_s, bd_s, if_neg zne1, if_neg zne1]
        rcases gd p3 1 6 with ⟨a3, b3, e1, e2⟩ | ⟨-, e1, e2⟩
        · rw [e1, e2, bd_s, bd_s, if_neg zne1, if_neg zne1]
          obtain ⟨k, hk, rfl⟩ := asN a0 b0 (M := 3) (by decide)
          obtain ⟨s, hs, rfl⟩ := asN (Int32.le_trans (by decide) a1) b1 (M := 60) (by decide)
          obtain ⟨d, hd, rfl⟩ := asN a2 b2 (M := 60) (by decide)
          obtain ⟨m, hm, rfl⟩ := asN (Int32.le_trans (by decide) a3) b3 (M := 6) (by decide)
          have hs1 : 10 ≤ s := (nI_leI (a := 10) (by decide) (by omega)).mp a1
          have hm1 : 1 ≤ m := (nI_leI (a := 1) (by decide) (by omega)).mp a3
          have ok : okI (nI k) 4 := okN (by omega) (by decide)
          obtain ⟨m0', m1, m2, m3, sp, dr, me, b, q1, q2, q3, q4⟩ := id h
          rw [f_X0_setKind, sti_ok ok, sti_ok ok, sti_ok ok, sti_ok ok, sti_ok ok, sti_ok ok, nI_cl (by omega)]
          obtain ⟨u, g1, g2, g3, g4⟩ := clear0 (show k < 4 by omega) 256 0 FU (st_r (st_r (st_r ua 0 (upd (ua.2.1 0) k (nI s))) 1 (upd ((st_r ua 0 (upd (ua.2.1 0) k (nI s))).2.1 1) k (nI d))) 2 (upd ((st_r (st_r ua 0 (upd (ua.2.1 0) k (nI s))) 1 (upd ((st_r ua 0 (upd (ua.2.1 0) k (nI s))).2.1 1) k (nI d))).2.1 2) k (nI m))) (by omega) (by unfold FU; omega)
          rw [nI_0] at g1
          rw [g1, bd_s]
          refine ex2 rfl ⟨?_, ?_, ?_, ?_, fun j => if j = k then s else sp j, fun j => if j = k then d else dr j, fun j => if j = k then m else me j, b, ?_, ?_, q3, ?_⟩ ((((Fr.r um 0 _).mono (by simp) (by simp)).trans ((Fr.r _ 1 _).mono (by simp) (by simp))).trans ((Fr.r _ 2 _).mono (by simp) (by simp)))
          · rw [g3]; simp [st_r, va_up, m0']
          · rw [g3]; simp [st_r, va_up, m1]
          · rw [g3]; simp [st_r, va_up, m2]
          · rw [g2]; simpa [st_r] using m3
          · rw [g2]; exact q1
          · intro j hj
            rw [g3]
            by_cases e : j = k
            · subst e
              simp only [if_pos]
              exact ⟨⟨⟨hs1, hs⟩, hd, ⟨hm1, hm⟩, q3⟩, by simp [st_r, va_up, upd], by simp [st_r, va_up, upd], by simp [st_r, va_up, upd]⟩
            · simp only [if_neg e]
              obtain ⟨x1, x2, x3, x4⟩ := q2 j hj
              exact ⟨x1, by simp [st_r, va_up, upd, e, x2], by simp [st_r, va_up, upd, e, x3], by simp [st_r, va_up, upd, e, x4]⟩
          · intro k' A' T' h1 h2 h3
            rw [g4]
            by_cases e : k' = k
            · subst e
              rw [if_pos (by omega)]; exact Or.inl rfl
            · rw [if_neg (by omega)]
              simp only [if_neg e]
              exact q4 k' A' T' h1 h2 h3
        · rw [e1, e2, bd_s, bd_s, if_pos rfl, if_pos rfl]; exact ⟨_, _, _, rfl, rfl, h, fr0⟩
      · rw [e1, e2, bd_s, bd_s, if_pos rfl, if_pos rfl]; exact ⟨_, _, _, rfl, rfl, h, fr0⟩
    · rw [e1, e2, bd_s, bd_s, if_pos rfl, if_pos rfl]; exact ⟨_, _, _, rfl, rfl, h, fr0⟩
  · rw [e1, e2, bd_s, bd_s, if_pos rfl, if_pos rfl]; exact ⟨_, _, _, rfl, rfl, h, fr0⟩
theorem s_broken {ua um : St} (h : RA ua um) (p0 : Int32) : ∃ r ua' um', f_X8_broken p0 ua = some (r, ua') ∧ f_X9_broken p0 um = some (r, um') ∧ RA ua' um' ∧ Fr [3] [] um um' := by
  have fr0 : Fr [3] [] um um := (Fr.refl um).mono (by simp) (by simp)
  rw [f_X8_broken, f_X9_broken]
  rcases gd p0 0 8 with ⟨a0, b0, e1, e2⟩ | ⟨-, e1, e2⟩
  · rw [e1, e2, bd_s, bd_s, if_neg zne1, if_neg zne1]
    obtain ⟨b', hb', rfl⟩ := asN a0 b0 (M := 8) (by decide)
    obtain ⟨m0', m1, m2, m3, sp, dr, me, b, q1, q2, q3, q4⟩ := id h
    rw [f_X0_setBroken, nm, nm, nm, bd2_s]
    refine ex2 m3 ⟨by simpa [st_l, st_i] using m0', by simpa [st_l, st_i] using m1, by simpa [st_l, st_i] using m2, by simp [st_l, st_i, va_up], sp, dr, me, b', by simp [st_l, st_i, va_up], ?_, hb', ?_⟩ ((Fr.i um 3 _).mono (by simp) (by simp))
    · intro k hk
      obtain ⟨x1, x2, x3, x4⟩ := q2 k hk
      exact ⟨⟨x1.1, x1.2.1, x1.2.2.1, hb'⟩, x2, x3, x4⟩
    · intro k A T h1 h2 h3
      refine Or.inl ?_
      show fillL 1024 _ _ _ = _
      unfold fillL
      rw [if_pos (by omega)]
  · rw [e1, e2, bd_s, bd_s, if_pos rfl, if_pos rfl]; exact ⟨_, _, _, rfl, rfl, h, fr0⟩
