section M7
variable {F L : Nat → Nat → Nat} {C : Nat → Nat → Nat → Nat} {us um1 : St} {p q stp rcp stq rcq : Nat}
theorem TQ.fr {st rc : Nat} {um um' : St} {r : Nat} {I R : List Nat} (h : TQ F L C st rc um r) (hf : Fr I R um um') (hr : r ∉ R) : TQ F L C st rc um' r := fun a s c h1 h2 h3 => by
  rw [hf.2 r hr]; exact h a s c h1 h2 h3
theorem TK.step {um : St} {r : Nat} {W : Nat → Nat → Prop} {i : Nat} (h : TK um r W i) {v : Int32} (hv : tb v (W (i / 16) (i % 16))) : TK (st_r um r (upd (um.2.1 r) i (vp_nar .boolean v))) r W (i + 1) := by
  intro k hk
  rw [st_r_2, up_eq]
  by_cases e : k = i
  · subst e; rw [upd_eq]; exact hv.nar
  · rw [upd_ne _ _ e]; exact h k (by omega)
theorem TK.oth {um : St} {r r' : Nat} {W : Nat → Nat → Prop} {n : Nat} (h : TK um r W n) (hr : r ≠ r') (f : Nat → Int32) : TK (st_r um r' f) r W n := by
  intro k hk
  rw [st_r_2, up_ne _ _ hr]; exact h k hk
theorem dvm {i : Nat} (hi : i < 256) : nI i / 16 = nI (i / 16) ∧ nI i - nI (i / 16) * 16 = nI (i % 16) := by
  have dv : nI i / 16 = nI (i / 16) := by rw [show (16 : Int32) = nI 16 from rfl, nI_div (by omega) (by decide)]
  exact ⟨dv, by rw [← dv, show (16 : Int32) = nI 16 from rfl, nI_mod (by omega) (by decide)]⟩
theorem w_59 (hB : BD F L C) (hq : TQ F L C stq rcq um1 10) (x1 x2 x3 x4 x5 : Int32) :
    ∀ (n i fuel : Nat) (um : St), i + n = 256 → n < fuel → Fr [] [11, 12, 13] um1 um → TK um 11 (W0 F L C stq rcq) i →
    ∃ um', f_X9_wins_59 fuel x1 x2 x3 x4 x5 (nI i) um = f_X9_wins_97 FU x1 x2 x3 x4 x5 2 um' ∧ Fr [] [11, 12, 13] um1 um' ∧ TK um' 11 (W0 F L C stq rcq) 256 := by
  intro n
  induction n with
  | zero =>
    intro i fuel um hi hf hv hT
    obtain ⟨f, rfl⟩ : ∃ f, fuel = f + 1 := ⟨fuel - 1, by omega⟩
    have : i = 256 := by omega
    subst this
    rw [f_X9_wins_59, if_pos (by decide)]
    exact ⟨um, rfl, hv, hT⟩
  | succ n ih =>
    intro i fuel um hi hf hv hT
    obtain ⟨f, rfl⟩ : ∃ f, fuel = f + 1 := ⟨fuel - 1, by omega⟩
    obtain ⟨d1, d2⟩ := dvm (show i < 256 by omega)
    obtain ⟨r, r1, r2⟩ := now9 hB (hq.fr hv (by simp)) (a := i / 16) (c := i % 16) (by omega) (by omega)
    rw [f_X9_wins_59, if_neg (show ¬ (256 : Int32) ≤ nI i from nI_ge (b := 256) (by omega) (by decide)), d1, d2, r1, bd_s, stz_ok (okN (show i < 256 by omega) (by decide)), nI_cl (by omega), nm, nI_1]
    exact ih (i + 1) f _ (by omega) (by omega) (hv.trans ((Fr.r um 11 _).mono (by simp) (by simp))) (hT.step r2)
theorem w_203 (k97 : Int32 → Int32 → Int32 → Int32 → Int32 → Int32 → St → Option (Int32 × St)) (x1 x2 x3 x4 x5 x6 : Int32) {W : Nat → Nat → Prop} :
    ∀ (n i fuel : Nat) (um : St), i + n = 256 → n < fuel → Fr [] [11, 12, 13] um1 um → TK um 12 W 256 → TK um 11 W i →
    ∃ um', f_X9_wins_203 k97 fuel x1 x2 x3 x4 x5 x6 (nI i) um = k97 x1 x2 x3 x4 x5 (x6 + 1) um' ∧ Fr [] [11, 12, 13] um1 um' ∧ TK um' 11 W 256 := by
  intro n
  induction n with
  | zero =>
    intro i fuel um hi hf hv hT hU
    obtain ⟨f, rfl⟩ : ∃ f, fuel = f + 1 := ⟨fuel - 1, by omega⟩
    have : i = 256 := by omega
    subst this
    rw [f_X9_wins_203, if_pos (by decide), nm]
    exact ⟨um, rfl, hv, hU⟩
  | succ n ih =>
    intro i fuel um hi hf hv hT hU
    obtain ⟨f, rfl⟩ : ∃ f, fuel = f + 1 := ⟨fuel - 1, by omega⟩
    have ok : okI (nI i) 256 := okN (by omega) (by decide)
    have cl : (nI i).toNatClampNeg = i := nI_cl (by omega)
    rw [f_X9_wins_203, if_neg (show ¬ (256 : Int32) ≤ nI i from nI_ge (b := 256) (by omega) (by decide)), ld_ok ok, cl, stz_ok ok, cl, nm, nI_1]
    exact ih (i + 1) f _ (by omega) (by omega) (hv.trans ((Fr.r um 11 _).mono (by simp) (by simp))) (hT.oth (by decide) _) (hU.step (hT i (by omega)))
theorem w_146 (hB : BD F L C) (hs : RS us um1) (hp : PL us p stp rcp) (hq : TQ F L C stq rcq um1 10) (k97 : Int32 → Int32 → Int32 → Int32 → Int32 → Int32 → St → Option (Int32 × St)) (x2 x3 x4 x5 x6 : Int32) {W : Nat → Nat → Prop} :
    ∀ (n i fuel : Nat) (um : St), i + n = 256 → n < fuel → Fr [] [11, 12, 13] um1 um → TK um 11 W 256 → TK um 13 (HD F L C stp rcp stq W) 256 → TK um 12 (NX F L C stp rcp stq rcq W) i →
    ∃ um', f_X9_wins_146 k97 fuel (nI p) x2 x3 x4 x5 x6 (nI i) um = k97 (nI p) x2 x3 x4 x5 (x6 + 1) um' ∧ Fr [] [11, 12, 13] um1 um' ∧ TK um' 11 (NX F L C stp rcp stq rcq W) 256 := by
  intro n
  induction n with
  | zero =>
    intro i fuel um hi hf hv hW hH hN
    obtain ⟨f, rfl⟩ : ∃ f, fuel = f + 1 := ⟨fuel - 1, by omega⟩
    have : i = 256 := by omega
    subst this
    rw [f_X9_wins_146, if_pos (by decide)]
    have r := w_203 k97 (nI p) x2 x3 x4 x5 x6 256 0 FU um (by omega) (by unfold FU; omega) hv hN (fun k hk => absurd hk (by omega))
    rw [nI_0] at r
    exact r
  | succ n ih =>
    intro i fuel um hi hf hv hW hH hN
    obtain ⟨f, rfl⟩ : ∃ f, fuel = f + 1 := ⟨fuel - 1, by omega⟩
    have ok : okI (nI i) 256 := okN (by omega) (by decide)
    have cl : (nI i).toNatClampNeg = i := nI_cl (by omega)
    obtain ⟨d1, d2⟩ := dvm (show i < 256 by omega)
    obtain ⟨r, r1, r2⟩ := later9 hB (hs.fr hv (by simp) (by simp) (by simp)) hp (hq.fr hv (by simp)) hH (a := i / 16) (c := i % 16) (by omega) (by omega)
    have go : ∀ v : Int32, tb v (NX F L C stp rcp stq rcq W (i / 16) (i % 16)) → ∃ um', f_X9_wins_193 k97 (f_X9_wins_146 k97 f) (nI p) x2 x3 x4 x5 x6 (nI i) v (nI i) um = k97 (nI p) x2 x3 x4 x5 (x6 + 1) um' ∧ Fr [] [11, 12, 13] um1 um' ∧ TK um' 11 (NX F L C stp rcp stq rcq W) 256 := by
      intro v hvv
      rw [f_X9_wins_193, stz_ok ok, cl, nm, nI_1]
      exact ih (i + 1) f _ (by omega) (by omega) (hv.trans ((Fr.r um 12 _).mono (by simp) (by simp))) (hW.oth (by decide) _) (hH.oth (by decide) _) (hN.step hvv)
    rw [f_X9_wins_146, if_neg (show ¬ (256 : Int32) ≤ nI i from nI_ge (b := 256) (by omega) (by decide)), ld_ok ok, cl]
    rcases hW i (by omega) with ⟨e, w⟩ | ⟨e, w⟩
    · rw [e, if_neg zne1, f_X9_wins_188]
      exact go 1 (Or.inl ⟨rfl, Or.inl w⟩)
    · rw [e, if_pos rfl, d1, d2, r1, bd_s]
      rcases r2 with ⟨rfl, h⟩ | ⟨rfl, h⟩
      · rw [if_neg zne1, f_X9_wins_188]; exact go 1 (Or.inl ⟨rfl, Or.inr h⟩)
      · rw [if_pos rfl]; exact go 0 (Or.inr ⟨rfl, fun z => z.elim w h⟩)
theorem w_107 (hB : BD F L C) (hs : RS us um1) (hp : PL us p stp rcp) (hq' : PL us q stq rcq) (hp9 : TQ F L C stp rcp um1 9) (hq : TQ F L C stq rcq um1 10) (k97 : Int32 → Int32 → Int32 → Int32 → Int32 → Int32 → St → Option (Int32 × St)) (x3 x4 x5 x6 : Int32) {W : Nat → Nat → Prop} :
    ∀ (n i fuel : Nat) (um : St), i + n = 256 → n < fuel → Fr [] [11, 12, 13] um1 um → TK um 11 W 256 → TK um 13 (HD F L C stp rcp stq W) i →
    ∃ um', f_X9_wins_107 k97 fuel (nI p) (nI q) x3 x4 x5 x6 (nI i) um = k97 (nI p) (nI q) x3 x4 x5 (x6 + 1) um' ∧ Fr [] [11, 12, 13] um1 um' ∧ TK um' 11 (NX F L C stp rcp stq rcq W) 256 := by
  intro n
  induction n with
  | zero =>
    intro i fuel um hi hf hv hW hH
    obtain ⟨f, rfl⟩ : ∃ f, fuel = f + 1 := ⟨fuel - 1, by omega⟩
    have : i = 256 := by omega
    subst this
    rw [f_X9_wins_107, if_pos (by decide)]
    have r := w_146 hB hs hp hq k97 (nI q) x3 x4 x5 x6 256 0 FU um (by omega) (by unfold FU; omega) hv hW hH (fun k hk => absurd hk (by omega))
    rw [nI_0] at r
    exact r
  | succ n ih =>
    intro i fuel um hi hf hv hW hH
    obtain ⟨f, rfl⟩ : ∃ f, fuel = f + 1 := ⟨fuel - 1, by omega⟩
    have ok : okI (nI i) 256 := okN (by omega) (by decide)
    have cl : (nI i).toNatClampNeg = i := nI_cl (by omega)
    obtain ⟨d1, d2⟩ := dvm (show i < 256 by omega)
    obtain ⟨r, r1, r2⟩ := holds9 hB (hs.fr hv (by simp) (by simp) (by simp)) hq' (hp9.fr hv (by simp)) hW (b := i / 16) (d := i % 16) (by omega) (by omega)
    rw [f_X9_wins_107, if_neg (show ¬ (256 : Int32) ≤ nI i from nI_ge (b := 256) (by omega) (by decide)), d1, d2, r1, bd_s, stz_ok ok, cl, nm, nI_1]
    exact ih (i + 1) f _ (by omega) (by omega) (hv.trans ((Fr.r um 13 _).mono (by simp) (by simp))) (hW.oth (by decide) _) (hH.step r2)
theorem w_97 (hB : BD F L C) (hs : RS us um1) (hp : PL us p stp rcp) (hq' : PL us q stq rcq) (hp9 : TQ F L C stp rcp um1 9) (hq : TQ F L C stq rcq um1 10) {a c n : Nat} (ha : a < 16) (hc : c < 16) (hn : n ≤ 4) :
    ∀ (m w fuel : Nat) (um : St), w + m = n → m + 1 < fuel → 1 ≤ w → Fr [] [11, 12, 13] um1 um → TK um 11 (WN F L C stp rcp stq rcq (w - 1)) 256 →
    ∃ r um', f_X9_wins_97 fuel (nI p) (nI q) (nI a) (nI c) (nI n) (nI (w + 1)) um = some (r, um') ∧ Fr [] [11, 12, 13] um1 um' ∧ tb r (WN F L C stp rcp stq rcq (n - 1) a c) := by
  intro m
  induction m with
  | zero =>
    intro w fuel um hi hf hw hv hT
    obtain ⟨f, rfl⟩ : ∃ f, fuel = f + 1 := ⟨fuel - 1, by omega⟩
    have : w = n := by omega
    subst this
    have ix : 16 * nI a + nI c = nI (16 * a + c) := by rw [show (16 : Int32) = nI 16 from rfl, nI_mul, nI_add]
    rw [f_X9_wins_97, if_pos (nI_lt (by omega) (by omega)), ix, ld_ok (okN (show 16 * a + c < 256 by omega) (by decide)), nI_cl (by omega)]
    have t := hT (16 * a + c) (by omega)
    rw [show (16 * a + c) / 16 = a by omega, show (16 * a + c) % 16 = c by omega] at t
    rcases t with ⟨t, w⟩ | ⟨t, w⟩
    · rw [t, if_neg zne1]; exact ⟨_, _, rfl, hv, Or.inl ⟨rfl, w⟩⟩
    · rw [t, if_pos rfl]; exact ⟨_, _, rfl, hv, Or.inr ⟨rfl, w⟩⟩
  | succ m ih =>
    intro w fuel um hi hf hw hv hT
    obtain ⟨f, rfl⟩ : ∃ f, fuel = f + 1 := ⟨fuel - 1, by omega⟩
    rw [f_X9_wins_97, if_neg (nI_nlt (by omega) (by omega))]
    obtain ⟨v, v1, v2, v3⟩ := w_107 hB hs hp hq' hp9 hq (f_X9_wins_97 f) (nI a) (nI c) (nI n) (nI (w + 1)) 256 0 FU um (by omega) (by unfold FU; omega) hv hT (fun k hk => absurd hk (by omega))
    rw [nI_0, nI_1] at v1
    rw [v1]
    obtain ⟨k, rfl⟩ : ∃ k, w = k + 1 := ⟨w - 1, by omega⟩
    exact ih (k + 1 + 1) f v (by omega) (by omega) (by omega) v2 v3
end M7
theorem s_wins {ua us um : St} (ud : St) (h : RA ua um) (hs : RS us um) (p0 p1 p2 p3 p4 : Int32) : ∃ r ua' ud' um', f_X8_wins us p0 p1 p2 p3 p4 ua ud = some (r, ua', ud') ∧ f_X9_wins p0 p1 p2 p3 p4 um = some (r, um') ∧ RA ua' um' ∧ Fr [8] [7, 9, 10, 11, 12, 13] um um' := by
  have fr0 : Fr [8] [7, 9, 10, 11, 12, 13] um um := (Fr.refl um).mono (by simp) (by simp)
  rw [f_X8_wins, f_X9_wins]
  rcases gP p0 with ⟨a0, b0, e1, e2⟩ | ⟨e1, e2⟩
  · rw [e1, e2, bd_s, bd_s, if_neg zne1, if_neg zne1]
    rcases gP p1 with ⟨a1, b1, e1, e2⟩ | ⟨e1, e2⟩
    · rw [e1, e2, bd_s, bd_s, if_neg zne1, if_neg zne1]
      rcases gC p2 with ⟨a2, b2, e1, e2⟩ | ⟨e1, e2⟩
      · rw [e1, e2, bd_s, bd_s, if_neg zne1, if_neg zne1]
        rcases gC p3 with ⟨a3, b3, e1, e2⟩ | ⟨e1, e2⟩
        · rw [e1, e2, bd_s, bd_s, if_neg zne1, if_neg zne1]
          rcases gd p4 1 4 with ⟨a4, b4, e1, e2⟩ | ⟨-, e1, e2⟩
          · rw [e1, e2, bd_s, bd_s, if_neg zne1, if_neg zne1]
            by_cases e : p0 = p1
            · rw [if_pos e, if_pos e]; exact ⟨_, _, _, _, rfl, rfl, h, fr0⟩
            rw [if_neg e, if_neg e]
            obtain ⟨p, hp, rfl⟩ := asN a0 b0 (M := 7) (by decide)
            obtain ⟨q, hq, rfl⟩ := asN a1 b1 (M := 7) (by decide)
            obtain ⟨a, ha, rfl⟩ := asN a2 b2 (M := 15) (by decide)
            obtain ⟨c, hc, rfl⟩ := asN a3 b3 (M := 15) (by decide)
            obtain ⟨n, hn, rfl⟩ := asN (Int32.le_trans (by decide) a4) b4 (M := 4) (by decide)
            have hn1 : 1 ≤ n := by
              have := Int32.le_iff_toInt_le.mp a4
              rw [nI_toInt (by omega), show (1 : Int32).toInt = 1 by decide] at this
              omega
            obtain ⟨sp, dr, me, b, hpp⟩ := h.p
            obtain ⟨x1, x2, x3⟩ := h.m hpp
            obtain ⟨stp, rcp, -, s2, s3, s4, s5⟩ := hs.n (show p < 8 by omega)
            obtain ⟨stq, rcq, -, t2, t3, t4, t5⟩ := hs.n (show q < 8 by omega)
            have hP : PL us p stp rcp := ⟨s4, s5, by omega, s2, s3⟩
            have hQ : PL us q stq rcq := ⟨t4, t5, by omega, t2, t3⟩
            have hB := BD_of x3
            obtain ⟨r, ua', ud', k1, k2, k3, k4, k5⟩ := force3 (ud := ud) x3 hP hQ hpp (show a < 16 by omega) (show c < 16 by omega) hn hn1
            obtain ⟨u1, f1, f2, f3⟩ := findM9 x3 hs x1 x2 hP hQ
            have hs1 : RS us u1 := hs.fr f2 (by simp) (by simp) (by simp)
            have hT9 : TQ (FF sp dr me b) (LL sp dr b) (CC sp dr b) stp rcp u1 9 := fun a s c h1 h2 h3 => (f3 a s c h1 h2 h3).1
            have hT10 : TQ (FF sp dr me b) (LL sp dr b) (CC sp dr b) stq rcq u1 10 := fun a s c h1 h2 h3 => (f3 a s c h1 h2 h3).2
            obtain ⟨u2, g1, g2, g3⟩ := w_59 hB hT10 (nI p) (nI q) (nI a) (nI c) (nI n) 256 0 FU u1 (by omega) (by unfold FU; omega) ((Fr.refl u1).mono (by simp) (by simp)) (fun k hk => absurd hk (by omega))
            obtain ⟨r', u3, j1, j2, j3⟩ := w_97 hB hs1 hP hQ hT9 hT10 (show a < 16 by omega) (show c < 16 by omega) hn (n - 1) 1 FU u2 (by omega) (by unfold FU; omega) (by omega) g2 g3
            rw [nI_0] at g1
            have j1 : f_X9_wins_97 FU (nI p) (nI q) (nI a) (nI c) (nI n) 2 u2 = some (r', u3) := j1
            have fr1 : Fr [8] [7, 9, 10, 11, 12, 13] um u3 := (f2.mono (by simp) (by simp)).trans (j2.mono (by simp) (by simp))
            have hR : RA ua' u3 := (h.of k3 k4 k2).fr fr1 (by simp) (by simp) (by simp) (by simp)
            rw [k1, bd3_s, f1, bd_s, g1, j1]
            rcases k5 with ⟨rfl, w⟩ | ⟨rfl, w⟩
            · rw [if_neg zne1]
              rcases j3 with ⟨rfl, z⟩ | ⟨rfl, z⟩
              · exact ⟨_, _, _, _, rfl, rfl, hR, fr1⟩
              · exact absurd w z
            · rw [if_pos rfl]
              rcases j3 with ⟨rfl, z⟩ | ⟨rfl, z⟩
              · exact absurd z w
              · exact ⟨_, _, _, _, rfl, rfl, hR, fr1⟩
          · rw [e1, e2, bd_s, bd_s, if_pos rfl, if_pos rfl]; exact ⟨_, _, _, _, rfl, rfl, h, fr0⟩
        · rw [e1, e2, bd_s, bd_s, if_pos rfl, if_pos rfl]; exact ⟨_, _, _, _, rfl, rfl, h, fr0⟩
      · rw [e1, e2, bd_s, bd_s, if_pos rfl, if_pos rfl]; exact ⟨_, _, _, _, rfl, rfl, h, fr0⟩
    · rw [e1, e2, bd_s, bd_s, if_pos rfl, if_pos rfl]; exact ⟨_, _, _, _, rfl, rfl, h, fr0⟩
  · rw [e1, e2, bd_s, bd_s, if_pos rfl, if_pos rfl]; exact ⟨_, _, _, _, rfl, rfl, h, fr0⟩
