def RAm (N : Int32) (um : St) (a : Acc) : Prop := match a with
  | none => um.1 34 = -1
  | some (w, h, g, b) => um.1 34 = N ∧ um.1 35 = w ∧ um.1 36 = h ∧ um.1 37 = g ∧ ∀ j, j < 8 → um.2.1 33 j = b j
def vld (m : Nat → Int32) : Prop := ∀ j, j < 8 → m j = -1 ∨ ∃ o, o < 8 ∧ m j = nI o
theorem size9 (v : Int32) : f_X9_size v = some (ab v) := by
  unfold f_X9_size ab
  by_cases h : 0 ≤ v
  · rw [if_pos h, if_pos h]
  · rw [if_neg h, if_neg h, Int32.zero_sub]
theorem look_copy {m : Nat → Int32} {N w h g : Int32} : ∀ (q i fuel : Nat) (um : St), i + q = 8 → q < fuel → (∀ j, j < 8 → um.2.1 32 j = m j) → (∀ j, j < i → um.2.1 33 j = m j) → ∃ um', f_X9_lookAtRound_184 fuel N w h g 1 (nI i) um = some um' ∧ RAm N um' (some (w, h, g, m)) ∧ Fr [34, 35, 36, 37] [33] um um' := by
  intro q
  induction q with
  | zero =>
    intro i fuel um hi hf hm hb
    obtain ⟨f, rfl⟩ : ∃ f, fuel = f + 1 := ⟨fuel - 1, by omega⟩
    have : i = 8 := by omega
    subst this
    rw [f_X9_lookAtRound_184, if_pos (by decide), f_X9_lookAtRound_216, nm, if_neg zne1, f_X9_lookAtRound_235, nm, if_neg zne1, f_X9_lookAtRound_252, nm, if_neg zne1, f_X9_lookAtRound_270, nm]
    refine ⟨_, rfl, ⟨?_, ?_, ?_, ?_, ?_⟩, ?_⟩
    · simp [st_i, va_up]
    · simp [st_i, va_up]
    · simp [st_i, va_up]
    · simp [st_i, va_up]
    · intro j hj; simpa [st_i] using hb j hj
    · exact ((((Fr.i um 34 _).mono (by simp) (by simp)).trans ((Fr.i _ 35 _).mono (by simp) (by simp))).trans ((Fr.i _ 36 _).mono (by simp) (by simp))).trans ((Fr.i _ 37 _).mono (by simp) (by simp))
  | succ q ih =>
    intro i fuel um hi hf hm hb
    obtain ⟨f, rfl⟩ : ∃ f, fuel = f + 1 := ⟨fuel - 1, by omega⟩
    have ok : okI (nI i) 8 := okN (by omega) (by decide)
    rw [f_X9_lookAtRound_184, if_neg (show ¬ (8 : Int32) ≤ nI i from nI_ge (b := 8) (by omega) (by decide)), if_neg zne1, ld_ok ok, sti_ok ok, nm, nI_1, nI_cl (by omega)]
    obtain ⟨um', k1, k2, k3⟩ := ih (i + 1) f (st_r um 33 (upd (um.2.1 33) i (um.2.1 32 i))) (by omega) (by omega) (fun j hj => by simpa [st_r, va_up] using hm j hj) (fun j hj => by
      by_cases e : j = i
      · subst e; simp [st_r, va_up, upd, hm j (by omega)]
      · simp [st_r, va_up, upd, e, hb j (by omega)])
    exact ⟨um', k1, k2, ((Fr.r um 33 _).mono (by simp) (by simp)).trans k3⟩
theorem look9 {wa ga gr m : Nat → Int32} {a : Acc} {N : Int32} (hN : ¬ N = -1) {um : St} (h27 : um.2.1 27 = gr) (h28 : um.2.1 28 = wa) (h29 : um.2.1 29 = ga) (hm : ∀ j, j < 8 → um.2.1 32 j = m j) (hv : vld m) (ha : RAm N um a) : ∃ um', f_X9_lookAtRound N um = some um' ∧ RAm N um' (lookE wa ga gr m a) ∧ Fr [34, 35, 36, 37] [33] um um' := by
  have loop : ∀ (q i fuel : Nat), i + q = 8 → q < fuel → ∃ um', f_X9_lookAtRound_10 fuel N (sI (fW wa m) i) (sI (fH ga m) i) (sI (fG gr m) i) (nI i) um = some um' ∧ RAm N um' (lookE wa ga gr m a) ∧ Fr [34, 35, 36, 37] [33] um um' := by
    intro q
    induction q with
    | zero =>
      intro i fuel hi hf
      obtain ⟨f, rfl⟩ : ∃ f, fuel = f + 1 := ⟨fuel - 1, by omega⟩
      have : i = 8 := by omega
      subst this
      rw [f_X9_lookAtRound_10, if_pos (by decide)]
      generalize hw : sI (fW wa m) 8 = w
      generalize hh : sI (fH ga m) 8 = h
      generalize hg : sI (fG gr m) 8 = g
      have yes : ∃ um', f_X9_lookAtRound_174 N w h g um = some um' ∧ RAm N um' (some (w, h, g, m)) ∧ Fr [34, 35, 36, 37] [33] um um' := by
        rw [f_X9_lookAtRound_174, f_X9_lookAtRound_179]
        exact look_copy 8 0 FU um (by omega) (by unfold FU; omega) hm (fun j hj => by omega)
      unfold lookE
      rw [hw, hh, hg]
      cases a with
      | none =>
        have ha : um.1 34 = -1 := ha
        rw [if_pos ha]; exact yes
      | some q =>
        obtain ⟨bw, bb, bu, bm⟩ := q
        obtain ⟨a1, a2, a3, a4, a5⟩ := id ha
        have no : ∃ um', f_X9_lookAtRound_178 N w h g um = some um' ∧ RAm N um' (some (bw, bb, bu, bm)) ∧ Fr [34, 35, 36, 37] [33] um um' := by
          obtain ⟨f0, hf0⟩ := FU_add 1 (by decide)
          rw [f_X9_lookAtRound_178, f_X9_lookAtRound_179, hf0, f_X9_lookAtRound_184, if_neg (by decide), if_pos rfl, f_X9_lookAtRound_216, nm, if_pos rfl, f_X9_lookAtRound_235, nm, if_pos rfl, f_X9_lookAtRound_252, nm, if_pos rfl, f_X9_lookAtRound_270, nm]
          refine ⟨_, rfl, ⟨?_, ?_, ?_, ?_, ?_⟩, ?_⟩
          · simp [st_i, va_up]
          · simp [st_i, va_up, a2]
          · simp [st_i, va_up, a3]
          · simp [st_i, va_up, a4]
          · intro j hj; simpa [st_i] using a5 j hj
          · exact ((((Fr.i um 34 _).mono (by simp) (by simp)).trans ((Fr.i _ 35 _).mono (by simp) (by simp))).trans ((Fr.i _ 36 _).mono (by simp) (by simp))).trans ((Fr.i _ 37 _).mono (by simp) (by simp))
        have y2 : betr w h g bw bb bu = true → ∃ um', f_X9_lookAtRound_174 N w h g um = some um' ∧ RAm N um' (if betr w h g bw bb bu = true then some (w, h, g, m) else some (bw, bb, bu, bm)) ∧ Fr [34, 35, 36, 37] [33] um um' := fun e => by
          rw [e, if_pos rfl]; exact yes
        have n2 : betr w h g bw bb bu = false → ∃ um', f_X9_lookAtRound_178 N w h g um = some um' ∧ RAm N um' (if betr w h g bw bb bu = true then some (w, h, g, m) else some (bw, bb, bu, bm)) ∧ Fr [34, 35, 36, 37] [33] um um' := fun e => by
          rw [e, if_neg (by decide)]; exact no
        rw [a1, if_neg hN, a2, a3, a4]
        have nle : ∀ x y : Int32, x < y → ¬ y ≤ x ∧ ¬ y = x := fun x y hxy => ⟨Int32.not_le.mpr hxy, fun e => by subst e; exact Int32.lt_irrefl hxy⟩
        have le' : ∀ x y : Int32, ¬ x < y → y ≤ x := fun x y hxy => Int32.not_lt.mp hxy
        by_cases c1 : bw < w
        · rw [if_pos c1]; exact y2 (by simp [betr, (nle _ _ c1).1, (nle _ _ c1).2])
        · rw [if_neg c1]
          by_cases c2 : w = bw
          · rw [if_pos c2]
            by_cases c3 : h < bb
            · rw [if_pos c3]
              have e1 : ¬ h = bb := fun e => (nle _ _ c3).2 e.symm
              exact y2 (by simp [betr, c2, e1, (nle _ _ c3).1])
            · rw [if_neg c3]
              by_cases c4 : h = bb
              · rw [if_pos c4]
                by_cases c5 : bu ≤ g
                · rw [if_pos c5]; exact n2 (by simp [betr, c2, c4, c5])
                · rw [if_neg c5]; exact y2 (by simp [betr, c2, c4, c5])
              · rw [if_neg c4]; exact n2 (by simp [betr, c2, c4, le' _ _ c3])
          · rw [if_neg c2]; exact n2 (by simp [betr, c2, le' _ _ c1])
    | succ q ih =>
      intro i fuel hi hf
      obtain ⟨f, rfl⟩ : ∃ f, fuel = f + 1 := ⟨fuel - 1, by omega⟩
      have ok : okI (nI i) 8 := okN (by omega) (by decide)
      have step := ih (i + 1) f (by omega) (by omega)
      rw [sI, sI, sI] at step
      rw [f_X9_lookAtRound_10, if_neg (show ¬ (8 : Int32) ≤ nI i from nI_ge (b := 8) (by omega) (by decide)), ld_ok ok, nI_cl (by omega), hm i (by omega)]
      rcases hv i (by omega) with e | ⟨o, ho, e⟩
      · rw [if_pos e, f_X9_lookAtRound_119, nm, nI_1]
        simpa [fW, fH, fG, e] using step
      · have ne : ¬ nI o = -1 := nI_inj_m1 (by omega)
        have eW : fW wa m i = wa i := by simp [fW, e, ne]
        rw [eW] at step
        rw [e, if_neg ne, h28, ld_ok ok, nm, ld_ok ok, nI_cl (by omega), hm i (by omega), e]
        by_cases c : o ≤ i
        · have c' : nI o ≤ nI i := nI_le c (by omega)
          have eH : fH ga m i = 0 := by simp [fH, e, ne, c']
          have eG : fG gr m i = 0 := by simp [fG, e, ne, c']
          rw [eH, eG] at step
          rw [if_pos c', f_X9_lookAtRound_73, nm, ld_ok ok, nI_cl (by omega), hm i (by omega), e, if_pos c', f_X9_lookAtRound_116, nm, f_X9_lookAtRound_119, nm, nI_1]
          exact step
        · have c' : ¬ nI o ≤ nI i := nI_ge (by omega) (by omega)
          have oko : okI (nI o) 8 := okN ho (by decide)
          have eH : fH ga m i = ga (i * 8 + o) := by simp [fH, e, ne, c', nI_cl (show o < 2 ^ 31 by omega)]
          have eG : fG gr m i = ab (gr i - gr o) := by simp [fG, e, ne, c', nI_cl (show o < 2 ^ 31 by omega)]
          rw [eH, eG] at step
          rw [if_neg c', ld_ok ok, nI_cl (by omega), hm i (by omega), e, show (8 : Int32) = nI 8 from rfl, nI_mul, nI_add, Nat.mul_comm 8 i, h29, ld_ok (okN (show i * 8 + o < 64 by omega) (by decide)), f_X9_lookAtRound_73, nm, ld_ok ok, nI_cl (by omega), nI_cl (by omega), hm i (by omega), e, if_neg c', h27, ld_ok ok, ld_ok ok, nI_cl (by omega), hm i (by omega), e, ld_ok oko, nI_cl (by omega), size9, bd_s, f_X9_lookAtRound_116, nm, f_X9_lookAtRound_119, nm, nI_1]
          exact step
  rw [f_X9_lookAtRound]
  have := loop 8 0 FU (by omega) (by unfold FU; omega)
  rw [sI, sI, sI, nI_0] at this
  exact this
section R9
variable {K : Int32 → Int32 → Int32 → St → Option St} {n g was : Int32} {p : Nat} {um : St}
theorem b226_back (hp : p < 8) {l6 : Int32} (h : was = 9 ∨ (¬ was = 9 ∧ ¬ was = -1 ∧ ¬ l6 ≤ 8)) : f_X9_findRound_226 K n g (nI p) was l6 um = K n g (nI p - 1) (st_r um 31 (upd (um.2.1 31) p (-1))) := by
  have e : f_X9_findRound_246 K n g (nI p) l6 um = K n g (nI p - 1) (st_r um 31 (upd (um.2.1 31) p (-1))) := by
    rw [f_X9_findRound_246, f_X9_findRound_251, if_neg zne1, f_X9_findRound_269, sti_ok (okN hp (by decide)), if_neg zne1, f_X9_findRound_304, if_neg zne1, f_X9_findRound_315, nm, nI_cl (by omega)]
  rw [f_X9_findRound_226]
  rcases h with h | ⟨h1, h2, h3⟩
  · rw [if_pos h, e]
  · rw [if_neg h1, if_neg h3, if_neg h2, e]
theorem b226_none (hp : p < 8) (h9 : ¬ was = 9) {l6 : Int32} (h : l6 = 8 ∨ (l6 = 9 ∧ was = -1)) : f_X9_findRound_226 K n g (nI p) was l6 um = K n g (nI (p + 1)) (st_r um 31 (upd (um.2.1 31) p l6)) := by
  have h8 : (8 : Int32) ≤ l6 := by
    rcases h with h | h
    · rw [h]; decide
    · rw [h.1]; decide
  have e : f_X9_findRound_250 K n g (nI p) l6 um = K n g (nI (p + 1)) (st_r um 31 (upd (um.2.1 31) p l6)) := by
    rw [f_X9_findRound_250, f_X9_findRound_251, if_pos rfl, f_X9_findRound_269, sti_ok (okN hp (by decide)), if_pos rfl, if_pos h8, f_X9_findRound_301, nm, f_X9_findRound_304, if_pos rfl, f_X9_findRound_315, nm, nI_1, Int32.sub_zero, nI_cl (by omega)]
  rw [f_X9_findRound_226, if_neg h9]
  rcases h with h | ⟨h, h2⟩
  · rw [if_pos (by rw [h]; decide), e]
  · rw [if_neg (by rw [h]; decide), if_pos h2, e]
theorem b226_pair (hp : p < 8) (h9 : ¬ was = 9) {o : Nat} (ho : o < 8) : f_X9_findRound_226 K n g (nI p) was (nI o) um = K n (g + 1) (nI (p + 1)) (st_r (st_r (st_r um 31 (upd (um.2.1 31) p (nI o))) 32 (upd (um.2.1 32) p (nI o))) 32 (upd (upd (um.2.1 32) p (nI o)) o (nI p))) := by
  rw [f_X9_findRound_226, if_neg h9, if_pos (show nI o ≤ 8 from nI_le (b := 8) (by omega) (by decide)), f_X9_findRound_250, f_X9_findRound_251, if_pos rfl, f_X9_findRound_269, sti_ok (okN hp (by decide)), if_pos rfl, if_neg (show ¬ (8 : Int32) ≤ nI o from nI_ge (b := 8) ho (by decide)), sti_ok (okN hp (by decide)), sti_ok (okN ho (by decide)), nm, f_X9_findRound_301, nm, f_X9_findRound_304, if_pos rfl, f_X9_findRound_315, nm, nI_1, Int32.sub_zero, nI_cl (by omega), nI_cl (by omega)]
  have e1 : (st_r um 31 (upd (um.2.1 31) p (nI o))).2.1 32 = um.2.1 32 := by simp [st_r, va_up]
  have e2 : (st_r (st_r um 31 (upd (um.2.1 31) p (nI o))) 32 (upd (um.2.1 32) p (nI o))).2.1 32 = upd (um.2.1 32) p (nI o) := by simp [st_r, va_up]
  rw [e1, e2]
end R9
def TT : Nat → Nat
  | 0 => 1
  | d + 1 => (d + 1) * (TT d + 1) + 1
theorem TT_pos (d : Nat) : 1 ≤ TT d := by cases d <;> simp [TT]
theorem vld_pr {m : Nat → Int32} (h : vld m) {p o : Nat} (hp : p < 8) (ho : o < 8) : vld (pr m p o) := by
  intro j hj
  by_cases e1 : j = o
  · subst e1; exact Or.inr ⟨p, hp, pr_at2 m p j⟩
  · by_cases e2 : j = p
    · subst e2; exact Or.inr ⟨o, ho, by simp [pr, upd, e1]⟩
    · rw [pr_ne m e2 e1]; exact h j hj
theorem RAm_fr {N : Int32} {um um' : St} {a : Acc} (h : RAm N um a) (hf : Fr [] [31, 32] um um') : RAm N um' a := by
  cases a with
  | none => show um'.1 34 = -1; rw [hf.1 34 (by simp)]; exact h
  | some q =>
    obtain ⟨w, x, y, b⟩ := q
    obtain ⟨a1, a2, a3, a4, a5⟩ := h
    exact ⟨by rw [hf.1 34 (by simp)]; exact a1, by rw [hf.1 35 (by simp)]; exact a2, by rw [hf.1 36 (by simp)]; exact a3, by rw [hf.1 37 (by simp)]; exact a4, fun j hj => by rw [hf.2 33 (by simp)]; exact a5 j hj⟩
