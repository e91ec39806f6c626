abbrev F9 (um um' : St) : Prop := Fr [34, 35, 36, 37] [31, 32, 33] um um'
theorem F9.o (um : St) (f : Nat → Int32) : F9 um (st_r um 31 f) := (Fr.r um 31 f).mono (by simp) (by simp)
theorem F9.m (um : St) (f : Nat → Int32) : F9 um (st_r um 32 f) := (Fr.r um 32 f).mono (by simp) (by simp)
theorem at31 (um : St) (f : Nat → Int32) : (st_r um 31 f).2.1 31 = f := by simp [st_r, va_up]
theorem at31_32 (um : St) (f : Nat → Int32) : (st_r um 31 f).2.1 32 = um.2.1 32 := by simp [st_r, va_up]
theorem at32 (um : St) (f : Nat → Int32) : (st_r um 32 f).2.1 32 = f := by simp [st_r, va_up]
theorem at32_31 (um : St) (f : Nat → Int32) : (st_r um 32 f).2.1 31 = um.2.1 31 := by simp [st_r, va_up]
theorem in9_no {v : Int32} (h : ¬ (0 ≤ v ∧ v ≤ 7)) : f_X9_in v 0 7 = some 0 := by
  rcases gd v 0 7 with ⟨a, b, -, -⟩ | ⟨-, -, e⟩
  · exact absurd ⟨a, b⟩ h
  · exact e
theorem in9_yes {o : Nat} (h : o < 8) : f_X9_in (nI o) 0 7 = some 1 := by
  rcases gd (nI o) 0 7 with ⟨-, -, -, e⟩ | ⟨hn, -, -⟩
  · exact e
  · exact absurd ⟨nI_pos' (by omega), nI_le (b := 7) (by omega) (by decide)⟩ hn
theorem vis_head {n g : Int32} {p fuel : Nat} {um : St} (hp : p < 8) : f_X9_findRound_65 (fuel + 1) n g (nI p) um = f_X9_findRound_80 (f_X9_findRound_65 fuel) n g (nI p) 0 um := by
  rw [f_X9_findRound_65, if_neg (nI_pos (by omega)), if_neg (fun e => by
    have : p = 8 := (nI_eq (by omega) (by decide)).mp (show nI p = nI 8 from e)
    omega)]
theorem vis_back {n g : Int32} {p fuel : Nat} {um : St} (hp : p < 8) (ho : um.2.1 31 p = 8 ∨ um.2.1 31 p = 9) : f_X9_findRound_65 (fuel + 1) n g (nI p) um = f_X9_findRound_65 fuel n g (nI p - 1) (st_r um 31 (upd (um.2.1 31) p (-1))) := by
  obtain ⟨f0, hf0⟩ := FU_add 1 (by decide)
  rw [vis_head hp, f_X9_findRound_80, if_pos rfl, ld_ok (okN hp (by decide)), nI_cl (by omega)]
  rcases ho with e | e
  · rw [e, if_neg (by decide), f_X9_findRound_131, in9_no (by decide), bd_s, if_pos rfl, f_X9_findRound_160, if_neg (by decide), f_X9_findRound_176, hf0, f_X9_findRound_178, if_pos (by decide), b226_back hp (Or.inr ⟨by decide, by decide, by decide⟩)]
  · rw [e, if_neg (by decide), f_X9_findRound_131, in9_no (by decide), bd_s, if_pos rfl, f_X9_findRound_160, if_neg (by decide), f_X9_findRound_176, hf0, f_X9_findRound_178, if_pos (by decide), b226_back hp (Or.inl rfl)]
theorem vis_again {n g : Int32} {p o fuel : Nat} {um : St} (hp : p < 8) (ho8 : o < 8) (ho : um.2.1 31 p = nI o) : f_X9_findRound_65 (fuel + 1) n g (nI p) um = f_X9_findRound_178 (f_X9_findRound_65 fuel) FU n (g + -1) (nI p) (nI o) (nI (o + 1)) (st_r (st_r um 32 (upd (um.2.1 32) p (-1))) 32 (upd (upd (um.2.1 32) p (-1)) o (-1))) := by
  rw [vis_head hp, f_X9_findRound_80, if_pos rfl, ld_ok (okN hp (by decide)), nI_cl (by omega), ho, if_neg (nI_inj_m1 (by omega)), f_X9_findRound_131, in9_yes ho8, bd_s, if_neg zne1, sti_ok (okN hp (by decide)), sti_ok (okN ho8 (by decide)), nm, f_X9_findRound_160, if_neg (nI_inj_m1 (by omega)), f_X9_findRound_176, nI_1, nI_cl (by omega), nI_cl (by omega), at32]
def Xk (th wa ga gr : Nat → Int32) (d l : Nat) (m : Nat → Int32) (p k : Nat) (b : Acc) : Acc := if ¬ l = 0 ∧ ¬ th p = 0 then lpE (ev th wa ga gr d (l - 1)) th m p k b else b
theorem ev_X {th wa ga gr : Nat → Int32} {d l : Nat} {m : Nat → Int32} {a : Acc} (hm : m (7 - d) = -1) : ev th wa ga gr (d + 1) l m a = ev th wa ga gr d l m (Xk th wa ga gr d l m (7 - d) d a) := by
  cases l with
  | zero => rw [ev_0, ev_0]; rfl
  | succ l =>
    rw [ev]
    congr 1
    unfold Xk frE
    by_cases c : th (7 - d) = 0
    · simp [c]
    · simp [c, hm]
theorem ev_skip {th wa ga gr : Nat → Int32} {d l : Nat} {m : Nat → Int32} {a : Acc} (hm : ¬ m (7 - d) = -1) : ev th wa ga gr (d + 1) l m a = ev th wa ga gr d l m a := by
  cases l with
  | zero => rw [ev_0, ev_0]
  | succ l =>
    rw [ev]
    congr 1
    simp [frE, hm]
theorem TT_1 (d : Nat) : TT d + 2 ≤ TT (d + 1) := by
  rw [TT]
  have : TT d + 1 ≤ (d + 1) * (TT d + 1) := Nat.le_mul_of_pos_left _ (Nat.succ_pos d)
  omega
theorem search9 {needs : Nat} (hn4 : needs ≤ 4) (th wa ga gr : Nat → Int32) : ∀ (d l : Nat) (m : Nat → Int32) (a : Acc) (um : St), d ≤ 8 → l ≤ needs → um.2.1 26 = th → um.2.1 27 = gr → um.2.1 28 = wa → um.2.1 29 = ga → (∀ j, j < 8 → um.2.1 32 j = m j) → (∀ j, 8 - d ≤ j → j < 8 → um.2.1 31 j = -1) → vld m → RAm (nI needs) um a →
    ∃ (c : Nat) (um' : St), c ≤ TT d ∧ (∀ fuel, f_X9_findRound_65 (fuel + c) (nI needs) (nI (needs - l)) (nI (8 - d)) um = f_X9_findRound_65 fuel (nI needs) (nI (needs - l)) (nI (8 - d) - 1) um') ∧ RAm (nI needs) um' (ev th wa ga gr d l m a) ∧ (∀ j, j < 8 → um'.2.1 32 j = m j) ∧ (∀ j, j < 8 → um'.2.1 31 j = um.2.1 31 j) ∧ F9 um um' := by
  intro d
  induction d with
  | zero =>
    intro l m a um hd hl h26 h27 h28 h29 hm ho hv ha
    have hN : ¬ nI needs = -1 := nI_inj_m1 (by omega)
    have head : ∀ fuel, f_X9_findRound_65 (fuel + 1) (nI needs) (nI (needs - l)) (nI (8 - 0)) um = f_X9_findRound_80 (f_X9_findRound_65 fuel) (nI needs) (nI (needs - l)) (nI 8) 1 um := by
      intro fuel
      rw [f_X9_findRound_65, if_neg (by decide), if_pos (by decide)]
    by_cases l0 : l = 0
    · subst l0
      obtain ⟨um', k1, k2, k3⟩ := look9 (wa := wa) (ga := ga) (gr := gr) hN h27 h28 h29 hm hv ha
      refine ⟨1, um', Nat.le_refl _, fun fuel => ?_, k2, fun j hj => by rw [k3.2 32 (by simp)]; exact hm j hj, fun j hj => by rw [k3.2 31 (by simp)], k3.mono (by simp) (by simp)⟩
      rw [head, f_X9_findRound_80, if_neg zne1, Nat.sub_zero, if_pos rfl, k1, bd_s, f_X9_findRound_304, if_neg zne1, f_X9_findRound_315, nm]
    · refine ⟨1, um, Nat.le_refl _, fun fuel => ?_, ?_, hm, fun j hj => rfl, (Fr.refl um).mono (by simp) (by simp)⟩
      · rw [head, f_X9_findRound_80, if_neg zne1, if_neg (fun e => by
          have := (nI_eq (by omega) (by omega)).mp e
          omega), f_X9_findRound_304, if_neg zne1, f_X9_findRound_315, nm]
      · cases l with
        | zero => exact absurd rfl l0
        | succ l => exact ha
  | succ d ih =>
    intro l m a um hd hl h26 h27 h28 h29 hm ho hv ha
    have hp : 7 - d < 8 := by omega
    have hp1 : 8 - (d + 1) = 7 - d := by omega
    have hp2 : 7 - d + 1 = 8 - d := by omega
    have hpm : nI (8 - d) - 1 = nI (7 - d) := by rw [← hp2]; exact nI_pred _
    have okp : okI (nI (7 - d)) 8 := okN hp (by decide)
    have o31 : um.2.1 31 (7 - d) = -1 := ho (7 - d) (by omega) hp
    rw [hp1]
    -- one place further, and back
    have deeper : ∀ (v : St) (b : Acc) (x : Int32), (x = 8 ∨ x = 9) → F9 um v → (∀ j, j < 8 → v.2.1 32 j = m j) → (∀ j, j < 8 → j ≠ 7 - d → v.2.1 31 j = um.2.1 31 j) → RAm (nI needs) v b →
        ∃ (c : Nat) (v' : St), c ≤ TT d + 1 ∧ (∀ fuel, f_X9_findRound_65 (fuel + c) (nI needs) (nI (needs - l)) (nI (7 - d + 1)) (st_r v 31 (upd (v.2.1 31) (7 - d) x)) = f_X9_findRound_65 fuel (nI needs) (nI (needs - l)) (nI (7 - d) - 1) v') ∧ RAm (nI needs) v' (ev th wa ga gr d l m b) ∧ (∀ j, j < 8 → v'.2.1 32 j = m j) ∧ (∀ j, j < 8 → v'.2.1 31 j = um.2.1 31 j) ∧ F9 um v' := by
      intro v b x hx hf hvm hvo hvb
      have fv : F9 um (st_r v 31 (upd (v.2.1 31) (7 - d) x)) := hf.trans (F9.o v _)
      obtain ⟨c1, w, q1, q2, q3, q4, q5, q6⟩ := ih l m b (st_r v 31 (upd (v.2.1 31) (7 - d) x)) (by omega) hl (by rw [fv.2 26 (by simp), h26]) (by rw [fv.2 27 (by simp), h27]) (by rw [fv.2 28 (by simp), h28]) (by rw [fv.2 29 (by simp), h29]) (fun j hj => by rw [at31_32]; exact hvm j hj) (fun j h1 h2 => by
        rw [at31]
        have e : j ≠ 7 - d := by omega
        rw [upd_ne _ _ e, hvo j h2 e]
        exact ho j (by omega) h2) hv (RAm_fr hvb ((Fr.r v 31 _).mono (by simp) (by simp)))
      have w31 : w.2.1 31 (7 - d) = x := by rw [q5 (7 - d) hp, at31, upd_eq]
      refine ⟨c1 + 1, st_r w 31 (upd (w.2.1 31) (7 - d) (-1)), by omega, fun fuel => ?_, RAm_fr q3 ((Fr.r w 31 _).mono (by simp) (by simp)), fun j hj => by rw [at31_32]; exact q4 j hj, fun j hj => ?_, (fv.trans q6).trans (F9.o w _)⟩
      · rw [show fuel + (c1 + 1) = (fuel + 1) + c1 by omega, hp2, q2 (fuel + 1), hpm, vis_back hp (by rw [w31]; exact hx)]
      · rw [at31]
        by_cases e : j = 7 - d
        · subst e; rw [upd_eq, o31]
        · rw [upd_ne _ _ e, q5 j hj, at31, upd_ne _ _ e, hvo j hj e]
    by_cases mp : m (7 - d) = -1
    · -- the options one after another
      have opts : ∀ (k fw : Nat) (was : Int32) (v : St) (b : Acc), k ≤ d → k < fw → ¬ was = 9 → F9 um v → (∀ j, j < 8 → v.2.1 32 j = m j) → (∀ j, j < 8 → j ≠ 7 - d → v.2.1 31 j = um.2.1 31 j) → RAm (nI needs) v b →
          ∃ (c : Nat) (v' : St), c ≤ (k + 1) * (TT d + 1) ∧ (∀ fuel, f_X9_findRound_178 (f_X9_findRound_65 (fuel + c)) fw (nI needs) (nI (needs - l)) (nI (7 - d)) was (nI (8 - k)) v = f_X9_findRound_65 fuel (nI needs) (nI (needs - l)) (nI (7 - d) - 1) v') ∧ RAm (nI needs) v' (ev th wa ga gr d l m (Xk th wa ga gr d l m (7 - d) k b)) ∧ (∀ j, j < 8 → v'.2.1 32 j = m j) ∧ (∀ j, j < 8 → v'.2.1 31 j = um.2.1 31 j) ∧ F9 um v' := by
        intro k
        induction k with
        | zero =>
          intro fw was v b hk hfw hwas hf hvm hvo hvb
          obtain ⟨fw, rfl⟩ : ∃ f, fw = f + 1 := ⟨fw - 1, by omega⟩
          obtain ⟨c, v', q1, q2, q3, q4, q5, q6⟩ := deeper v b 8 (Or.inl rfl) hf hvm hvo hvb
          refine ⟨c, v', by omega, fun fuel => ?_, ?_, q4, q5, q6⟩
          · rw [f_X9_findRound_178, if_pos (by decide), show nI (8 - 0) = 8 from rfl, b226_none hp hwas (Or.inl rfl)]
            exact q2 fuel
          · have e : Xk th wa ga gr d l m (7 - d) 0 b = b := by unfold Xk; split <;> rfl
            rw [e]; exact q3
        | succ k ihk =>
          intro fw was v b hk hfw hwas hf hvm hvo hvb
          obtain ⟨fw, rfl⟩ : ∃ f, fw = f + 1 := ⟨fw - 1, by omega⟩
          have ho8 : 7 - k < 8 := by omega
          have oko : okI (nI (7 - k)) 8 := okN ho8 (by decide)
          have hpo : 7 - d < 7 - k := by omega
          have e26 : v.2.1 26 = th := by rw [hf.2 26 (by simp), h26]
          rw [show 8 - (k + 1) = 7 - k by omega]
          have big : (k + 1) * (TT d + 1) ≤ (k + 1 + 1) * (TT d + 1) := Nat.mul_le_mul_right _ (by omega)
          have skip : Xk th wa ga gr d l m (7 - d) (k + 1) b = Xk th wa ga gr d l m (7 - d) k b → ∃ (c : Nat) (v' : St), c ≤ (k + 1 + 1) * (TT d + 1) ∧ (∀ fuel, f_X9_findRound_220 (f_X9_findRound_65 (fuel + c)) (f_X9_findRound_178 (f_X9_findRound_65 (fuel + c)) fw) (nI needs) (nI (needs - l)) (nI (7 - d)) was (nI (7 - k)) v = f_X9_findRound_65 fuel (nI needs) (nI (needs - l)) (nI (7 - d) - 1) v') ∧ RAm (nI needs) v' (ev th wa ga gr d l m (Xk th wa ga gr d l m (7 - d) (k + 1) b)) ∧ (∀ j, j < 8 → v'.2.1 32 j = m j) ∧ (∀ j, j < 8 → v'.2.1 31 j = um.2.1 31 j) ∧ F9 um v' := by
            intro hX
            obtain ⟨c, v', q1, q2, q3, q4, q5, q6⟩ := ihk fw was v b (by omega) (by omega) hwas hf hvm hvo hvb
            refine ⟨c, v', by omega, fun fuel => ?_, by rw [hX]; exact q3, q4, q5, q6⟩
            rw [f_X9_findRound_220, nm, nI_1, show 7 - k + 1 = 8 - k by omega]
            exact q2 fuel
          have h178 : ∀ K, f_X9_findRound_178 K (fw + 1) (nI needs) (nI (needs - l)) (nI (7 - d)) was (nI (7 - k)) v = (if th (7 - d) = 0 then f_X9_findRound_220 K (f_X9_findRound_178 K fw) (nI needs) (nI (needs - l)) (nI (7 - d)) was (nI (7 - k)) v else if th (7 - k) = 0 then f_X9_findRound_220 K (f_X9_findRound_178 K fw) (nI needs) (nI (needs - l)) (nI (7 - d)) was (nI (7 - k)) v else if m (7 - k) = -1 then (if nI (needs - l) = nI needs then f_X9_findRound_220 K (f_X9_findRound_178 K fw) (nI needs) (nI (needs - l)) (nI (7 - d)) was (nI (7 - k)) v else f_X9_findRound_226 K (nI needs) (nI (needs - l)) (nI (7 - d)) was (nI (7 - k)) v) else f_X9_findRound_220 K (f_X9_findRound_178 K fw) (nI needs) (nI (needs - l)) (nI (7 - d)) was (nI (7 - k)) v) := by
            intro K
            rw [f_X9_findRound_178, if_neg (show ¬ (8 : Int32) ≤ nI (7 - k) from nI_ge (b := 8) ho8 (by decide)), ld_ok okp, e26, nI_cl (by omega), ld_ok oko, ld_ok oko, nI_cl (by omega), hvm (7 - k) ho8]
          by_cases c1 : th (7 - d) = 0
          · obtain ⟨c, v', q⟩ := skip (by simp [Xk, c1])
            refine ⟨c, v', q.1, fun fuel => ?_, q.2.2⟩
            rw [h178, if_pos c1]; exact q.2.1 fuel
          · by_cases c2 : th (7 - k) = 0
            · obtain ⟨c, v', q⟩ := skip (by unfold Xk; rw [lpE]; simp [frE, c2])
              refine ⟨c, v', q.1, fun fuel => ?_, q.2.2⟩
              rw [h178, if_neg c1, if_pos c2]; exact q.2.1 fuel
            · by_cases c3 : m (7 - k) = -1
              · by_cases c4 : l = 0
                · obtain ⟨c, v', q⟩ := skip (by simp [Xk, c4])
                  refine ⟨c, v', q.1, fun fuel => ?_, q.2.2⟩
                  rw [h178, if_neg c1, if_neg c2, if_pos c3, if_pos (by rw [c4, Nat.sub_zero])]; exact q.2.1 fuel
                · have hg : ¬ nI (needs - l) = nI needs := fun e => by
                    have := (nI_eq (by omega) (by omega)).mp e
                    omega
                  have fr_o : frE th m (7 - k) = true := by simp [frE, c2, c3]
                  have hg1 : nI (needs - l) + 1 = nI (needs - (l - 1)) := by rw [nI_1]; congr 1; omega
                  -- the pair is made
                  generalize hv1 : st_r (st_r (st_r v 31 (upd (v.2.1 31) (7 - d) (nI (7 - k)))) 32 (upd (v.2.1 32) (7 - d) (nI (7 - k)))) 32 (upd (upd (v.2.1 32) (7 - d) (nI (7 - k))) (7 - k) (nI (7 - d))) = v1
                  have f1 : F9 v v1 := by rw [← hv1]; exact ((F9.o v _).trans (F9.m _ _)).trans (F9.m _ _)
                  have f1b : Fr [] [31, 32] v v1 := by
                    rw [← hv1]; exact (((Fr.r v 31 _).mono (by simp) (by simp)).trans ((Fr.r _ 32 _).mono (by simp) (by simp))).trans ((Fr.r _ 32 _).mono (by simp) (by simp))
                  have v1m : ∀ j, j < 8 → v1.2.1 32 j = pr m (7 - d) (7 - k) j := by
                    intro j hj
                    rw [← hv1, at32]
                    simp [pr, upd, hvm j hj]
                  have v1o : v1.2.1 31 = upd (v.2.1 31) (7 - d) (nI (7 - k)) := by rw [← hv1, at32_31, at32_31, at31]
                  have g1 := hf.trans f1
                  obtain ⟨c1', w, q1, q2, q3, q4, q5, q6⟩ := ih (l - 1) (pr m (7 - d) (7 - k)) b v1 (by omega) (by omega) (by rw [g1.2 26 (by simp), h26]) (by rw [g1.2 27 (by simp), h27]) (by rw [g1.2 28 (by simp), h28]) (by rw [g1.2 29 (by simp), h29]) v1m (fun j h1 h2 => by
                    have e : j ≠ 7 - d := by omega
                    rw [v1o, upd_ne _ _ e, hvo j h2 e]
                    exact ho j (by omega) h2) (vld_pr hv hp ho8) (RAm_fr hvb f1b)
                  have w31 : w.2.1 31 (7 - d) = nI (7 - k) := by rw [q5 (7 - d) hp, v1o, upd_eq]
                  generalize hw2 : st_r (st_r w 32 (upd (w.2.1 32) (7 - d) (-1))) 32 (upd (upd (w.2.1 32) (7 - d) (-1)) (7 - k) (-1)) = w2
                  have f2 : F9 w w2 := by rw [← hw2]; exact (F9.m w _).trans (F9.m _ _)
                  have f2b : Fr [] [31, 32] w w2 := by
                    rw [← hw2]; exact ((Fr.r w 32 _).mono (by simp) (by simp)).trans ((Fr.r _ 32 _).mono (by simp) (by simp))
                  have w2m : ∀ j, j < 8 → w2.2.1 32 j = m j := by
                    intro j hj
                    rw [← hw2, at32]
                    by_cases e1 : j = 7 - k
                    · subst e1; rw [upd_eq, c3]
                    · by_cases e2 : j = 7 - d
                      · subst e2; rw [upd_ne _ _ e1, upd_eq, mp]
                      · rw [upd_ne _ _ e1, upd_ne _ _ e2, q4 j hj, pr_ne m e2 e1]
                  have w2o : ∀ j, j < 8 → j ≠ 7 - d → w2.2.1 31 j = um.2.1 31 j := by
                    intro j hj e
                    rw [← hw2, at32_31, at32_31, q5 j hj, v1o, upd_ne _ _ e, hvo j hj e]
                  obtain ⟨c2', v', r1, r2, r3, r4, r5, r6⟩ := ihk FU (nI (7 - k)) w2 (ev th wa ga gr d (l - 1) (pr m (7 - d) (7 - k)) b) (by omega) (by unfold FU; omega) (fun e => by
                    have := (nI_eq (by omega) (by decide)).mp (show nI (7 - k) = nI 9 from e)
                    omega) ((g1.trans q6).trans f2) w2m w2o (RAm_fr q3 f2b)
                  refine ⟨c2' + 1 + c1', v', ?_, fun fuel => ?_, ?_, r4, r5, r6⟩
                  · have : (k + 1 + 1) * (TT d + 1) = (k + 1) * (TT d + 1) + (TT d + 1) := by rw [Nat.add_mul (k + 1) 1, Nat.one_mul]
                    omega
                  · rw [h178, if_neg c1, if_neg c2, if_pos c3, if_neg hg, b226_pair hp hwas ho8, hv1, hg1, show fuel + (c2' + 1 + c1') = fuel + c2' + 1 + c1' by omega, hp2, q2 (fuel + c2' + 1), hpm, vis_again hp ho8 w31, hw2, ← hg1]
                    have e9 : nI (needs - l) + 1 + -1 = nI (needs - l) := by rw [← Int32.sub_eq_add_neg]; exact Int32.add_sub_cancel _ _
                    rw [e9, show 7 - k + 1 = 8 - k by omega]
                    exact r2 fuel
                  · have eX : Xk th wa ga gr d l m (7 - d) (k + 1) b = Xk th wa ga gr d l m (7 - d) k (ev th wa ga gr d (l - 1) (pr m (7 - d) (7 - k)) b) := by
                      unfold Xk
                      rw [if_pos ⟨c4, c1⟩, if_pos ⟨c4, c1⟩, lpE, fr_o, if_pos rfl]
                    rw [eX]; exact r3
              · obtain ⟨c, v', q⟩ := skip (by unfold Xk; rw [lpE]; simp [frE, c3])
                refine ⟨c, v', q.1, fun fuel => ?_, q.2.2⟩
                rw [h178, if_neg c1, if_neg c2, if_neg c3]; exact q.2.1 fuel
      obtain ⟨c, v', q1, q2, q3, q4, q5, q6⟩ := opts d FU (-1) um a (Nat.le_refl _) (by unfold FU; omega) (by decide) ((Fr.refl um).mono (by simp) (by simp)) hm (fun j _ _ => rfl) ha
      refine ⟨c + 1, v', by rw [TT]; omega, fun fuel => ?_, by rw [ev_X mp]; exact q3, q4, q5, q6⟩
      rw [show fuel + (c + 1) = fuel + c + 1 by omega, vis_head hp, f_X9_findRound_80, if_pos rfl, ld_ok okp, nI_cl (by omega), o31, if_pos rfl, ld_ok okp, nI_cl (by omega), hm (7 - d) hp, if_pos mp, f_X9_findRound_131, in9_no (by decide), bd_s, if_pos rfl, f_X9_findRound_160, if_pos rfl, f_X9_findRound_176, nI_1, hp2]
      exact q2 fuel
    · obtain ⟨c, v', q1, q2, q3, q4, q5, q6⟩ := deeper um a 9 (Or.inr rfl) ((Fr.refl um).mono (by simp) (by simp)) hm (fun j _ _ => rfl) ha
      have ht := TT_1 d
      refine ⟨c + 1, v', by omega, fun fuel => ?_, by rw [ev_skip mp]; exact q3, q4, q5, q6⟩
      rw [show fuel + (c + 1) = fuel + c + 1 by omega, vis_head hp, f_X9_findRound_80, if_pos rfl, ld_ok okp, nI_cl (by omega), o31, if_pos rfl, ld_ok okp, nI_cl (by omega), hm (7 - d) hp, if_neg mp, b226_none hp (by decide) (Or.inr ⟨rfl, rfl⟩)]
      exact q2 fuel
