section SD
variable {sp dr me : Nat → Nat} {b A p st rc : Nat}
def lsV (sp dr me : Nat → Nat) (b A st rc c : Nat) : Int32 := lst (slS sp dr me b A st rc c) (bS (slS sp dr me b A st rc c) (ntS sp dr me b A) 64 0 none)
theorem lsV_rng (hok : ∀ k, k < 4 → okF (sp k) (dr k) (me k) b) (hA : A < 16) (hst : st ≤ 20) (hrc : rc ≤ 2) {c : Nat} (hc : c < 16) : lsV sp dr me b A st rc c = -100 ∨ -3 ≤ (lsV sp dr me b A st rc c).toInt := by
  unfold lsV
  have hg := bS_good (slS sp dr me b A st rc c) (ntS sp dr me b A) 64 0 none (fun j hj => by cases hj)
  cases ho : bS (slS sp dr me b A st rc c) (ntS sp dr me b A) 64 0 none with
  | none => exact Or.inl rfl
  | some j =>
    obtain ⟨a, nj⟩ := hg j ho
    exact Or.inr (sl_ne hok hA hst hrc hc (by omega) nj)
theorem stand_loop (hok : ∀ k, k < 4 → okF (sp k) (dr k) (me k) b) (hA : A < 16) {ua us um0 : St} (hp : RAp sp dr me b ua) (hk : kn sp dr me b A ua) (hs : RS us um0) (h0 : ∀ k, k < 4 → um0.2.1 0 k = nI (sp k) ∧ um0.2.1 1 k = nI (dr k) ∧ um0.2.1 2 k = nI (me k)) (hb : um0.1 3 = nI b) (h3 : us.2.1 3 p = nI st) (h1 : us.2.1 1 p = nI rc) (hp8 : p < 8) (hst : st ≤ 20) (hrc : rc ≤ 2) (w : Int32) :
    ∀ (q i f1 f2 : Nat) (best most : Int32) (um : St), i + q = 16 → q < f1 → q < f2 → Fr [8] [7] um0 um → ((best = -1 ∧ most = -100) ∨ ∃ j, j < 16 ∧ best = nI j ∧ most = lsV sp dr me b A st rc j ∧ -3 ≤ most.toInt) →
    ∃ bo mo um', f_X3_bestStand_9 ua us f1 (nI p) (nI A) best most (nI i) = some bo ∧ f_X9_stand_39 f2 (nI p) (nI A) w best most (nI i) um = some ((if w = 0 then bo else mo), um') ∧ Fr [8] [7] um0 um' ∧ ((bo = -1 ∧ mo = -100) ∨ ∃ j, j < 16 ∧ bo = nI j ∧ mo = lsV sp dr me b A st rc j) := by
  intro q
  induction q with
  | zero =>
    intro i f1 f2 best most um hi hf1 hf2 hv hi2
    obtain ⟨f1, rfl⟩ : ∃ f, f1 = f + 1 := ⟨f1 - 1, by omega⟩
    obtain ⟨f2, rfl⟩ : ∃ f, f2 = f + 1 := ⟨f2 - 1, by omega⟩
    have : i = 16 := by omega
    subst this
    rw [f_X3_bestStand_9, f_X9_stand_39, if_pos (by decide), if_pos (by decide)]
    refine ⟨best, most, um, rfl, ?_, hv, ?_⟩
    · by_cases z : w = 0
      · rw [if_pos z, if_pos z]
      · rw [if_neg z, if_neg z]
    · rcases hi2 with e | ⟨j, j1, j2, j3, -⟩
      · exact Or.inl e
      · exact Or.inr ⟨j, j1, j2, j3⟩
  | succ q ih =>
    intro i f1 f2 best most um hi hf1 hf2 hv hi2
    obtain ⟨f1, rfl⟩ : ∃ f, f1 = f + 1 := ⟨f1 - 1, by omega⟩
    obtain ⟨f2, rfl⟩ : ∃ f, f2 = f + 1 := ⟨f2 - 1, by omega⟩
    have hc : ¬ (16 : Int32) ≤ nI i := nI_ge (b := 16) (by omega) (by decide)
    obtain ⟨x, k1, k2⟩ := least9 (c := i) hok hA (um := um) (hs.fr hv (by simp) (by simp) (by simp)) (fun k hk => by rw [hv.2 0 (by simp), hv.2 1 (by simp), hv.2 2 (by simp)]; exact h0 k hk) (by rw [hv.1 3 (by simp)]; exact hb) h3 h1 hp8 hst hrc (by omega)
    have k1 : f_X9_leastSlack (nI p) (nI i) (nI A) um = some (lsV sp dr me b A st rc i, x) := k1
    have l3 : f_X3_leastSlack ua us (nI A) (nI p) (nI i) = some (lsV sp dr me b A st rc i) := least3 hA hp hk h3 h1 hp8 hst
    have hx := hv.trans k2
    rw [f_X3_bestStand_9, if_neg hc, l3, bd_s, f_X9_stand_39, if_neg hc, k1, bd2_s]
    have T100 : (-100 : Int32).toInt = -100 := by decide
    have keep : ∃ bo mo um', f_X3_bestStand_40 ua us (f_X3_bestStand_9 ua us f1) (nI p) (nI A) best most (nI i) = some bo ∧ f_X9_stand_84 (f_X9_stand_39 f2) (nI p) (nI A) w best most (nI i) x = some ((if w = 0 then bo else mo), um') ∧ Fr [8] [7] um0 um' ∧ ((bo = -1 ∧ mo = -100) ∨ ∃ j, j < 16 ∧ bo = nI j ∧ mo = lsV sp dr me b A st rc j) := by
      rw [f_X3_bestStand_40, f_X9_stand_84, nm, nm, nI_1]
      exact ih (i + 1) f1 f2 best most x (by omega) (by omega) (by omega) hx hi2
    have take : -3 ≤ (lsV sp dr me b A st rc i).toInt → ∃ bo mo um', f_X3_bestStand_40 ua us (f_X3_bestStand_9 ua us f1) (nI p) (nI A) (nI i) (lsV sp dr me b A st rc i) (nI i) = some bo ∧ f_X9_stand_76 (f_X9_stand_39 f2) (nI p) (nI A) w (nI i) (lsV sp dr me b A st rc i) x = some ((if w = 0 then bo else mo), um') ∧ Fr [8] [7] um0 um' ∧ ((bo = -1 ∧ mo = -100) ∨ ∃ j, j < 16 ∧ bo = nI j ∧ mo = lsV sp dr me b A st rc j) := by
      intro hge
      rw [f_X3_bestStand_40, f_X9_stand_76, f_X9_stand_84, nm, nm, nI_1]
      exact ih (i + 1) f1 f2 _ _ x (by omega) (by omega) (by omega) hx (Or.inr ⟨i, by omega, rfl, rfl, hge⟩)
    rcases lsV_rng (st := st) (rc := rc) hok hA hst hrc (show i < 16 by omega) with e | e
    · have le : lsV sp dr me b A st rc i ≤ most := by
        rw [Int32.le_iff_toInt_le, e, T100]
        rcases hi2 with ⟨-, m⟩ | ⟨j, -, -, -, m⟩
        · rw [m, T100]; exact Int.le_refl _
        · omega
      rw [if_pos le, if_pos e]; exact keep
    · rw [if_neg (ne100 e)]
      rcases hi2 with ⟨b1, m1⟩ | ⟨j, j1, j2, j3, j4⟩
      · have nle : ¬ lsV sp dr me b A st rc i ≤ most := by rw [Int32.le_iff_toInt_le, m1, T100]; omega
        rw [if_neg nle, if_pos b1]; exact take e
      · have nb : ¬ best = -1 := by rw [j2]; exact nI_inj_m1 (by omega)
        by_cases c : lsV sp dr me b A st rc i ≤ most
        · rw [if_pos c, if_neg nb, if_pos c]; exact keep
        · rw [if_neg c, if_neg nb, if_neg c]; exact take e
end SD
theorem s_stand {ua us um : St} (h : RA ua um) (hs : RS us um) (p0 p1 p2 : Int32) : ∃ r ua' um', f_X8_stand us p0 p1 p2 ua = some (r, ua') ∧ f_X9_stand p0 p1 p2 um = some (r, um') ∧ RA ua' um' ∧ Fr [8] [7] um um' := by
  have fr0 : Fr [8] [7] um um := (Fr.refl um).mono (by simp) (by simp)
  rw [f_X8_stand, f_X9_stand]
  rcases gP p0 with ⟨a0, b0, e1, e2⟩ | ⟨e1, e2⟩
  · rw [e1, e2, bd_s, bd_s, if_neg zne1, if_neg zne1]
    rcases gC p1 with ⟨a1, b1, e1, e2⟩ | ⟨e1, e2⟩
    · rw [e1, e2, bd_s, bd_s, if_neg zne1, if_neg zne1]
      rcases gd p2 0 1 with ⟨a2, b2, e1, e2⟩ | ⟨-, e1, e2⟩
      · rw [e1, e2, bd_s, bd_s, if_neg zne1, if_neg zne1]
        obtain ⟨p, hp, rfl⟩ := asN a0 b0 (M := 7) (by decide)
        obtain ⟨A, hA, rfl⟩ := asN a1 b1 (M := 15) (by decide)
        obtain ⟨sp, dr, me, b, hpp⟩ := h.p
        obtain ⟨x1, x2, x3⟩ := h.m hpp
        obtain ⟨st, rc, s1, s2, s3, s4, s5⟩ := hs.n (show p < 8 by omega)
        obtain ⟨u, g1, g2, g3, g4, g5, -⟩ := wof0 (show A < 16 by omega) hpp
        obtain ⟨bo, mo, v, k1, k2, k3, k4⟩ := stand_loop x3 (show A < 16 by omega) g2 g5 hs x1 x2 s4 s5 (show p < 8 by omega) s2 s3 p2 16 0 FU FU (-1) (-100) um (by omega) (by unfold FU; omega) (by unfold FU; omega) fr0 (Or.inl ⟨rfl, rfl⟩)
        rw [nI_0] at k1 k2
        have hR : RA u v := (h.of g3 g4 g2).fr k3 (by simp) (by simp) (by simp) (by simp)
        rw [g1, bd_s, f_X3_bestStand, k1, bd_s, k2]
        by_cases z : p2 = 0
        · rw [if_pos z, if_pos z]; exact ⟨_, _, _, rfl, rfl, hR, k3⟩
        · rw [if_neg z, if_neg z]
          rcases k4 with ⟨e1, e2⟩ | ⟨j, j1, j2, j3⟩
          · rw [if_pos e1, e2]; exact ⟨_, _, _, rfl, rfl, hR, k3⟩
          · rw [j2, if_neg (nI_inj_m1 (by omega)), least3 (by omega) g2 g5 s4 s5 (by omega) s2, bd_s, j3]
            exact ⟨_, _, _, rfl, rfl, hR, k3⟩
      · rw [e1, e2, bd_s, bd_s, if_pos rfl, if_pos rfl]; exact ⟨_, _, _, rfl, rfl, h, fr0⟩
    · rw [e1, e2, bd_s, bd_s, if_pos rfl, if_pos rfl]; exact ⟨_, _, _, rfl, rfl, h, fr0⟩
  · rw [e1, e2, bd_s, bd_s, if_pos rfl, if_pos rfl]; exact ⟨_, _, _, rfl, rfl, h, fr0⟩
