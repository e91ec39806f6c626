def fc (th m : Nat → Int32) : Nat → Nat
  | 0 => 0
  | d + 1 => fc th m d + (if frE th m (7 - d) then 1 else 0)
theorem lookE_ne (wa ga gr m : Nat → Int32) (a : Acc) : lookE wa ga gr m a ≠ none := by
  unfold lookE
  cases a with
  | none => simp
  | some q => obtain ⟨w, h, g, b⟩ := q; dsimp only; split <;> simp
theorem lpE_mono {rec : (Nat → Int32) → Acc → Acc} (hr : ∀ m a, a ≠ none → rec m a ≠ none) (th m : Nat → Int32) (p : Nat) : ∀ (k : Nat) (a : Acc), a ≠ none → lpE rec th m p k a ≠ none := by
  intro k
  induction k with
  | zero => intro a h; exact h
  | succ k ih => intro a h; rw [lpE]; refine ih _ ?_; split; exact hr _ _ h; exact h
theorem ev_mono (th wa ga gr : Nat → Int32) : ∀ (d l : Nat) (m : Nat → Int32) (a : Acc), a ≠ none → ev th wa ga gr d l m a ≠ none := by
  intro d
  induction d with
  | zero => intro l m a h; cases l with
    | zero => exact lookE_ne _ _ _ _ _
    | succ l => exact h
  | succ d ih => intro l m a h; cases l with
    | zero => exact lookE_ne _ _ _ _ _
    | succ l =>
      rw [ev]
      refine ih _ _ _ ?_
      split
      · exact lpE_mono (fun m a => ih l m a) _ _ _ _ _ h
      · exact h
theorem lpE_ex {rec : (Nat → Int32) → Acc → Acc} (hr : ∀ m a, a ≠ none → rec m a ≠ none) {th m : Nat → Int32} {p : Nat} : ∀ {k : Nat} (a : Acc), (∃ k', k' < k ∧ frE th m (7 - k') = true ∧ ∀ a, rec (pr m p (7 - k')) a ≠ none) → lpE rec th m p k a ≠ none := by
  intro k
  induction k with
  | zero => intro a h; obtain ⟨k', h1, -⟩ := h; omega
  | succ k ih =>
    intro a h
    rw [lpE]
    obtain ⟨k', h1, h2, h3⟩ := h
    by_cases e : k' = k
    · subst e
      rw [h2, if_pos rfl]
      exact lpE_mono hr _ _ _ _ _ (h3 a)
    · exact ih _ ⟨k', by omega, h2, h3⟩
theorem fc_pr {th m : Nat → Int32} {p o : Nat} : ∀ {d : Nat}, d ≤ 8 → p < 8 - d → fc th m d ≤ fc th (pr m p o) d + (if 8 - d ≤ o then 1 else 0) := by
  intro d
  induction d with
  | zero => intro _ _; simp [fc]
  | succ d ih =>
    intro hd hp
    have h := ih (by omega) (by omega)
    rw [fc, fc]
    by_cases e : 7 - d = o
    · have e1 : ¬ 8 - d ≤ o := by omega
      have e2 : 8 - (d + 1) ≤ o := by omega
      rw [if_neg e1] at h
      rw [if_pos e2]
      split <;> split <;> omega
    · have e3 : frE th (pr m p o) (7 - d) = frE th m (7 - d) := by
        unfold frE; rw [pr_ne m (by omega) e]
      rw [e3]
      have e4 : (if 8 - d ≤ o then 1 else 0) ≤ (if 8 - (d + 1) ≤ o then (1 : Nat) else 0) := by
        split
        · rw [if_pos (by omega)]; exact Nat.le_refl _
        · exact Nat.zero_le _
      split <;> omega
theorem fc_ex {th m : Nat → Int32} : ∀ {d : Nat}, 0 < fc th m d → ∃ k, k < d ∧ frE th m (7 - k) = true := by
  intro d
  induction d with
  | zero => intro h; simp [fc] at h
  | succ d ih =>
    intro h
    rw [fc] at h
    by_cases c : frE th m (7 - d) = true
    · exact ⟨d, by omega, c⟩
    · rw [if_neg c] at h
      obtain ⟨k, h1, h2⟩ := ih (by omega)
      exact ⟨k, by omega, h2⟩
theorem ev_ex (th wa ga gr : Nat → Int32) : ∀ (d l : Nat) (m : Nat → Int32) (a : Acc), d ≤ 8 → 2 * l ≤ fc th m d → ev th wa ga gr d l m a ≠ none := by
  intro d
  induction d with
  | zero => intro l m a hd h; cases l with
    | zero => exact lookE_ne _ _ _ _ _
    | succ l => simp [fc] at h
  | succ d ih => intro l m a hd h; cases l with
    | zero => exact lookE_ne _ _ _ _ _
    | succ l =>
      rw [ev]
      rw [fc] at h
      by_cases c : frE th m (7 - d) = true
      · rw [if_pos c] at h
        rw [if_pos c]
        refine ev_mono _ _ _ _ _ _ _ _ ?_
        obtain ⟨k, k1, k2⟩ := fc_ex (th := th) (m := m) (d := d) (by omega)
        refine lpE_ex (fun m a => ev_mono th wa ga gr d l m a) a ⟨k, k1, k2, fun a => ih l _ a (by omega) ?_⟩
        have := fc_pr (th := th) (m := m) (p := 7 - d) (o := 7 - k) (d := d) (by omega) (by omega)
        split at this <;> omega
      · rw [if_neg c] at h
        rw [if_neg c]
        exact ih (l + 1) m a (by omega) (by omega)
/-- who plays is there, and plays one of the eight -/
def gdM (th m : Nat → Int32) : Prop := ∀ j, j < 8 → m j = -1 ∨ ((∃ o, o < 8 ∧ m j = nI o) ∧ ¬ th j = 0)
def gdA (th : Nat → Int32) (a : Acc) : Prop := ∀ w h g b, a = some (w, h, g, b) → gdM th b
theorem gdM_pr {th m : Nat → Int32} (h : gdM th m) {p o : Nat} (hp : p < 8) (ho : o < 8) (h1 : ¬ th p = 0) (h2 : ¬ th o = 0) : gdM th (pr m p o) := by
  intro j hj
  by_cases e1 : j = o
  · subst e1; exact Or.inr ⟨⟨p, hp, pr_at2 m p j⟩, h2⟩
  · by_cases e2 : j = p
    · subst e2; exact Or.inr ⟨⟨o, ho, by simp [pr, upd, e1]⟩, h1⟩
    · rw [pr_ne m e2 e1]; exact h j hj
theorem gdA_look {th wa ga gr m : Nat → Int32} {a : Acc} (hm : gdM th m) (ha : gdA th a) : gdA th (lookE wa ga gr m a) := by
  unfold lookE
  cases a with
  | none => intro w h g b e; cases e; exact hm
  | some q =>
    obtain ⟨w, h, g, b⟩ := q
    dsimp only
    split
    · intro w h g b e; cases e; exact hm
    · exact ha
theorem gdA_lp {rec : (Nat → Int32) → Acc → Acc} {th m : Nat → Int32} {p : Nat} (hp : p < 8) (hpt : ¬ th p = 0) (hm : gdM th m) (hr : ∀ m a, gdM th m → gdA th a → gdA th (rec m a)) : ∀ (k : Nat) (a : Acc), gdA th a → gdA th (lpE rec th m p k a) := by
  intro k
  induction k with
  | zero => intro a h; exact h
  | succ k ih =>
    intro a h
    rw [lpE]
    refine ih _ ?_
    by_cases c : frE th m (7 - k) = true
    · rw [if_pos c]
      have : ¬ th (7 - k) = 0 := by unfold frE at c; simp at c; exact c.1
      exact hr _ _ (gdM_pr hm hp (by omega) hpt this) h
    · rw [if_neg c]; exact h
theorem ev_good (th wa ga gr : Nat → Int32) : ∀ (d l : Nat) (m : Nat → Int32) (a : Acc), gdM th m → gdA th a → gdA th (ev th wa ga gr d l m a) := by
  intro d
  induction d with
  | zero => intro l m a hm ha; cases l with
    | zero => exact gdA_look hm ha
    | succ l => exact ha
  | succ d ih => intro l m a hm ha; cases l with
    | zero => exact gdA_look hm ha
    | succ l =>
      rw [ev]
      refine ih _ _ _ hm ?_
      by_cases c : frE th m (7 - d) = true
      · rw [if_pos c]
        have : ¬ th (7 - d) = 0 := by unfold frE at c; simp at c; exact c.1
        exact gdA_lp (by omega) this hm (fun m a h1 h2 => ih l m a h1 h2) d a ha
      · rw [if_neg c]; exact ha
def m0 : Nat → Int32 := fun _ => -1
theorem fc_m0 (th : Nat → Int32) : fc th m0 8 = thC th := by
  have h : ∀ i, frE th m0 i = decide (¬ th i = 0) := fun i => by simp [frE, m0]
  simp only [fc, thC, cnt, h, Nat.reduceSub]
  omega
theorem sI_0 {f : Nat → Int32} (h : ∀ j, f j = 0) : ∀ n, sI f n = 0 := by
  intro n
  induction n with
  | zero => rfl
  | succ n ih => rw [sI, ih, h n]; rfl
def needN (ue : St) : Nat := min (ue.1 6).toNatClampNeg (thC (ue.2.1 0) / 2)
def evAll (ue : St) : Acc := ev (ue.2.1 0) (ue.2.1 2) (ue.2.1 3) (ue.2.1 1) 8 (needN ue) m0 none
theorem evAll_some (ue : St) : ∃ w h g b, evAll ue = some (w, h, g, b) ∧ gdM (ue.2.1 0) b := by
  have h1 : evAll ue ≠ none := ev_ex _ _ _ _ 8 (needN ue) m0 none (Nat.le_refl _) (by rw [fc_m0]; unfold needN; omega)
  have h2 : gdA (ue.2.1 0) (evAll ue) := ev_good _ _ _ _ 8 _ m0 none (fun j _ => Or.inl rfl) (fun _ _ _ _ e => by cases e)
  cases h : evAll ue with
  | none => exact absurd h h1
  | some q => obtain ⟨w, x, g, b⟩ := q; exact ⟨w, x, g, b, rfl, h2 w x g b h⟩
def RE (ue um : St) : Prop := REb ue um ∧ (ue.1 9 = 0 ∨ (ue.1 9 = 1 ∧ RAc ue (evAll ue)))
theorem gao4 {ue : St} {c : Nat} (hc : ue.1 6 = nI c) (hc4 : c ≤ 4) (h7 : ue.1 7 = nI (thC (ue.2.1 0))) : f_X4_gamesAtOnce ue = some (nI (needN ue)) := by
  have ht := thC_le (ue.2.1 0)
  rw [f_X4_gamesAtOnce, nm, nm, h7, hc, show (2 : Int32) = nI 2 from rfl, nI_div (by omega) (by decide)]
  unfold mn needN
  rw [hc, nI_cl (by omega)]
  by_cases e : thC (ue.2.1 0) / 2 < c
  · rw [if_pos (nI_lt e (by omega)), Nat.min_eq_right (by omega)]
  · rw [if_neg (nI_nlt (by omega) (by omega)), Nat.min_eq_left (by omega)]
theorem SameE.ev {ue ue' : St} (h : SameE ue ue') : evAll ue' = evAll ue ∧ needN ue' = needN ue := by
  obtain ⟨h1, h2, h3, h4, h5, -⟩ := h
  unfold evAll needN
  rw [h1, h2, h3, h4, h5]
  exact ⟨rfl, rfl⟩
theorem seek4 {ue um : St} (h : RE ue um) : ∃ ue', f_X4_seek ue = some ue' ∧ RE ue' um ∧ RAc ue' (evAll ue') ∧ ue'.1 9 = 1 ∧ evAll ue' = evAll ue ∧ needN ue' = needN ue := by
  obtain ⟨hb, hs⟩ := h
  obtain ⟨g1, g2, g3, g4, g5, g6, g7, g8, g9⟩ := id hb
  rcases hs with hs | ⟨hs, hr⟩
  · obtain ⟨c, hc4, hc⟩ := asN (Int32.le_trans (by decide) g9.1) g9.2 (M := 4) (by decide)
    rw [f_X4_seek, if_pos hs, nm, nm, nm]
    generalize hu : st_r (st_i (st_i ue 9 1) 10 0) 4 (fillI 8 ((st_i (st_i ue 9 1) 10 0).2.1 4) (-1)) = u
    have s0 : u.2.1 0 = ue.2.1 0 := by rw [← hu]; simp [st_r, st_i, va_up]
    have s1 : u.2.1 1 = ue.2.1 1 := by rw [← hu]; simp [st_r, st_i, va_up]
    have s2 : u.2.1 2 = ue.2.1 2 := by rw [← hu]; simp [st_r, st_i, va_up]
    have s3 : u.2.1 3 = ue.2.1 3 := by rw [← hu]; simp [st_r, st_i, va_up]
    have s6 : u.1 6 = ue.1 6 := by rw [← hu]; simp [st_r, st_i, va_up]
    have s7 : u.1 7 = ue.1 7 := by rw [← hu]; simp [st_r, st_i, va_up]
    have s8 : u.1 8 = ue.1 8 := by rw [← hu]; simp [st_r, st_i, va_up]
    have s9 : u.1 9 = 1 := by rw [← hu]; simp [st_r, st_i, va_up]
    have s10 : u.1 10 = 0 := by rw [← hu]; simp [st_r, st_i, va_up]
    have sm4 : ∀ j, j < 8 → u.2.1 4 j = m0 j := by intro j hj; rw [← hu]; simp [st_r, st_i, va_up, fillI, hj, m0]
    have en : needN u = needN ue := by unfold needN; rw [s0, s6]
    have ee : evAll u = evAll ue := by unfold evAll; rw [s0, s1, s2, s3, en]
    have w0 : sI (fW (ue.2.1 2) m0) 8 = 0 := sI_0 (fun j => by simp [fW, m0]) 8
    have h0 : sI (fH (ue.2.1 3) m0) 8 = 0 := sI_0 (fun j => by simp [fH, m0]) 8
    have gg0 : sI (fG (ue.2.1 1) m0) 8 = 0 := sI_0 (fun j => by simp [fG, m0]) 8
    obtain ⟨u', q1, q2, q3, q4⟩ := pair4 (ue.2.1 0) (ue.2.1 2) (ue.2.1 3) (ue.2.1 1) 8 (needN u) 10 m0 u none (Nat.le_refl _) (by unfold needN; have := thC_le (u.2.1 0); omega) (by omega) s0 s1 s2 s3 sm4 s10
    rw [w0, h0, gg0] at q1
    have q1 : f_X4_pairFrom 10 0 (nI (needN u)) 0 0 0 u = some u' := q1
    rw [gao4 (ue := u) (by rw [s6]; exact hc) hc4 (by rw [s7, s0]; exact g7), bd_s, q1, bd_s]
    obtain ⟨e1, e2⟩ := q4.ev
    have hR : RAc u' (evAll u') := by
      rw [e1]
      have : evAll u = ev (ue.2.1 0) (ue.2.1 2) (ue.2.1 3) (ue.2.1 1) 8 (needN u) m0 none := by unfold evAll; rw [s0, s1, s2, s3]
      rw [this]; exact q2
    obtain ⟨r0, r1, r2, r3, r6, r7, r8, r9⟩ := q4
    have hb' : REb u' um := by
      refine ⟨by rw [r0, s0]; exact g1, by rw [r1, s1]; exact g2, by rw [r2, s2]; exact g3, by rw [r3, s3]; exact g4, by rw [r6, s6]; exact g5, by rw [r8, s8]; exact g6, by rw [r7, s7, r0, s0]; exact g7, by rw [r0, s0]; exact g8, by rw [r6, s6]; exact g9⟩
    exact ⟨u', rfl, ⟨hb', Or.inr ⟨by rw [r9, s9], hR⟩⟩, hR, by rw [r9, s9], by rw [e1, ee], by rw [e2, en]⟩
  · rw [f_X4_seek, if_neg (by rw [hs]; decide)]
    exact ⟨ue, rfl, ⟨hb, Or.inr ⟨hs, hr⟩⟩, hr, hs, rfl, rfl⟩
theorem TT8 : TT 8 + 2 ≤ 2000000 := by decide +kernel
theorem find9 {ue um : St} (h : REb ue um) : ∃ um', f_X9_findRound um = some um' ∧ RAm (nI (needN ue)) um' (evAll ue) ∧ F9 um um' := by
  obtain ⟨g1, g2, g3, g4, g5, g6, g7, g8, g9⟩ := id h
  obtain ⟨c, hc4, hc⟩ := asN (Int32.le_trans (by decide) g9.1) g9.2 (M := 4) (by decide)
  have ht := thC_le (ue.2.1 0)
  have hn4 : needN ue ≤ 4 := by unfold needN; omega
  have go : f_X9_findRound um = f_X9_findRound_23 (nI (needN ue)) um := by
    rw [f_X9_findRound, thereMany9, bd_s, nm, g1, g5, hc, show (2 : Int32) = nI 2 from rfl, nI_div (by omega) (by decide)]
    unfold needN
    rw [hc, nI_cl (by omega)]
    by_cases e : c ≤ thC (ue.2.1 0) / 2
    · rw [if_pos (nI_le e (by omega)), Nat.min_eq_left e]
    · rw [if_neg (nI_ge (by omega) (by omega)), Nat.min_eq_right (by omega)]
  rw [go, f_X9_findRound_23, nm]
  have lp : ∀ (q i fuel : Nat) (v : St), i + q = 8 → q < fuel → F9 um v → v.1 34 = -1 → (∀ j, j < i → v.2.1 31 j = -1) → (∀ j, j < i → v.2.1 32 j = -1) → ∃ v', f_X9_findRound_36 fuel (nI (needN ue)) 0 0 (nI i) v = f_X9_findRound_65 FU (nI (needN ue)) 0 0 v' ∧ F9 um v' ∧ v'.1 34 = -1 ∧ (∀ j, j < 8 → v'.2.1 31 j = -1) ∧ (∀ j, j < 8 → v'.2.1 32 j = -1) := by
    intro q
    induction q with
    | zero =>
      intro i fuel v hi hf f34 h34 h31 h32
      obtain ⟨f, rfl⟩ : ∃ f, fuel = f + 1 := ⟨fuel - 1, by omega⟩
      have : i = 8 := by omega
      subst this
      rw [f_X9_findRound_36, if_pos (by decide)]
      exact ⟨v, rfl, f34, h34, h31, h32⟩
    | succ q ih =>
      intro i fuel v hi hf f34 h34 h31 h32
      obtain ⟨f, rfl⟩ : ∃ f, fuel = f + 1 := ⟨fuel - 1, by omega⟩
      have ok : okI (nI i) 8 := okN (by omega) (by decide)
      rw [f_X9_findRound_36, if_neg (show ¬ (8 : Int32) ≤ nI i from nI_ge (b := 8) (by omega) (by decide)), sti_ok ok, sti_ok ok, nm, nI_1, nI_cl (by omega), at31_32]
      refine ih (i + 1) f _ (by omega) (by omega) ((f34.trans (F9.o v _)).trans (F9.m _ _)) h34 ?_ ?_
      · intro j hj
        rw [at32_31, at31]
        by_cases e : j = i
        · subst e; rw [upd_eq]
        · rw [upd_ne _ _ e]; exact h31 j (by omega)
      · intro j hj
        rw [at32]
        by_cases e : j = i
        · subst e; rw [upd_eq]
        · rw [upd_ne _ _ e]; exact h32 j (by omega)
  obtain ⟨v, e1, f1, k34, k31, k32⟩ := lp 8 0 FU (st_i um 34 (-1)) (by omega) (by unfold FU; omega) ((Fr.i um 34 _).mono (by simp) (by simp)) (by simp [st_i, va_up]) (fun j hj => by omega) (fun j hj => by omega)
  have e1 : f_X9_findRound_36 FU (nI (needN ue)) 0 0 0 (st_i um 34 (-1)) = _ := e1
  rw [e1]
  obtain ⟨cc, w, q1, q2, q3, q4, q5, q6⟩ := search9 hn4 (ue.2.1 0) (ue.2.1 2) (ue.2.1 3) (ue.2.1 1) 8 (needN ue) m0 none v (Nat.le_refl _) (Nat.le_refl _) (by rw [f1.2 26 (by simp), g1]) (by rw [f1.2 27 (by simp), g2]) (by rw [f1.2 28 (by simp), g3]) (by rw [f1.2 29 (by simp), g4]) (fun j hj => k32 j hj) (fun j _ hj => k31 j hj) (fun j _ => Or.inl rfl) k34
  have ht8 := TT8
  have hFU : FU = (2000000 - cc - 1) + 1 + cc := by unfold FU; omega
  have q2 := q2 ((2000000 - cc - 1) + 1)
  rw [← hFU, Nat.sub_self] at q2
  have q2 : f_X9_findRound_65 FU (nI (needN ue)) 0 0 v = f_X9_findRound_65 (2000000 - cc - 1 + 1) (nI (needN ue)) 0 (nI (8 - 8) - 1) w := q2
  rw [q2, f_X9_findRound_65, if_pos (by decide)]
  exact ⟨w, rfl, q3, f1.trans q6⟩
theorem RE.fr {ue um um' : St} {I R : List Nat} (h : RE ue um) (hf : Fr I R um um') (h1 : 25 ∉ I) (h2 : 30 ∉ I) (h3 : 26 ∉ R) (h4 : 27 ∉ R) (h5 : 28 ∉ R) (h6 : 29 ∉ R) : RE ue um' := ⟨h.1.fr hf h1 h2 h3 h4 h5 h6, h.2⟩
theorem RE.f9 {ue um um' : St} (h : RE ue um) (hf : F9 um um') : RE ue um' := h.fr hf (by simp) (by simp) (by simp) (by simp) (by simp) (by simp)
theorem s_against {ue um : St} (h : RE ue um) (p0 : Int32) : ∃ r ue' um', f_X8_against p0 ue = some (r, ue') ∧ f_X9_against p0 um = some (r, um') ∧ RE ue' um' ∧ F9 um um' := by
  have fr0 : F9 um um := (Fr.refl um).mono (by simp) (by simp)
  rw [f_X8_against, f_X9_against]
  rcases gP p0 with ⟨a, b, e1, e2⟩ | ⟨e1, e2⟩
  · rw [e1, e2, bd_s, bd_s, if_neg zne1, if_neg zne1]
    obtain ⟨j, hj, rfl⟩ := asN a b (M := 7) (by decide)
    have ok : okI (nI j) 8 := okN (by omega) (by decide)
    obtain ⟨u, k1, k2, k3, k4, k5, k6⟩ := seek4 h
    obtain ⟨w, l1, l2, l3⟩ := find9 h.1
    obtain ⟨x, y, z, bb, v1, v2⟩ := evAll_some ue
    rw [k5, v1] at k3
    rw [v1] at l2
    rw [f_X4_mateOf, k1, bd_s, ld_ok ok, bd2_s, l1, bd_s, ld_ok ok, nI_cl (by omega), k3.2.2.2.2 j (by omega), l2.2.2.2.2 j (by omega)]
    exact ⟨_, _, _, rfl, rfl, k2.f9 l3, l3⟩
  · rw [e1, e2, bd_s, bd_s, if_pos rfl, if_pos rfl]; exact ⟨_, _, _, rfl, rfl, h, fr0⟩
theorem REb.gao {ue um : St} (h : REb ue um) : f_X4_gamesAtOnce ue = some (nI (needN ue)) := by
  obtain ⟨g1, g2, g3, g4, g5, g6, g7, g8, g9⟩ := h
  obtain ⟨c, hc4, hc⟩ := asN (Int32.le_trans (by decide) g9.1) g9.2 (M := 4) (by decide)
  exact gao4 hc hc4 g7
theorem s_round {ue um : St} (h : RE ue um) (p0 : Int32) : ∃ r ue' um', f_X8_round p0 ue = some (r, ue') ∧ f_X9_round p0 um = some (r, um') ∧ RE ue' um' ∧ F9 um um' := by
  have fr0 : F9 um um := (Fr.refl um).mono (by simp) (by simp)
  rw [f_X8_round, f_X9_round]
  rcases gd p0 0 3 with ⟨a, b, e1, e2⟩ | ⟨-, e1, e2⟩
  · rw [e1, e2, bd_s, bd_s, if_neg zne1, if_neg zne1]
    obtain ⟨u, k1, k2, k3, k4, k5, k6⟩ := seek4 h
    obtain ⟨w, l1, l2, l3⟩ := find9 h.1
    obtain ⟨x, y, z, bb, v1, v2⟩ := evAll_some ue
    rw [k5, v1] at k3
    rw [v1] at l2
    obtain ⟨-, a2, a3, a4, -⟩ := k3
    obtain ⟨b1, b2, b3, b4, -⟩ := l2
    rw [f_X4_readRound, k1, bd_s, l1, bd_s]
    by_cases q0 : p0 = 0
    · rw [if_pos q0, if_pos q0, k2.1.gao, bd_s, bd2_s, b1, k6]; exact ⟨_, _, _, rfl, rfl, k2.f9 l3, l3⟩
    · rw [if_neg q0, if_neg q0]
      by_cases q1 : p0 = 1
      · rw [if_pos q1, if_pos q1, bd2_s, a2, b2]; exact ⟨_, _, _, rfl, rfl, k2.f9 l3, l3⟩
      · rw [if_neg q1, if_neg q1]
        by_cases q2 : p0 = 2
        · rw [if_pos q2, if_pos q2, bd2_s, a3, b3]; exact ⟨_, _, _, rfl, rfl, k2.f9 l3, l3⟩
        · rw [if_neg q2, if_neg q2, bd2_s, a4, b4]; exact ⟨_, _, _, rfl, rfl, k2.f9 l3, l3⟩
  · rw [e1, e2, bd_s, bd_s, if_pos rfl, if_pos rfl]; exact ⟨_, _, _, rfl, rfl, h, fr0⟩
theorem played_loop {b : Nat → Int32} {N : Nat} : ∀ (q i f1 f2 : Nat) (ue um : St), i + q = 8 → q < f1 → q < f2 → REb ue um → gdM (ue.2.1 0) b → (∀ j, j < 8 → ue.2.1 5 j = b j) → (∀ j, j < 8 → um.2.1 33 j = b j) → um.1 34 = nI N → needN ue = N →
    ∃ r ue' um', f_X4_playRound_6 f1 (nI i) ue = some (r, ue') ∧ f_X9_played_6 f2 (nI i) um = some (r, um') ∧ (REb ue' um' ∧ ue'.1 9 = 0) ∧ Fr [30] [28, 29] um um' := by
  intro q
  induction q with
  | zero =>
    intro i f1 f2 ue um hi hf1 hf2 h hg h5 h33 h34 hN
    obtain ⟨f1, rfl⟩ : ∃ f, f1 = f + 1 := ⟨f1 - 1, by omega⟩
    obtain ⟨f2, rfl⟩ : ∃ f, f2 = f + 1 := ⟨f2 - 1, by omega⟩
    have : i = 8 := by omega
    subst this
    obtain ⟨g1, g2, g3, g4, g5, g6, g7, g8, g9⟩ := id h
    have hb : REb (st_i (st_i ue 8 (ue.1 8 + 1)) 9 0) (st_i um 30 (um.1 30 + 1)) := by
      refine ⟨?_, ?_, ?_, ?_, ?_, ?_, ?_, ?_, ?_⟩ <;> simp [st_i, va_up, g1, g2, g3, g4, g5, g6, g7, g8, g9]
    have en : needN (st_i (st_i ue 8 (ue.1 8 + 1)) 9 0) = N := by rw [← hN]; simp [needN, st_i, va_up]
    rw [f_X4_playRound_6, if_pos (by decide), nm, nm, hb.gao, bd_s, f_X9_played_6, if_pos (by decide), nm, en]
    refine ex2 (by simp [st_i, va_up, h34]) ⟨hb, by simp [st_i, va_up]⟩ ((Fr.i um 30 _).mono (by simp) (by simp))
  | succ q ih =>
    intro i f1 f2 ue um hi hf1 hf2 h hg h5 h33 h34 hN
    obtain ⟨f1, rfl⟩ : ∃ f, f1 = f + 1 := ⟨f1 - 1, by omega⟩
    obtain ⟨f2, rfl⟩ : ∃ f, f2 = f + 1 := ⟨f2 - 1, by omega⟩
    have hc : ¬ (8 : Int32) ≤ nI i := nI_ge (b := 8) (by omega) (by decide)
    have hi8 : i < 8 := by omega
    have ok : okI (nI i) 8 := okN hi8 (by decide)
    obtain ⟨g1, g2, g3, g4, g5, g6, g7, g8, g9⟩ := id h
    have hi31 : i < 2 ^ 31 := by omega
    have e8 : ∀ f, (st_r um 28 f).2.1 33 = um.2.1 33 := fun f => by simp [st_r, va_up]
    have base : ∀ (ue2 um2 : St), REb ue2 um2 → ue2.2.1 0 = ue.2.1 0 → ue2.2.1 5 = ue.2.1 5 → ue2.1 6 = ue.1 6 → um2.2.1 33 = um.2.1 33 → um2.1 34 = um.1 34 → Fr [30] [28, 29] um um2 → ∃ r ue' um', f_X4_playRound_68 (f_X4_playRound_6 f1) (nI i) ue2 = some (r, ue') ∧ f_X9_played_79 (f_X9_played_6 f2) (nI i) um2 = some (r, um') ∧ (REb ue' um' ∧ ue'.1 9 = 0) ∧ Fr [30] [28, 29] um um' := by
      intro ue2 um2 hb e0 e5 e6 e33 e34 hf
      rw [f_X4_playRound_68, f_X9_played_79, nm, nm, nI_1]
      obtain ⟨r, u', w', k1, k2, k3, k4⟩ := ih (i + 1) f1 f2 ue2 um2 (by omega) (by omega) (by omega) hb (by rw [e0]; exact hg) (fun j hj => by rw [e5]; exact h5 j hj) (fun j hj => by rw [e33]; exact h33 j hj) (by rw [e34]; exact h34) (by rw [← hN]; unfold needN; rw [e0, e6])
      exact ⟨r, u', w', k1, k2, k3, hf.trans k4⟩
    rw [f_X4_playRound_6, if_neg hc, f_X9_played_6, if_neg hc]
    simp only [ld_ok ok, nI_cl hi31, h5 i hi8, h33 i hi8, g1]
    rcases hg i hi8 with e | ⟨⟨o, ho, e⟩, ht⟩
    · rw [if_pos e]
      by_cases t : ue.2.1 0 i = 0
      · rw [if_pos t, if_pos t]
        exact base ue um h rfl rfl rfl rfl rfl ((Fr.refl um).mono (by simp) (by simp))
      · rw [if_neg t, if_neg t, if_pos e, sti_ok ok, f_X9_played_48, sti_ok ok, ld_ok ok, e8, nI_cl hi31, h33 i hi8, if_pos e]
        refine base _ _ ⟨?_, ?_, ?_, ?_, ?_, ?_, ?_, ?_, ?_⟩ ?_ ?_ ?_ ?_ ?_ ((Fr.r um 28 _).mono (by simp) (by simp)) <;> simp [st_r, va_up, g1, g2, g3, g4, g5, g6, g7, g8, g9]
    · have ne : ¬ nI o = -1 := nI_inj_m1 (by omega)
      have ok64 : okI (nI (i * 8 + o)) 64 := okN (by omega) (by decide)
      have e88 : (8 : Int32) = nI 8 := rfl
      have c64 : (nI (i * 8 + o)).toNatClampNeg = i * 8 + o := nI_cl (by omega)
      rw [e, if_neg ne, if_neg ht, if_neg ne, sti_ok ok, nm, f_X9_played_48, sti_ok ok]
      simp only [ld_ok ok, e8, nI_cl hi31, h33 i hi8, e]
      rw [if_neg ne, nm, e88, nI_mul, nI_mul, nI_add, nI_add, Nat.mul_comm 8 i, ld_ok ok64, sti_ok ok64, ld_ok ok64, sti_ok ok64, c64]
      refine base _ _ ⟨?_, ?_, ?_, ?_, ?_, ?_, ?_, ?_, ?_⟩ ?_ ?_ ?_ ?_ ?_ (((Fr.r um 28 _).mono (by simp) (by simp)).trans ((Fr.r _ 29 _).mono (by simp) (by simp))) <;> simp [st_r, va_up, g1, g2, g3, g4, g5, g6, g7, g8, g9]
theorem s_played {ue um : St} (h : RE ue um) : ∃ r ue' um', f_X8_played ue = some (r, ue') ∧ f_X9_played um = some (r, um') ∧ RE ue' um' ∧ Fr [30, 34, 35, 36, 37] [28, 29, 31, 32, 33] um um' := by
  rw [f_X8_played, f_X9_played, f_X4_playRound]
  obtain ⟨u, k1, k2, k3, k4, k5, k6⟩ := seek4 h
  obtain ⟨w, l1, l2, l3⟩ := find9 h.1
  obtain ⟨x, y, z, bb, v1, v2⟩ := evAll_some u
  rw [v1] at k3
  rw [← k5, v1] at l2
  obtain ⟨r, ue', um', q1, q2, q3, q4⟩ := played_loop (b := bb) (N := needN ue) 8 0 FU FU u w (by omega) (by unfold FU; omega) (by unfold FU; omega) (k2.f9 l3).1 v2 k3.2.2.2.2 l2.2.2.2.2 l2.1 k6
  rw [nI_0] at q1 q2
  rw [k1, bd_s, q1, bd2_s, l1, bd_s, q2]
  exact ⟨_, _, _, rfl, rfl, ⟨q3.1, Or.inl q3.2⟩, (l3.mono (by simp) (by simp)).trans (q4.mono (by simp) (by simp))⟩
