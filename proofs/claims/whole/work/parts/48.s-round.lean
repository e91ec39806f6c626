/-! the best round: one search, said once -/
def sI (f : Nat → Int32) : Nat → Int32
  | 0 => 0
  | n + 1 => sI f n + f n
theorem sI_upd {f g : Nat → Int32} {p o : Nat} (hpo : p < o) (hfp : f p = 0) (hfo : f o = 0) (h : ∀ j, j ≠ p → j ≠ o → g j = f j) : ∀ n, sI g n = sI f n + (if p < n then g p else 0) + (if o < n then g o else 0) := by
  intro n
  induction n with
  | zero => simp [sI]
  | succ n ih =>
    rw [sI, sI, ih]
    by_cases e1 : n = p
    · subst e1
      rw [if_neg (by omega), if_neg (by omega), if_pos (by omega), if_neg (by omega), hfp]
      simp
    · by_cases e2 : n = o
      · subst e2
        rw [if_pos (by omega), if_neg (by omega), if_pos (by omega), if_pos (by omega), hfo]
        simp
      · rw [h n e1 e2]
        have c1 : (p < n) = (p < n + 1) := by apply propext; omega
        have c2 : (o < n) = (o < n + 1) := by apply propext; omega
        simp only [c1, c2]
        ac_rfl
theorem sI_congr {f g : Nat → Int32} : ∀ {n : Nat}, (∀ j, j < n → f j = g j) → sI f n = sI g n := by
  intro n
  induction n with
  | zero => intro _; rfl
  | succ n ih => intro h; rw [sI, sI, ih (fun j hj => h j (by omega)), h n (by omega)]
abbrev Acc : Type := Option (Int32 × Int32 × Int32 × (Nat → Int32))
def fW (wa m : Nat → Int32) (p : Nat) : Int32 := if m p = -1 then 0 else wa p
def fH (ga m : Nat → Int32) (p : Nat) : Int32 := if m p = -1 then 0 else if m p ≤ nI p then 0 else ga (p * 8 + (m p).toNatClampNeg)
def fG (gr m : Nat → Int32) (p : Nat) : Int32 := if m p = -1 then 0 else if m p ≤ nI p then 0 else ab (gr p - gr (m p).toNatClampNeg)
def betr (w h g bw bb bu : Int32) : Bool := if w = bw then (if h = bb then !decide (bu ≤ g) else !decide (bb ≤ h)) else !decide (w ≤ bw)
def lookE (wa ga gr : Nat → Int32) (m : Nat → Int32) (a : Acc) : Acc := match a with
  | none => some (sI (fW wa m) 8, sI (fH ga m) 8, sI (fG gr m) 8, m)
  | some (bw, bb, bu, bm) => if betr (sI (fW wa m) 8) (sI (fH ga m) 8) (sI (fG gr m) 8) bw bb bu then some (sI (fW wa m) 8, sI (fH ga m) 8, sI (fG gr m) 8, m) else some (bw, bb, bu, bm)
def pr (m : Nat → Int32) (p o : Nat) : Nat → Int32 := upd (upd m p (nI o)) o (nI p)
def frE (th m : Nat → Int32) (i : Nat) : Bool := !decide (th i = 0) && decide (m i = -1)
def lpE (rec : (Nat → Int32) → Acc → Acc) (th m : Nat → Int32) (p : Nat) : Nat → Acc → Acc
  | 0, a => a
  | k + 1, a => lpE rec th m p k (if frE th m (7 - k) then rec (pr m p (7 - k)) a else a)
def ev (th wa ga gr : Nat → Int32) : Nat → Nat → (Nat → Int32) → Acc → Acc
  | 0, 0, m, a => lookE wa ga gr m a
  | 0, _ + 1, _, a => a
  | _ + 1, 0, m, a => lookE wa ga gr m a
  | d + 1, l + 1, m, a => ev th wa ga gr d (l + 1) m (if frE th m (7 - d) then lpE (ev th wa ga gr d l) th m (7 - d) d a else a)
theorem ev_0 (th wa ga gr : Nat → Int32) (d : Nat) (m : Nat → Int32) (a : Acc) : ev th wa ga gr d 0 m a = lookE wa ga gr m a := by cases d <;> rfl
/-- the class's kept best -/
def RAc (ue : St) (a : Acc) : Prop := match a with
  | none => ue.1 10 = 0
  | some (w, h, g, b) => ue.1 10 = 1 ∧ ue.1 11 = w ∧ ue.1 12 = h ∧ ue.1 13 = g ∧ ∀ j, j < 8 → ue.2.1 5 j = b j
/-- what the search of the class leaves alone -/
def SameE (ue ue' : St) : Prop := ue'.2.1 0 = ue.2.1 0 ∧ ue'.2.1 1 = ue.2.1 1 ∧ ue'.2.1 2 = ue.2.1 2 ∧ ue'.2.1 3 = ue.2.1 3 ∧ ue'.1 6 = ue.1 6 ∧ ue'.1 7 = ue.1 7 ∧ ue'.1 8 = ue.1 8 ∧ ue'.1 9 = ue.1 9
theorem SameE.rf (ue : St) : SameE ue ue := ⟨rfl, rfl, rfl, rfl, rfl, rfl, rfl, rfl⟩
theorem SameE.tr {a b c : St} (h : SameE a b) (k : SameE b c) : SameE a c := by
  obtain ⟨h1, h2, h3, h4, h5, h6, h7, h8⟩ := h
  obtain ⟨k1, k2, k3, k4, k5, k6, k7, k8⟩ := k
  exact ⟨k1.trans h1, k2.trans h2, k3.trans h3, k4.trans h4, k5.trans h5, k6.trans h6, k7.trans h7, k8.trans h8⟩
theorem SameE.m (ue : St) (f : Nat → Int32) : SameE ue (st_r ue 4 f) := by
  refine ⟨?_, ?_, ?_, ?_, rfl, rfl, rfl, rfl⟩ <;> simp [st_r, va_up]
theorem keep4 {ue : St} {wa ga gr m : Nat → Int32} {a : Acc} (ha : RAc ue a) (hm : ∀ j, j < 8 → ue.2.1 4 j = m j) : ∃ ue', f_X4_keepIfBetter (sI (fW wa m) 8) (sI (fH ga m) 8) (sI (fG gr m) 8) ue = some ue' ∧ RAc ue' (lookE wa ga gr m a) ∧ ue'.2.1 4 = ue.2.1 4 ∧ SameE ue ue' := by
  generalize hw : sI (fW wa m) 8 = w
  generalize hh : sI (fH ga m) 8 = h
  generalize hg : sI (fG gr m) 8 = g
  have k18 : ∃ ue', f_X4_keepIfBetter_18 w h g ue = some ue' ∧ RAc ue' (some (w, h, g, m)) ∧ ue'.2.1 4 = ue.2.1 4 ∧ SameE ue ue' := by
    rw [f_X4_keepIfBetter_18, nm, nm, nm, nm, nm]
    refine ⟨_, rfl, ⟨?_, ?_, ?_, ?_, ?_⟩, ?_, ⟨?_, ?_, ?_, ?_, ?_, ?_, ?_, ?_⟩⟩ <;> try simp [st_r, st_i, va_up]
    intro j hj
    simp [va_cpy, hj, hm j hj]
  unfold lookE
  rw [hw, hh, hg]
  cases a with
  | none =>
    have ha : ue.1 10 = 0 := ha
    rw [f_X4_keepIfBetter, if_pos ha]
    exact k18
  | some q =>
    obtain ⟨bw, bb, bu, bm⟩ := q
    obtain ⟨a1, a2, a3, a4, a5⟩ := id ha
    rw [f_X4_keepIfBetter, if_neg (by rw [a1]; decide), f_X4_isBetter, a2, a3, a4]
    have no : betr w h g bw bb bu = false → ∃ ue', (some ue : Option St) = some ue' ∧ RAc ue' (if betr w h g bw bb bu = true then some (w, h, g, m) else some (bw, bb, bu, bm)) ∧ ue'.2.1 4 = ue.2.1 4 ∧ SameE ue ue' := fun e => by
      rw [e, if_neg (by decide)]; exact ⟨ue, rfl, ha, rfl, SameE.rf ue⟩
    have ye : betr w h g bw bb bu = true → ∃ ue', f_X4_keepIfBetter_18 w h g ue = some ue' ∧ RAc ue' (if betr w h g bw bb bu = true then some (w, h, g, m) else some (bw, bb, bu, bm)) ∧ ue'.2.1 4 = ue.2.1 4 ∧ SameE ue ue' := fun e => by
      rw [e, if_pos rfl]; exact k18
    by_cases c1 : w = bw
    · rw [if_pos c1]
      by_cases c2 : h = bb
      · rw [if_pos c2]
        by_cases c3 : bu ≤ g
        · rw [if_pos c3, bd_s, if_pos rfl]; exact no (by simp [betr, c1, c2, c3])
        · rw [if_neg c3, bd_s, if_neg zne1]; exact ye (by simp [betr, c1, c2, c3])
      · rw [if_neg c2]
        by_cases c3 : bb ≤ h
        · rw [if_pos c3, bd_s, if_pos rfl]; exact no (by simp [betr, c1, c2, c3])
        · rw [if_neg c3, bd_s, if_neg zne1]; exact ye (by simp [betr, c1, c2, c3])
    · rw [if_neg c1]
      by_cases c3 : w ≤ bw
      · rw [if_pos c3, bd_s, if_pos rfl]; exact no (by simp [betr, c1, c3])
      · rw [if_neg c3, bd_s, if_neg zne1]; exact ye (by simp [betr, c1, c3])
theorem pr_at1 (m : Nat → Int32) {p o : Nat} (h : p < o) : pr m p o p = nI o := by simp [pr, upd, show ¬ p = o by omega]
theorem pr_at2 (m : Nat → Int32) (p o : Nat) : pr m p o o = nI p := by simp [pr, upd]
theorem pr_ne (m : Nat → Int32) {p o j : Nat} (h1 : j ≠ p) (h2 : j ≠ o) : pr m p o j = m j := by simp [pr, upd, h1, h2]
theorem W_pr {wa m : Nat → Int32} {p o : Nat} (hpo : p < o) (ho : o < 8) (hp : m p = -1) (hm : m o = -1) : sI (fW wa (pr m p o)) 8 = sI (fW wa m) 8 + wa p + wa o := by
  rw [sI_upd (f := fW wa m) hpo (by simp [fW, hp]) (by simp [fW, hm]) (fun j h1 h2 => by simp [fW, pr_ne m h1 h2]), if_pos (by omega), if_pos ho]
  simp [fW, pr_at1 m hpo, pr_at2 m, nI_inj_m1 (show o < 1000 by omega), nI_inj_m1 (show p < 1000 by omega)]
theorem H_pr {ga m : Nat → Int32} {p o : Nat} (hpo : p < o) (ho : o < 8) (hp : m p = -1) (hm : m o = -1) : sI (fH ga (pr m p o)) 8 = sI (fH ga m) 8 + ga (p * 8 + o) := by
  rw [sI_upd (f := fH ga m) hpo (by simp [fH, hp]) (by simp [fH, hm]) (fun j h1 h2 => by simp [fH, pr_ne m h1 h2]), if_pos (by omega), if_pos ho]
  simp [fH, pr_at1 m hpo, pr_at2 m, nI_inj_m1 (show o < 1000 by omega), nI_inj_m1 (show p < 1000 by omega), nI_ge hpo (show o < 2 ^ 31 by omega), nI_le (Nat.le_of_lt hpo) (show o < 2 ^ 31 by omega), nI_cl (show o < 2 ^ 31 by omega)]
theorem G_pr {gr m : Nat → Int32} {p o : Nat} (hpo : p < o) (ho : o < 8) (hp : m p = -1) (hm : m o = -1) : sI (fG gr (pr m p o)) 8 = sI (fG gr m) 8 + ab (gr p - gr o) := by
  rw [sI_upd (f := fG gr m) hpo (by simp [fG, hp]) (by simp [fG, hm]) (fun j h1 h2 => by simp [fG, pr_ne m h1 h2]), if_pos (by omega), if_pos ho]
  simp [fG, pr_at1 m hpo, pr_at2 m, nI_inj_m1 (show o < 1000 by omega), nI_inj_m1 (show p < 1000 by omega), nI_ge hpo (show o < 2 ^ 31 by omega), nI_le (Nat.le_of_lt hpo) (show o < 2 ^ 31 by omega), nI_cl (show o < 2 ^ 31 by omega)]
theorem free4 {ue : St} {th m : Nat → Int32} (h0 : ue.2.1 0 = th) (hm : ∀ j, j < 8 → ue.2.1 4 j = m j) {i : Nat} (hi : i < 8) : f_X4_isFree ue (nI i) = some (if frE th m i then 1 else 0) := by
  have ok : okI (nI i) 8 := okN hi (by decide)
  rw [f_X4_isFree, ld_ok ok, nI_cl (by omega), h0]
  unfold frE
  by_cases c : th i = 0
  · simp [c]
  · rw [if_neg c, ld_ok ok, nI_cl (by omega), hm i hi]
    by_cases e : m i = -1
    · simp [c, e]
    · simp [c, e]
/-- the class's search is the one said -/
theorem pair4 (th wa ga gr : Nat → Int32) : ∀ (d l nr : Nat) (m : Nat → Int32) (ue : St) (a : Acc), d ≤ 8 → l ≤ 8 → d < nr → ue.2.1 0 = th → ue.2.1 1 = gr → ue.2.1 2 = wa → ue.2.1 3 = ga → (∀ j, j < 8 → ue.2.1 4 j = m j) → RAc ue a →
    ∃ ue', f_X4_pairFrom nr (nI (8 - d)) (nI l) (sI (fW wa m) 8) (sI (fH ga m) 8) (sI (fG gr m) 8) ue = some ue' ∧ RAc ue' (ev th wa ga gr d l m a) ∧ (∀ j, j < 8 → ue'.2.1 4 j = m j) ∧ SameE ue ue' := by
  intro d
  induction d with
  | zero =>
    intro l nr m ue a hd hl hnr h0 h1 h2 h3 hm ha
    obtain ⟨nr, rfl⟩ : ∃ f, nr = f + 1 := ⟨nr - 1, by omega⟩
    rw [f_X4_pairFrom]
    cases l with
    | zero =>
      obtain ⟨ue', k1, k2, k3, k4⟩ := keep4 (wa := wa) (ga := ga) (gr := gr) ha hm
      rw [nI_0, if_pos rfl, k1, bd_s]
      exact ⟨_, rfl, k2, fun j hj => by rw [k3]; exact hm j hj, k4⟩
    | succ l =>
      rw [if_neg (nI_ne0 (by omega) (by omega)), if_neg (show ¬ nI (8 - 0) < 8 by decide)]
      exact ⟨_, rfl, ha, hm, SameE.rf ue⟩
  | succ d ih =>
    intro l nr m ue a hd hl hnr h0 h1 h2 h3 hm ha
    obtain ⟨nr, rfl⟩ : ∃ f, nr = f + 1 := ⟨nr - 1, by omega⟩
    rw [f_X4_pairFrom]
    cases l with
    | zero =>
      obtain ⟨ue', k1, k2, k3, k4⟩ := keep4 (wa := wa) (ga := ga) (gr := gr) ha hm
      rw [nI_0, if_pos rfl, k1, bd_s]
      exact ⟨_, rfl, k2, fun j hj => by rw [k3]; exact hm j hj, k4⟩
    | succ l =>
      have hp : 8 - (d + 1) < 8 := by omega
      have hp7 : 8 - (d + 1) = 7 - d := by omega
      rw [if_neg (nI_ne0 (by omega) (by omega)), if_pos (show nI (8 - (d + 1)) < 8 from nI_lt (b := 8) hp (by decide)), free4 h0 hm hp, bd_s, hp7]
      -- the end: nobody for this one
      have last : ∀ (v : St) (b : Acc), SameE ue v → (∀ j, j < 8 → v.2.1 4 j = m j) → RAc v b → ∃ ue', f_X4_pairFrom_148 (f_X4_pairFrom nr) (nI (7 - d)) (nI (l + 1)) (sI (fW wa m) 8) (sI (fH ga m) 8) (sI (fG gr m) 8) v = some ue' ∧ RAc ue' (ev th wa ga gr d (l + 1) m b) ∧ (∀ j, j < 8 → ue'.2.1 4 j = m j) ∧ SameE ue ue' := by
        intro v b hv hvm hvb
        obtain ⟨s1, s2, s3, s4, -⟩ := id hv
        obtain ⟨u2, q1, q2, q3, q4⟩ := ih (l + 1) nr m v b (by omega) hl (by omega) (by rw [s1, h0]) (by rw [s2, h1]) (by rw [s3, h2]) (by rw [s4, h3]) hvm hvb
        rw [show 8 - d = 7 - d + 1 by omega] at q1
        rw [f_X4_pairFrom_148, nI_1, q1, bd_s]
        exact ⟨_, rfl, q2, q3, hv.tr q4⟩
      by_cases c : frE th m (7 - d) = true
      · rw [c, if_pos rfl, if_neg zne1, nm, nI_1]
        have mp : m (7 - d) = -1 := by
          unfold frE at c; simp at c; exact c.2
        have loop : ∀ (k fuel : Nat) (v : St) (b : Acc), k ≤ d → k < fuel → SameE ue v → (∀ j, j < 8 → v.2.1 4 j = m j) → RAc v b → ∃ ue', f_X4_pairFrom_34 (f_X4_pairFrom nr) fuel (nI (7 - d)) (nI (l + 1)) (sI (fW wa m) 8) (sI (fH ga m) 8) (sI (fG gr m) 8) (nI (8 - k)) v = some ue' ∧ RAc ue' (ev th wa ga gr d (l + 1) m (lpE (ev th wa ga gr d l) th m (7 - d) k b)) ∧ (∀ j, j < 8 → ue'.2.1 4 j = m j) ∧ SameE ue ue' := by
          intro k
          induction k with
          | zero =>
            intro fuel v b hk hf hv hvm hvb
            obtain ⟨fuel, rfl⟩ : ∃ f, fuel = f + 1 := ⟨fuel - 1, by omega⟩
            rw [f_X4_pairFrom_34, if_pos (by decide)]
            exact last v b hv hvm hvb
          | succ k ihk =>
            intro fuel v b hk hf hv hvm hvb
            obtain ⟨fuel, rfl⟩ : ∃ f, fuel = f + 1 := ⟨fuel - 1, by omega⟩
            obtain ⟨s1, s2, s3, s4, -⟩ := id hv
            have ho : 8 - (k + 1) = 7 - k := by omega
            have ho8 : 7 - k < 8 := by omega
            have hpo : 7 - d < 7 - k := by omega
            have nxt : ∀ (v : St) (b : Acc), SameE ue v → (∀ j, j < 8 → v.2.1 4 j = m j) → RAc v b → ∃ ue', f_X4_pairFrom_142 (f_X4_pairFrom nr) (f_X4_pairFrom_34 (f_X4_pairFrom nr) fuel) (nI (7 - d)) (nI (l + 1)) (sI (fW wa m) 8) (sI (fH ga m) 8) (sI (fG gr m) 8) (nI (7 - k)) v = some ue' ∧ RAc ue' (ev th wa ga gr d (l + 1) m (lpE (ev th wa ga gr d l) th m (7 - d) k b)) ∧ (∀ j, j < 8 → ue'.2.1 4 j = m j) ∧ SameE ue ue' := by
              intro v b hv hvm hvb
              rw [f_X4_pairFrom_142, nm, nI_1, show 7 - k + 1 = 8 - k by omega]
              exact ihk fuel v b (by omega) (by omega) hv hvm hvb
            rw [ho, f_X4_pairFrom_34, if_neg (show ¬ (8 : Int32) ≤ nI (7 - k) from nI_ge (b := 8) ho8 (by decide)), free4 (by rw [s1, h0]) hvm ho8, bd_s]
            by_cases c2 : frE th m (7 - k) = true
            · rw [c2, if_pos rfl, if_neg zne1]
              have mo : m (7 - k) = -1 := by
                unfold frE at c2; simp at c2; exact c2.2
              have okp : okI (nI (7 - d)) 8 := okN (by omega) (by decide)
              have oko : okI (nI (7 - k)) 8 := okN ho8 (by decide)
              rw [sti_ok okp, sti_ok oko, nI_cl (by omega), nI_cl (by omega)]
              have hvm2 : ∀ j, j < 8 → (st_r (st_r v 4 (upd (v.2.1 4) (7 - d) (nI (7 - k)))) 4 (upd ((st_r v 4 (upd (v.2.1 4) (7 - d) (nI (7 - k)))).2.1 4) (7 - k) (nI (7 - d)))).2.1 4 j = pr m (7 - d) (7 - k) j := by
                intro j hj
                simp [st_r, va_up, pr, upd, hvm j hj]
              have hv2 : SameE v (st_r (st_r v 4 (upd (v.2.1 4) (7 - d) (nI (7 - k)))) 4 (upd ((st_r v 4 (upd (v.2.1 4) (7 - d) (nI (7 - k)))).2.1 4) (7 - k) (nI (7 - d)))) := (SameE.m v _).tr (SameE.m _ _)
              have hvb2 : RAc (st_r (st_r v 4 (upd (v.2.1 4) (7 - d) (nI (7 - k)))) 4 (upd ((st_r v 4 (upd (v.2.1 4) (7 - d) (nI (7 - k)))).2.1 4) (7 - k) (nI (7 - d)))) b := by
                cases b with
                | none => exact hvb
                | some q => obtain ⟨bw, bb, bu, bm⟩ := q; obtain ⟨a1, a2, a3, a4, a5⟩ := hvb; exact ⟨a1, a2, a3, a4, fun j hj => by simpa [st_r, va_up] using a5 j hj⟩
              generalize st_r (st_r v 4 (upd (v.2.1 4) (7 - d) (nI (7 - k)))) 4 (upd ((st_r v 4 (upd (v.2.1 4) (7 - d) (nI (7 - k)))).2.1 4) (7 - k) (nI (7 - d))) = v2 at hvm2 hv2 hvb2 ⊢
              obtain ⟨t1, t2, t3, t4, -⟩ := id (hv.tr hv2)
              rw [t3, h2, ld_ok okp, ld_ok oko, t4, h3, show (8 : Int32) = nI 8 from rfl, nI_mul, nI_add, ld_ok (okN (show (7 - d) * 8 + (7 - k) < 64 by omega) (by decide)), t2, h1, ld_ok okp, ld_ok oko, nm, nm, nI_cl (by omega), nI_cl (by omega), nI_cl (by omega), nI_1, show nI (l + 1) - 1 = nI l from nI_pred l, ← W_pr hpo ho8 mp mo, ← H_pr hpo ho8 mp mo, ← G_pr hpo ho8 mp mo]
              obtain ⟨v3, q1, q2, q3, q4⟩ := ih l nr (pr m (7 - d) (7 - k)) v2 b (by omega) (by omega) (by omega) (by rw [t1, h0]) (by rw [t2, h1]) (by rw [t3, h2]) (by rw [t4, h3]) hvm2 hvb2
              rw [show 8 - d = 7 - d + 1 by omega] at q1
              rw [q1, bd_s, sti_ok okp, sti_ok oko, nI_cl (by omega), nI_cl (by omega)]
              have hv5 : ∀ j, j < 8 → (st_r (st_r v3 4 (upd (v3.2.1 4) (7 - d) (-1))) 4 (upd ((st_r v3 4 (upd (v3.2.1 4) (7 - d) (-1))).2.1 4) (7 - k) (-1))).2.1 4 j = m j := by
                intro j hj
                by_cases e1 : j = 7 - k
                · subst e1; simp [st_r, va_up, upd, mo]
                · by_cases e2 : j = 7 - d
                  · subst e2; simp [st_r, va_up, upd, e1, mp]
                  · simp [st_r, va_up, upd, e1, e2, q3 j hj, pr_ne m e2 e1]
              have hs5 : SameE ue (st_r (st_r v3 4 (upd (v3.2.1 4) (7 - d) (-1))) 4 (upd ((st_r v3 4 (upd (v3.2.1 4) (7 - d) (-1))).2.1 4) (7 - k) (-1))) := ((hv.tr hv2).tr q4).tr ((SameE.m v3 _).tr (SameE.m _ _))
              have hb5 : RAc (st_r (st_r v3 4 (upd (v3.2.1 4) (7 - d) (-1))) 4 (upd ((st_r v3 4 (upd (v3.2.1 4) (7 - d) (-1))).2.1 4) (7 - k) (-1))) (ev th wa ga gr d l (pr m (7 - d) (7 - k)) b) := by
                cases hq : ev th wa ga gr d l (pr m (7 - d) (7 - k)) b with
                | none => rw [hq] at q2; exact q2
                | some q => rw [hq] at q2; obtain ⟨bw, bb, bu, bm⟩ := q; obtain ⟨a1, a2, a3, a4, a5⟩ := q2; exact ⟨a1, a2, a3, a4, fun j hj => by simpa [st_r, va_up] using a5 j hj⟩
              have := nxt _ _ hs5 hv5 hb5
              rw [lpE, c2, if_pos rfl]
              exact this
            · have c2' : frE th m (7 - k) = false := by simpa using c2
              rw [c2', if_neg (show ¬ (false = true) by decide), if_pos rfl, lpE, c2', if_neg (show ¬ (false = true) by decide)]
              exact nxt v b hv hvm hvb
        have := loop d FU ue a (Nat.le_refl _) (by unfold FU; omega) (SameE.rf ue) hm ha
        rw [show 7 - d + 1 = 8 - d by omega, ev, c, if_pos rfl]
        exact this
      · have c' : frE th m (7 - d) = false := by simpa using c
        rw [c', if_neg (show ¬ (false = true) by decide), if_pos rfl, ev, c', if_neg (show ¬ (false = true) by decide)]
        exact last ue a (SameE.rf ue) hm ha
