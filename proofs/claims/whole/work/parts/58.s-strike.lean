theorem s_slack {ua us um : St} (h : RA ua um) (hs : RS us um) (p0 p1 p2 p3 p4 : Int32) : ∃ r ua' um', f_X8_slack us p0 p1 p2 p3 p4 ua = some (r, ua') ∧ f_X9_slack p0 p1 p2 p3 p4 um = some (r, um') ∧ RA ua' um' ∧ Fr [8] [7] um um' := by
  have fr0 : Fr [8] [7] um um := (Fr.refl um).mono (by simp) (by simp)
  rw [f_X8_slack, f_X9_slack]
  rcases gP p0 with ⟨a0, b0, e1, e2⟩ | ⟨e1, e2⟩
  · rw [e1, e2, bd_s, bd_s, if_neg zne1, if_neg zne1]
    rcases gC p1 with ⟨a1, b1, e1, e2⟩ | ⟨e1, e2⟩
    · rw [e1, e2, bd_s, bd_s, if_neg zne1, if_neg zne1]
      rcases gK p2 with ⟨a2, b2, e1, e2⟩ | ⟨e1, e2⟩
      · rw [e1, e2, bd_s, bd_s, if_neg zne1, if_neg zne1]
        rcases gC p3 with ⟨a3, b3, e1, e2⟩ | ⟨e1, e2⟩
        · rw [e1, e2, bd_s, bd_s, if_neg zne1, if_neg zne1]
          rcases gC p4 with ⟨a4, b4, e1, e2⟩ | ⟨e1, e2⟩
          · rw [e1, e2, bd_s, bd_s, if_neg zne1, if_neg zne1]
            obtain ⟨p, hp, rfl⟩ := asN a0 b0 (M := 7) (by decide)
            obtain ⟨c, hc, rfl⟩ := asN a1 b1 (M := 15) (by decide)
            obtain ⟨k, hk, rfl⟩ := asN a2 b2 (M := 3) (by decide)
            obtain ⟨A, hA, rfl⟩ := asN a3 b3 (M := 15) (by decide)
            obtain ⟨T, hT, rfl⟩ := asN a4 b4 (M := 15) (by decide)
            obtain ⟨sp, dr, me, b, hpp⟩ := h.p
            obtain ⟨ok, q0, q1, q2⟩ := hpp.2.1 k (by omega)
            obtain ⟨m0', m1, m2, m3, -⟩ := id h
            obtain ⟨st, rc, s1, s2, s3, s4, s5⟩ := hs.n (show p < 8 by omega)
            obtain ⟨v, f1, f2, f3, f4⟩ := fly9 ok (show A < 16 by omega) (show T < 16 by omega) (show k < 4 by omega) (um := um) (by rw [m0']; exact q0) (by rw [m1]; exact q1) (by rw [m3]; exact hpp.1)
            obtain ⟨ua', g1, g2, g3, g4, -⟩ := pathOf0 hpp (show k < 4 by omega) (show A < 16 by omega) (show T < 16 by omega)
            have hsv : RS us v := hs.fr f4 (by simp) (by simp) (by simp)
            rw [g1, bd2_s, slack3 ok (by omega) (by omega) s4 s5 (by omega) s2, bd_s, f1, bd_s, slack9 ok (by omega) (by omega) (show k < 4 by omega) hsv s4 s5 (by omega) s2 s3 (by rw [f4.2 2 (by simp), m2]; exact q2) f2 f3, bd_s]
            exact ⟨_, _, _, rfl, rfl, (h.of g3 g4 g2).fr f4 (by simp) (by simp) (by simp) (by simp), f4⟩
          · rw [e1, e2, bd_s, bd_s, if_pos rfl, if_pos rfl]; exact ⟨_, _, _, rfl, rfl, h, fr0⟩
        · rw [e1, e2, bd_s, bd_s, if_pos rfl, if_pos rfl]; exact ⟨_, _, _, rfl, rfl, h, fr0⟩
      · rw [e1, e2, bd_s, bd_s, if_pos rfl, if_pos rfl]; exact ⟨_, _, _, rfl, rfl, h, fr0⟩
    · rw [e1, e2, bd_s, bd_s, if_pos rfl, if_pos rfl]; exact ⟨_, _, _, rfl, rfl, h, fr0⟩
  · rw [e1, e2, bd_s, bd_s, if_pos rfl, if_pos rfl]; exact ⟨_, _, _, rfl, rfl, h, fr0⟩
/-- all strikes from a CELL are ready -/
def kn (sp dr me : Nat → Nat) (b A : Nat) (ua : St) : Prop := ∀ k T, k < 4 → T < 16 → ua.2.2 ((k * 16 + A) * 16 + T) = lN (pathN (sp k) (dr k) (me k) b A T)
theorem wof0 {sp dr me : Nat → Nat} {b A : Nat} (hA : A < 16) {ua : St} (h : RAp sp dr me b ua) : ∃ ua', f_X0_workOutFrom (nI A) ua = some ua' ∧ RAp sp dr me b ua' ∧ ua'.1 = ua.1 ∧ ua'.2.1 = ua.2.1 ∧ kn sp dr me b A ua' ∧ ∀ A', A' < 16 → kn sp dr me b A' ua → kn sp dr me b A' ua' := by
  have loop : ∀ (q i fuel : Nat) (v : St), i + q = 64 → q < fuel → RAp sp dr me b v → (∀ s, s < i → v.2.2 ((s / 16 * 16 + A) * 16 + s % 16) = lN (pathN (sp (s / 16)) (dr (s / 16)) (me (s / 16)) b A (s % 16))) → ∃ ua', f_X0_workOutFrom_2 fuel (nI A) (nI i) v = some ua' ∧ RAp sp dr me b ua' ∧ ua'.1 = v.1 ∧ ua'.2.1 = v.2.1 ∧ (∀ s, s < 64 → ua'.2.2 ((s / 16 * 16 + A) * 16 + s % 16) = lN (pathN (sp (s / 16)) (dr (s / 16)) (me (s / 16)) b A (s % 16))) ∧ ∀ A', A' < 16 → kn sp dr me b A' v → kn sp dr me b A' ua' := by
    intro q
    induction q with
    | zero =>
      intro i fuel v hi hf hp hs
      obtain ⟨f, rfl⟩ : ∃ f, fuel = f + 1 := ⟨fuel - 1, by omega⟩
      have : i = 64 := by omega
      subst this
      rw [f_X0_workOutFrom_2, if_pos (by decide)]
      exact ⟨v, rfl, hp, rfl, rfl, hs, fun _ _ x => x⟩
    | succ q ih =>
      intro i fuel v hi hf hp hs
      obtain ⟨f, rfl⟩ : ∃ f, fuel = f + 1 := ⟨fuel - 1, by omega⟩
      obtain ⟨w, g1, g2, g3, g4, g5, g6⟩ := pathOf0 hp (k := i / 16) (A := A) (T := i % 16) (by omega) hA (by omega)
      rw [f_X0_workOutFrom_2, if_neg (show ¬ (64 : Int32) ≤ nI i from nI_ge (b := 64) (by omega) (by decide)), show (16 : Int32) = nI 16 from rfl, nI_mod (by omega) (by decide), nI_div (by omega) (by decide), g1, bd2_s, nm, nI_1]
      obtain ⟨u, k1, k2, k3, k4, k5, k6⟩ := ih (i + 1) f w (by omega) (by omega) g2 (fun s hs1 => by
        by_cases e : s = i
        · subst e; exact g5
        · exact g6 (s / 16) A (s % 16) (by omega) hA (by omega) (hs s (by omega)))
      exact ⟨u, k1, k2, by rw [k3, g3], by rw [k4, g4], k5, fun A' hA' x => k6 A' hA' (fun k' T' h1 h2 => g6 k' A' T' h1 hA' h2 (x k' T' h1 h2))⟩
  obtain ⟨u, k1, k2, k3, k4, k5, k6⟩ := loop 64 0 FU ua (by omega) (by unfold FU; omega) h (fun s hs => by omega)
  rw [nI_0] at k1
  refine ⟨u, k1, k2, k3, k4, fun k T h1 h2 => ?_, k6⟩
  have := k5 (k * 16 + T) (by omega)
  rw [show (k * 16 + T) / 16 = k by omega, show (k * 16 + T) % 16 = T by omega] at this
  exact this
theorem known0 {sp dr me : Nat → Nat} {b A : Nat} (hA : A < 16) {ua : St} (h : kn sp dr me b A ua) {s : Nat} (hs : s < 64) : f_X0_knownPath ua (nI A) (nI s) = some (lN (pathN (sp (s / 16)) (dr (s / 16)) (me (s / 16)) b A (s % 16))) := by
  rw [f_X0_knownPath, show (16 : Int32) = nI 16 from rfl, nI_mod (by omega) (by decide), nI_div (by omega) (by decide), nI_mul, nI_add, nI_mul, nI_add, ld_ok (okN (by omega) (by decide)), nI_cl (by omega), h (s / 16) (s % 16) (by omega) (by omega)]
/-- BEST STRIKE, said once -/
def pkS (sl : Nat → Int32) (i : Nat) (o : Option Nat) : Option Nat := match o with
  | none => some i
  | some j => if sl j ≤ sl i then some j else some i
def bS (sl : Nat → Int32) (net : Nat → Bool) : Nat → Nat → Option Nat → Option Nat
  | 0, _, o => o
  | q + 1, i, o => bS sl net q (i + 1) (if net i then o else pkS sl i o)
def enc (o : Option Nat) : Int32 := match o with
  | none => -1
  | some j => nI j
def lst (sl : Nat → Int32) (o : Option Nat) : Int32 := match o with
  | none => -100
  | some j => sl j
def gdO (net : Nat → Bool) (i : Nat) (o : Option Nat) : Prop := ∀ j, o = some j → j < i ∧ net j = false
section ST
variable {sp dr me : Nat → Nat} {b A p st rc c : Nat}
def slS (sp dr me : Nat → Nat) (b A st rc c s : Nat) : Int32 := slkV (sp (s / 16)) (dr (s / 16)) (me (s / 16)) b A (s % 16) st rc c
def ntS (sp dr me : Nat → Nat) (b A s : Nat) : Bool := decide (fmN (sp (s / 16)) (dr (s / 16)) (me (s / 16)) b A (s % 16) = 0)
theorem best3 (hA : A < 16) {ua us : St} (hp : RAp sp dr me b ua) (hk : kn sp dr me b A ua) (h3 : us.2.1 3 p = nI st) (h1 : us.2.1 1 p = nI rc) (hp8 : p < 8) (hst : st ≤ 20) : f_X3_bestStrike ua us (nI A) (nI p) (nI c) = some (enc (bS (slS sp dr me b A st rc c) (ntS sp dr me b A) 64 0 none)) := by
  have loop : ∀ (q i fuel : Nat) (o : Option Nat) (l5 : Int32), i + q = 64 → q < fuel → (∀ j, o = some j → l5 = slS sp dr me b A st rc c j ∧ j < 64) → f_X3_bestStrike_9 ua us fuel (nI A) (nI p) (nI c) (enc o) l5 (nI i) = some (enc (bS (slS sp dr me b A st rc c) (ntS sp dr me b A) q i o)) := by
    intro q
    induction q with
    | zero =>
      intro i fuel o l5 hi hf ho
      obtain ⟨f, rfl⟩ : ∃ f, fuel = f + 1 := ⟨fuel - 1, by omega⟩
      have : i = 64 := by omega
      subst this
      rw [f_X3_bestStrike_9, if_pos (by decide)]; rfl
    | succ q ih =>
      intro i fuel o l5 hi hf ho
      obtain ⟨f, rfl⟩ : ∃ f, fuel = f + 1 := ⟨fuel - 1, by omega⟩
      obtain ⟨ok, -⟩ := hp.2.1 (i / 16) (by omega)
      rw [f_X3_bestStrike_9, if_neg (show ¬ (64 : Int32) ≤ nI i from nI_ge (b := 64) (by omega) (by decide)), known0 hA hk (by omega), bd_s, net0 ok hA (by omega), bd_s, bS]
      by_cases n : fmN (sp (i / 16)) (dr (i / 16)) (me (i / 16)) b A (i % 16) = 0
      · have en : ntS sp dr me b A i = true := by simp [ntS, n]
        rw [if_pos n, if_neg zne1, f_X3_bestStrike_70, nm, nI_1, en, if_pos rfl]
        exact ih (i + 1) f o l5 (by omega) (by omega) ho
      · have en : ntS sp dr me b A i = false := by simp [ntS, n]
        rw [if_neg n, if_pos rfl, slack3 ok hA (by omega) h3 h1 hp8 hst, bd_s, en, if_neg (show ¬ (false = true) by decide)]
        have take : f_X3_bestStrike_62 ua us (f_X3_bestStrike_9 ua us f) (nI A) (nI p) (nI c) (nI i) (slS sp dr me b A st rc c i) = some (enc (bS (slS sp dr me b A st rc c) (ntS sp dr me b A) q (i + 1) (some i))) := by
          rw [f_X3_bestStrike_62, f_X3_bestStrike_70, nm, nI_1]
          exact ih (i + 1) f (some i) _ (by omega) (by omega) (fun j hj => by cases hj; exact ⟨rfl, by omega⟩)
        cases o with
        | none => rw [show enc none = -1 from rfl, if_pos rfl]; exact take
        | some j =>
          obtain ⟨e1, e2⟩ := ho j rfl
          rw [show enc (some j) = nI j from rfl, if_neg (nI_inj_m1 (by omega)), e1]
          show (if slS sp dr me b A st rc c j ≤ slS sp dr me b A st rc c i then _ else _) = _
          by_cases cc : slS sp dr me b A st rc c j ≤ slS sp dr me b A st rc c i
          · have ek : pkS (slS sp dr me b A st rc c) i (some j) = some j := by simp [pkS, cc]
            rw [if_pos cc, ek, f_X3_bestStrike_70, nm, nI_1]
            exact ih (i + 1) f (some j) _ (by omega) (by omega) (fun j' hj => by cases hj; exact ⟨rfl, e2⟩)
          · have ek : pkS (slS sp dr me b A st rc c) i (some j) = some i := by simp [pkS, cc]
            rw [if_neg cc, ek]
            exact take
  exact loop 64 0 FU none 0 (by omega) (by unfold FU; omega) (fun j hj => by cases hj)
theorem bS_good (sl : Nat → Int32) (net : Nat → Bool) : ∀ (q i : Nat) (o : Option Nat), gdO net i o → gdO net (i + q) (bS sl net q i o) := by
  intro q
  induction q with
  | zero => intro i o h; exact h
  | succ q ih =>
    intro i o h
    rw [bS, show i + (q + 1) = i + 1 + q by omega]
    refine ih (i + 1) _ ?_
    by_cases n : net i = true
    · rw [if_pos n]; intro j hj; obtain ⟨a, b⟩ := h j hj; exact ⟨by omega, b⟩
    · have n' : net i = false := by simpa using n
      rw [if_neg n]
      cases o with
      | none => intro j hj; unfold pkS at hj; cases hj; exact ⟨by omega, n'⟩
      | some k =>
        obtain ⟨a, b⟩ := h k rfl
        unfold pkS
        dsimp only
        split
        · intro j hj; cases hj; exact ⟨by omega, b⟩
        · intro j hj; cases hj; exact ⟨by omega, n'⟩
theorem least3 (hA : A < 16) {ua us : St} (hp : RAp sp dr me b ua) (hk : kn sp dr me b A ua) (h3 : us.2.1 3 p = nI st) (h1 : us.2.1 1 p = nI rc) (hp8 : p < 8) (hst : st ≤ 20) : f_X3_leastSlack ua us (nI A) (nI p) (nI c) = some (lst (slS sp dr me b A st rc c) (bS (slS sp dr me b A st rc c) (ntS sp dr me b A) 64 0 none)) := by
  rw [f_X3_leastSlack, best3 hA hp hk h3 h1 hp8 hst, bd_s]
  have hg := bS_good (slS sp dr me b A st rc c) (ntS sp dr me b A) 64 0 none (fun j hj => by cases hj)
  cases ho : bS (slS sp dr me b A st rc c) (ntS sp dr me b A) 64 0 none with
  | none => rw [show enc none = -1 from rfl, if_pos rfl]; rfl
  | some j =>
    obtain ⟨a, -⟩ := hg j ho
    obtain ⟨ok, -⟩ := hp.2.1 (j / 16) (by omega)
    rw [show enc (some j) = nI j from rfl, if_neg (nI_inj_m1 (by omega)), known0 hA hk (by omega), bd_s, slack3 ok hA (by omega) h3 h1 hp8 hst, bd_s]
    rfl
end ST

section ST9
variable {sp dr me : Nat → Nat} {b A p st rc c : Nat}
theorem sl_ne (hok : ∀ k, k < 4 → okF (sp k) (dr k) (me k) b) (hA : A < 16) (hst : st ≤ 20) (hrc : rc ≤ 2) (hc : c < 16) {s : Nat} (hs : s < 64) (hn : ntS sp dr me b A s = false) : -3 ≤ (slS sp dr me b A st rc c s).toInt := by
  refine slkV_ne (hok (s / 16) (by omega)) hA (by omega) hst hrc hc ?_
  simpa [ntS] using hn
theorem ne100 {x : Int32} (h : -3 ≤ x.toInt) : ¬ x = -100 := by
  intro e; subst e; exact absurd h (by decide)
/-- one strike of the reference: flown and measured -/
theorem shot9 (hok : ∀ k, k < 4 → okF (sp k) (dr k) (me k) b) (hA : A < 16) {us um : St} (hs : RS us um) (h0 : ∀ k, k < 4 → um.2.1 0 k = nI (sp k) ∧ um.2.1 1 k = nI (dr k) ∧ um.2.1 2 k = nI (me k)) (hb : um.1 3 = nI b) (h3 : us.2.1 3 p = nI st) (h1 : us.2.1 1 p = nI rc) (hp8 : p < 8) (hst : st ≤ 20) (hrc : rc ≤ 2) {s : Nat} (hs64 : s < 64) : ∃ v, f_X9_fly (nI (s / 16)) (nI A) (nI (s % 16)) um = some v ∧ f_X9_slackOf v (nI p) (nI c) (nI (s / 16)) = some (slS sp dr me b A st rc c s) ∧ Fr [8] [7] um v := by
  obtain ⟨x0, x1, x2⟩ := h0 (s / 16) (by omega)
  obtain ⟨v, f1, f2, f3, f4⟩ := fly9 (hok (s / 16) (by omega)) hA (show s % 16 < 16 by omega) (show s / 16 < 4 by omega) x0 x1 hb
  exact ⟨v, f1, slack9 (hok (s / 16) (by omega)) hA (by omega) (by omega) (hs.fr f4 (by simp) (by simp) (by simp)) h3 h1 hp8 hst hrc (by rw [f4.2 2 (by simp)]; exact x2) f2 f3, f4⟩
theorem strike9 (hok : ∀ k, k < 4 → okF (sp k) (dr k) (me k) b) (hA : A < 16) {us um : St} (hs : RS us um) (h0 : ∀ k, k < 4 → um.2.1 0 k = nI (sp k) ∧ um.2.1 1 k = nI (dr k) ∧ um.2.1 2 k = nI (me k)) (hb : um.1 3 = nI b) (h3 : us.2.1 3 p = nI st) (h1 : us.2.1 1 p = nI rc) (hp8 : p < 8) (hst : st ≤ 20) (hrc : rc ≤ 2) (hc : c < 16) (w : Int32) : ∃ um', f_X9_strike_47 FU (nI A) (nI p) (nI c) w (-1) (-100) 0 um = some ((if w = 0 then enc (bS (slS sp dr me b A st rc c) (ntS sp dr me b A) 64 0 none) else lst (slS sp dr me b A st rc c) (bS (slS sp dr me b A st rc c) (ntS sp dr me b A) 64 0 none)), um') ∧ Fr [8] [7] um um' := by
  have loop : ∀ (q i fuel : Nat) (o : Option Nat) (v : St), i + q = 64 → q < fuel → gdO (ntS sp dr me b A) i o → Fr [8] [7] um v → ∃ um', f_X9_strike_47 fuel (nI A) (nI p) (nI c) w (enc o) (lst (slS sp dr me b A st rc c) o) (nI i) v = some ((if w = 0 then enc (bS (slS sp dr me b A st rc c) (ntS sp dr me b A) q i o) else lst (slS sp dr me b A st rc c) (bS (slS sp dr me b A st rc c) (ntS sp dr me b A) q i o)), um') ∧ Fr [8] [7] um um' := by
    intro q
    induction q with
    | zero =>
      intro i fuel o v hi hf hg hv
      obtain ⟨f, rfl⟩ : ∃ f, fuel = f + 1 := ⟨fuel - 1, by omega⟩
      have : i = 64 := by omega
      subst this
      rw [f_X9_strike_47, if_pos (by decide), bS]
      by_cases z : w = 0
      · rw [if_pos z, if_pos z]; exact ⟨v, rfl, hv⟩
      · rw [if_neg z, if_neg z]; exact ⟨v, rfl, hv⟩
    | succ q ih =>
      intro i fuel o v hi hf hg hv
      obtain ⟨f, rfl⟩ : ∃ f, fuel = f + 1 := ⟨fuel - 1, by omega⟩
      obtain ⟨x, f1, f2, f3⟩ := shot9 (c := c) hok hA (um := v) (hs.fr hv (by simp) (by simp) (by simp)) (fun k hk => by rw [hv.2 0 (by simp), hv.2 1 (by simp), hv.2 2 (by simp)]; exact h0 k hk) (by rw [hv.1 3 (by simp)]; exact hb) h3 h1 hp8 hst hrc (show i < 64 by omega)
      rw [f_X9_strike_47, if_neg (show ¬ (64 : Int32) ≤ nI i from nI_ge (b := 64) (by omega) (by decide)), show (16 : Int32) = nI 16 from rfl, nI_mod (by omega) (by decide), nI_div (by omega) (by decide), f1, bd_s, f2, bd_s, bS]
      have hx := hv.trans f3
      by_cases n : ntS sp dr me b A i = true
      · have e100 : slS sp dr me b A st rc c i = -100 := by
          unfold slS slkV; rw [if_pos (by simpa [ntS] using n)]
        rw [if_pos e100, f_X9_strike_110, nm, nI_1, if_pos n]
        exact ih (i + 1) f o x (by omega) (by omega) (fun j hj => by obtain ⟨a, b⟩ := hg j hj; exact ⟨by omega, b⟩) hx
      · have n' : ntS sp dr me b A i = false := by simpa using n
        have ne := ne100 (sl_ne hok hA hst hrc hc (show i < 64 by omega) n')
        rw [if_neg ne, if_neg n]
        have take : ∃ um', f_X9_strike_102 (f_X9_strike_47 f) (nI A) (nI p) (nI c) w (nI i) (slS sp dr me b A st rc c i) x = some ((if w = 0 then enc (bS (slS sp dr me b A st rc c) (ntS sp dr me b A) q (i + 1) (some i)) else lst (slS sp dr me b A st rc c) (bS (slS sp dr me b A st rc c) (ntS sp dr me b A) q (i + 1) (some i))), um') ∧ Fr [8] [7] um um' := by
          rw [f_X9_strike_102, f_X9_strike_110, nm, nI_1]
          exact ih (i + 1) f (some i) x (by omega) (by omega) (fun j hj => by cases hj; exact ⟨by omega, n'⟩) hx
        cases o with
        | none => rw [show enc none = -1 from rfl, if_pos rfl]; exact take
        | some j =>
          obtain ⟨a, -⟩ := hg j rfl
          rw [show enc (some j) = nI j from rfl, if_neg (nI_inj_m1 (by omega)), show lst (slS sp dr me b A st rc c) (some j) = slS sp dr me b A st rc c j from rfl]
          by_cases cc : slS sp dr me b A st rc c j ≤ slS sp dr me b A st rc c i
          · have ek : pkS (slS sp dr me b A st rc c) i (some j) = some j := by simp [pkS, cc]
            rw [if_pos cc, ek, f_X9_strike_110, nm, nI_1]
            exact ih (i + 1) f (some j) x (by omega) (by omega) (fun j' hj => by obtain ⟨a, b⟩ := hg j' hj; exact ⟨by omega, b⟩) hx
          · have ek : pkS (slS sp dr me b A st rc c) i (some j) = some i := by simp [pkS, cc]
            rw [if_neg cc, ek]
            exact take
  exact loop 64 0 FU none um (by omega) (by unfold FU; omega) (fun j hj => by cases hj) ((Fr.refl um).mono (by simp) (by simp))
theorem least9 (hok : ∀ k, k < 4 → okF (sp k) (dr k) (me k) b) (hA : A < 16) {us um : St} (hs : RS us um) (h0 : ∀ k, k < 4 → um.2.1 0 k = nI (sp k) ∧ um.2.1 1 k = nI (dr k) ∧ um.2.1 2 k = nI (me k)) (hb : um.1 3 = nI b) (h3 : us.2.1 3 p = nI st) (h1 : us.2.1 1 p = nI rc) (hp8 : p < 8) (hst : st ≤ 20) (hrc : rc ≤ 2) (hc : c < 16) : ∃ um', f_X9_leastSlack (nI p) (nI c) (nI A) um = some (lst (slS sp dr me b A st rc c) (bS (slS sp dr me b A st rc c) (ntS sp dr me b A) 64 0 none), um') ∧ Fr [8] [7] um um' := by
  have loop : ∀ (q i fuel : Nat) (o : Option Nat) (v : St), i + q = 64 → q < fuel → gdO (ntS sp dr me b A) i o → Fr [8] [7] um v → ∃ um', f_X9_leastSlack_7 fuel (nI p) (nI c) (nI A) (lst (slS sp dr me b A st rc c) o) (nI i) v = some (lst (slS sp dr me b A st rc c) (bS (slS sp dr me b A st rc c) (ntS sp dr me b A) q i o), um') ∧ Fr [8] [7] um um' := by
    intro q
    induction q with
    | zero =>
      intro i fuel o v hi hf hg hv
      obtain ⟨f, rfl⟩ : ∃ f, fuel = f + 1 := ⟨fuel - 1, by omega⟩
      have : i = 64 := by omega
      subst this
      rw [f_X9_leastSlack_7, if_pos (by decide), bS]
      exact ⟨v, rfl, hv⟩
    | succ q ih =>
      intro i fuel o v hi hf hg hv
      obtain ⟨f, rfl⟩ : ∃ f, fuel = f + 1 := ⟨fuel - 1, by omega⟩
      obtain ⟨x, f1, f2, f3⟩ := shot9 (c := c) hok hA (um := v) (hs.fr hv (by simp) (by simp) (by simp)) (fun k hk => by rw [hv.2 0 (by simp), hv.2 1 (by simp), hv.2 2 (by simp)]; exact h0 k hk) (by rw [hv.1 3 (by simp)]; exact hb) h3 h1 hp8 hst hrc (show i < 64 by omega)
      rw [f_X9_leastSlack_7, if_neg (show ¬ (64 : Int32) ≤ nI i from nI_ge (b := 64) (by omega) (by decide)), show (16 : Int32) = nI 16 from rfl, nI_mod (by omega) (by decide), nI_div (by omega) (by decide), f1, bd_s, f2, bd_s, bS]
      have hx := hv.trans f3
      by_cases n : ntS sp dr me b A i = true
      · have e100 : slS sp dr me b A st rc c i = -100 := by
          unfold slS slkV; rw [if_pos (by simpa [ntS] using n)]
        rw [if_pos e100, f_X9_leastSlack_68, f_X9_leastSlack_70, nm, nI_1, if_pos n]
        exact ih (i + 1) f o x (by omega) (by omega) (fun j hj => by obtain ⟨a, b⟩ := hg j hj; exact ⟨by omega, b⟩) hx
      · have n' : ntS sp dr me b A i = false := by simpa using n
        have ne := ne100 (sl_ne hok hA hst hrc hc (show i < 64 by omega) n')
        rw [if_neg ne, if_neg n]
        have take : ∃ um', f_X9_leastSlack_63 (f_X9_leastSlack_7 f) (nI p) (nI c) (nI A) (nI i) (slS sp dr me b A st rc c i) x = some (lst (slS sp dr me b A st rc c) (bS (slS sp dr me b A st rc c) (ntS sp dr me b A) q (i + 1) (some i)), um') ∧ Fr [8] [7] um um' := by
          rw [f_X9_leastSlack_63, f_X9_leastSlack_70, nm, nI_1]
          exact ih (i + 1) f (some i) x (by omega) (by omega) (fun j hj => by cases hj; exact ⟨by omega, n'⟩) hx
        cases o with
        | none => rw [show lst (slS sp dr me b A st rc c) none = -100 from rfl, if_pos rfl]; exact take
        | some j =>
          obtain ⟨a, nj⟩ := hg j rfl
          have nej := ne100 (sl_ne (st := st) (rc := rc) (c := c) hok hA hst hrc hc (show j < 64 by omega) nj)
          rw [show lst (slS sp dr me b A st rc c) (some j) = slS sp dr me b A st rc c j from rfl, if_neg nej]
          by_cases cc : slS sp dr me b A st rc c j ≤ slS sp dr me b A st rc c i
          · have ek : pkS (slS sp dr me b A st rc c) i (some j) = some j := by simp [pkS, cc]
            rw [if_pos cc, ek, f_X9_leastSlack_68, f_X9_leastSlack_70, nm, nI_1]
            exact ih (i + 1) f (some j) x (by omega) (by omega) (fun j' hj => by obtain ⟨a, b⟩ := hg j' hj; exact ⟨by omega, b⟩) hx
          · have ek : pkS (slS sp dr me b A st rc c) i (some j) = some i := by simp [pkS, cc]
            rw [if_neg cc, ek]
            exact take
  rw [f_X9_leastSlack]
  exact loop 64 0 FU none um (by omega) (by unfold FU; omega) (fun j hj => by cases hj) ((Fr.refl um).mono (by simp) (by simp))
end ST9
theorem RA.m {ua um : St} (h : RA ua um) {sp dr me : Nat → Nat} {b : Nat} (hp : RAp sp dr me b ua) : (∀ k, k < 4 → um.2.1 0 k = nI (sp k) ∧ um.2.1 1 k = nI (dr k) ∧ um.2.1 2 k = nI (me k)) ∧ um.1 3 = nI b ∧ ∀ k, k < 4 → okF (sp k) (dr k) (me k) b := by
  obtain ⟨m0', m1, m2, m3, -⟩ := h
  refine ⟨fun k hk => ?_, by rw [m3]; exact hp.1, fun k hk => (hp.2.1 k hk).1⟩
  obtain ⟨-, x0, x1, x2⟩ := hp.2.1 k hk
  exact ⟨by rw [m0']; exact x0, by rw [m1]; exact x1, by rw [m2]; exact x2⟩
theorem s_strike {ua us um : St} (h : RA ua um) (hs : RS us um) (p0 p1 p2 p3 : Int32) : ∃ r ua' um', f_X8_strike us p0 p1 p2 p3 ua = some (r, ua') ∧ f_X9_strike p0 p1 p2 p3 um = some (r, um') ∧ RA ua' um' ∧ Fr [8] [7] um um' := by
  have fr0 : Fr [8] [7] um um := (Fr.refl um).mono (by simp) (by simp)
  rw [f_X8_strike, f_X9_strike]
  rcases gC p0 with ⟨a0, b0, e1, e2⟩ | ⟨e1, e2⟩
  · rw [e1, e2, bd_s, bd_s, if_neg zne1, if_neg zne1]
    rcases gP p1 with ⟨a1, b1, e1, e2⟩ | ⟨e1, e2⟩
    · rw [e1, e2, bd_s, bd_s, if_neg zne1, if_neg zne1]
      rcases gC p2 with ⟨a2, b2, e1, e2⟩ | ⟨e1, e2⟩
      · rw [e1, e2, bd_s, bd_s, if_neg zne1, if_neg zne1]
        rcases gd p3 0 1 with ⟨a3, b3, e1, e2⟩ | ⟨-, e1, e2⟩
        · rw [e1, e2, bd_s, bd_s, if_neg zne1, if_neg zne1]
          obtain ⟨A, hA, rfl⟩ := asN a0 b0 (M := 15) (by decide)
          obtain ⟨p, hp, rfl⟩ := asN a1 b1 (M := 7) (by decide)
          obtain ⟨c, hc, rfl⟩ := asN a2 b2 (M := 15) (by decide)
          obtain ⟨sp, dr, me, b, hpp⟩ := h.p
          obtain ⟨x1, x2, x3⟩ := h.m hpp
          obtain ⟨st, rc, s1, s2, s3, s4, s5⟩ := hs.n (show p < 8 by omega)
          obtain ⟨u, g1, g2, g3, g4, g5, -⟩ := wof0 (show A < 16 by omega) hpp
          obtain ⟨v, k1, k2⟩ := strike9 (c := c) x3 (show A < 16 by omega) hs x1 x2 s4 s5 (show p < 8 by omega) s2 s3 (by omega) p3
          rw [g1, bd_s, k1]
          have hR : RA u v := (h.of g3 g4 g2).fr k2 (by simp) (by simp) (by simp) (by simp)
          by_cases z : p3 = 0
          · rw [if_pos z, if_pos z, best3 (by omega) g2 g5 s4 s5 (by omega) s2, bd_s]; exact ⟨_, _, _, rfl, rfl, hR, k2⟩
          · rw [if_neg z, if_neg z, least3 (by omega) g2 g5 s4 s5 (by omega) s2, bd_s]; exact ⟨_, _, _, rfl, rfl, hR, k2⟩
        · rw [e1, e2, bd_s, bd_s, if_pos rfl, if_pos rfl]; exact ⟨_, _, _, rfl, rfl, h, fr0⟩
      · rw [e1, e2, bd_s, bd_s, if_pos rfl, if_pos rfl]; exact ⟨_, _, _, rfl, rfl, h, fr0⟩
    · rw [e1, e2, bd_s, bd_s, if_pos rfl, if_pos rfl]; exact ⟨_, _, _, rfl, rfl, h, fr0⟩
  · rw [e1, e2, bd_s, bd_s, if_pos rfl, if_pos rfl]; exact ⟨_, _, _, rfl, rfl, h, fr0⟩
