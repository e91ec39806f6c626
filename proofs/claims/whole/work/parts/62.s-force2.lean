section FX
variable {F L : Nat → Nat → Nat} {C : Nat → Nat → Nat → Nat} {ua us ud : St} {p q stp rcp stq rcq : Nat}
theorem widen_b (hB : BD F L C) (hp : PL us p stp rcp) (hq : PL us q stq rcq) {W : Nat → Nat → Prop} (hk : ∀ a, a < 16 → KN F L C ua a) :
    ∀ (n i fuel : Nat) (g : Int32) (ud : St), i + n = 16 → n < fuel → MW ud 3 (fun d b => HD F L C stp rcp stq W b d) → (∀ a, a < i → mk (ud.2.1 2 a) (NX F L C stp rcp stq rcq W a)) → (∀ a, i ≤ a → a < 16 → mk (ud.2.1 2 a) (W a)) → (g = 1 ∨ (g = 0 ∧ ∀ a, a < i → ∀ c, c < 16 → (NX F L C stp rcp stq rcq W a c ↔ W a c))) →
    ∃ g' ud', f_X3_widenWon_32 ua us fuel (nI p) (nI q) g (nI i) ud = some (g', ud') ∧ MW ud' 2 (NX F L C stp rcp stq rcq W) ∧ (g' = 1 ∨ (g' = 0 ∧ ∀ a, a < 16 → ∀ c, c < 16 → (NX F L C stp rcp stq rcq W a c ↔ W a c))) := by
  intro n
  induction n with
  | zero =>
    intro i fuel g ud hi hf hH h1 h2 hg
    obtain ⟨f, rfl⟩ : ∃ f, fuel = f + 1 := ⟨fuel - 1, by omega⟩
    have : i = 16 := by omega
    subst this
    rw [f_X3_widenWon_32, if_pos (by decide)]
    rcases hg with rfl | ⟨rfl, h⟩
    · rw [bk_1]; exact ⟨_, _, rfl, h1, Or.inl rfl⟩
    · rw [bk_0]; exact ⟨_, _, rfl, h1, Or.inr ⟨rfl, h⟩⟩
  | succ n ih =>
    intro i fuel g ud hi hf hH h1 h2 hg
    obtain ⟨f, rfl⟩ : ∃ f, fuel = f + 1 := ⟨fuel - 1, by omega⟩
    have ok : okI (nI i) 16 := okN (by omega) (by decide)
    have cl : (nI i).toNatClampNeg = i := nI_cl (by omega)
    obtain ⟨x, x1, x2⟩ := forced3 hB hp hq hH (a := i) (by omega) (hk i (by omega))
    have hw := h2 i (Nat.le_refl _) (by omega)
    have hn : mk (ud.2.1 2 i ||| x) (NX F L C stp rcp stq rcq W i) := mk_or hw x2
    have he := mk_inj hn hw
    rw [f_X3_widenWon_32, if_neg (show ¬ (16 : Int32) ≤ nI i from nI_ge (b := 16) (by omega) (by decide)), ld_ok ok, cl, x1, bd_s, nm]
    have go : ∀ g', (g' = 1 ∨ (g' = 0 ∧ g = 0 ∧ ∀ c, c < 16 → (NX F L C stp rcp stq rcq W i c ↔ W i c))) → ∃ g2 ud', f_X3_widenWon_78 ua us (f_X3_widenWon_32 ua us f) (nI p) (nI q) (nI i) (ud.2.1 2 i ||| x) g' ud = some (g2, ud') ∧ MW ud' 2 (NX F L C stp rcp stq rcq W) ∧ (g2 = 1 ∨ (g2 = 0 ∧ ∀ a, a < 16 → ∀ c, c < 16 → (NX F L C stp rcp stq rcq W a c ↔ W a c))) := by
      intro g' hg'
      rw [f_X3_widenWon_78, sti_ok ok, cl, nm, nI_1]
      refine ih (i + 1) f g' _ (by omega) (by omega) ?_ ?_ ?_ ?_
      · intro a ha
        rw [st_r_2, up_ne _ _ (by decide)]
        exact hH a ha
      · intro a ha
        rw [st_r_2, up_eq]
        by_cases e : a = i
        · subst e; rw [upd_eq]; exact hn
        · rw [upd_ne _ _ e]; exact h1 a (by omega)
      · intro a ha ha2
        rw [st_r_2, up_eq, upd_ne _ _ (by omega)]
        exact h2 a (by omega) ha2
      · rcases hg' with h | ⟨h, h', h''⟩
        · exact Or.inl h
        · refine Or.inr ⟨h, fun a ha c hc => ?_⟩
          by_cases e : a = i
          · subst e; exact h'' c hc
          · rcases hg with z | ⟨_, z⟩
            · rw [h'] at z; exact absurd z.symm zne1
            · exact z a (by omega) c hc
    by_cases z : g = 0
    · rw [if_pos z, ld_ok ok, cl]
      by_cases y : (ud.2.1 2 i ||| x) = ud.2.1 2 i
      · rw [if_pos y]; exact go 0 (Or.inr ⟨rfl, z, he.mp y⟩)
      · rw [if_neg y, f_X3_widenWon_73]; exact go 1 (Or.inl rfl)
    · rw [if_neg z, f_X3_widenWon_73]; exact go 1 (Or.inl rfl)
theorem widen_a (hB : BD F L C) (hp : PL us p stp rcp) (hq : PL us q stq rcq) {W : Nat → Nat → Prop} (hk : ∀ a, a < 16 → KN F L C ua a) :
    ∀ (n i fuel : Nat) (ud : St), i + n = 16 → n < fuel → MW ud 2 W → (∀ a, a < i → mk (ud.2.1 3 a) (fun b => HD F L C stp rcp stq W b a)) →
    ∃ g' ud', f_X3_widenWon_2 ua us fuel (nI p) (nI q) (nI i) ud = some (g', ud') ∧ MW ud' 2 (NX F L C stp rcp stq rcq W) ∧ (g' = 1 ∨ (g' = 0 ∧ ∀ a, a < 16 → ∀ c, c < 16 → (NX F L C stp rcp stq rcq W a c ↔ W a c))) := by
  intro n
  induction n with
  | zero =>
    intro i fuel ud hi hf hW hH
    obtain ⟨f, rfl⟩ : ∃ f, fuel = f + 1 := ⟨fuel - 1, by omega⟩
    have : i = 16 := by omega
    subst this
    rw [f_X3_widenWon_2, if_pos (by decide)]
    exact widen_b hB hp hq hk 16 0 FU 0 ud (by omega) (by unfold FU; omega) hH (fun a ha => absurd ha (by omega)) (fun a _ ha => hW a ha) (Or.inr ⟨rfl, fun a ha => absurd ha (by omega)⟩)
  | succ n ih =>
    intro i fuel ud hi hf hW hH
    obtain ⟨f, rfl⟩ : ∃ f, fuel = f + 1 := ⟨fuel - 1, by omega⟩
    have ok : okI (nI i) 16 := okN (by omega) (by decide)
    have cl : (nI i).toNatClampNeg = i := nI_cl (by omega)
    obtain ⟨x, x1, x2⟩ := held3 hB hp hq hW (d := i) (by omega) (hk i (by omega))
    rw [f_X3_widenWon_2, if_neg (show ¬ (16 : Int32) ≤ nI i from nI_ge (b := 16) (by omega) (by decide)), x1, bd_s, sti_ok ok, cl, nm, nI_1]
    refine ih (i + 1) f _ (by omega) (by omega) ?_ ?_
    · intro a ha
      rw [st_r_2, up_ne _ _ (by decide)]
      exact hW a ha
    · intro a ha
      rw [st_r_2, up_eq]
      by_cases e : a = i
      · subst e; rw [upd_eq]; exact x2
      · rw [upd_ne _ _ e]; exact hH a (by omega)
theorem widen3 (hB : BD F L C) (hp : PL us p stp rcp) (hq : PL us q stq rcq) {W : Nat → Nat → Prop} (hk : ∀ a, a < 16 → KN F L C ua a) (hW : MW ud 2 W) : ∃ g' ud', f_X3_widenWon ua us (nI p) (nI q) ud = some (g', ud') ∧ MW ud' 2 (NX F L C stp rcp stq rcq W) ∧ (g' = 1 ∨ (g' = 0 ∧ ∀ a, a < 16 → ∀ c, c < 16 → (NX F L C stp rcp stq rcq W a c ↔ W a c))) := by
  rw [f_X3_widenWon]
  exact widen_a hB hp hq hk 16 0 FU ud (by omega) (by unfold FU; omega) hW (fun a ha => absurd ha (by omega))
theorem NX_congr (hB : BD F L C) {W W' : Nat → Nat → Prop} (h : ∀ a, a < 16 → ∀ c, c < 16 → (W a c ↔ W' a c)) {a : Nat} (ha : a < 16) {c : Nat} (hc : c < 16) : NX F L C stp rcp stq rcq W a c → NX F L C stp rcp stq rcq W' a c := by
  rintro (h1 | ⟨s, s1, s2, j, j1, b, b1, b2, b3⟩)
  · exact Or.inl ((h a ha c hc).mp h1)
  · refine Or.inr ⟨s, s1, s2, j, j1, b, b1, b2, fun s' t1 t2 => ?_⟩
    have hd := ((hB a s ha s1).2 s2).2.2 j j1.1 j1.2.1
    obtain ⟨i, i1, i2⟩ := b3 s' t1 t2
    have he := ((hB _ s' hd t1).2 t2).2.2 i i1.1 i1.2.1
    exact ⟨i, i1, fun f f1 f2 => (h _ he f f1).mp (i2 f f1 f2)⟩
theorem WN_fix (hB : BD F L C) {k : Nat} (h : ∀ a, a < 16 → ∀ c, c < 16 → (WN F L C stp rcp stq rcq (k + 1) a c ↔ WN F L C stp rcp stq rcq k a c)) : ∀ m a, a < 16 → ∀ c, c < 16 → (WN F L C stp rcp stq rcq (k + m) a c ↔ WN F L C stp rcp stq rcq k a c) := by
  intro m
  induction m with
  | zero => intro a _ c _; exact Iff.rfl
  | succ m ih =>
    intro a ha c hc
    refine Iff.trans ?_ (h a ha c hc)
    exact ⟨NX_congr hB ih ha hc, NX_congr hB (fun a ha c hc => (ih a ha c hc).symm) ha hc⟩
theorem WN_mono {k a c : Nat} (h : W0 F L C stq rcq a c) : WN F L C stp rcp stq rcq k a c := by
  induction k with
  | zero => exact h
  | succ k ih => exact Or.inl ih
theorem force_l (hB : BD F L C) (hp : PL us p stp rcp) (hq : PL us q stq rcq) (hk : ∀ a, a < 16 → KN F L C ua a) {a c n : Nat} (ha : a < 16) (hc : c < 16) (hn : n ≤ 4) :
    ∀ (m w fuel : Nat) (g : Int32) (ud : St), w + m = n → m + 1 < fuel → 1 ≤ w → MW ud 2 (WN F L C stp rcp stq rcq (w - 1)) → (g = 1 ∨ (g = 0 ∧ ∀ a, a < 16 → ∀ c, c < 16 → (WN F L C stp rcp stq rcq (n - 1) a c ↔ WN F L C stp rcp stq rcq (w - 1) a c))) →
    ∃ r ud', f_X3_canForce_77 us fuel (nI p) (nI q) (nI a) (nI c) (nI n) g (nI (w + 1)) ua ud = some (r, ua, ud') ∧ ((r = 1 ∧ WN F L C stp rcp stq rcq (n - 1) a c) ∨ (r = 0 ∧ ¬ WN F L C stp rcp stq rcq (n - 1) a c)) := by
  intro m
  have fin : ∀ (ud : St) (W : Nat → Nat → Prop), MW ud 2 W → (W a c ↔ WN F L C stp rcp stq rcq (n - 1) a c) → ∃ r ud', f_X3_canForce_103 us (nI a) (nI c) ua ud = some (r, ua, ud') ∧ ((r = 1 ∧ WN F L C stp rcp stq rcq (n - 1) a c) ∨ (r = 0 ∧ ¬ WN F L C stp rcp stq rcq (n - 1) a c)) := by
    intro ud W hW he
    rw [f_X3_canForce_103, ld_ok (okN ha (by decide)), nI_cl (by omega)]
    rcases holds_mk (hW a ha) hc with ⟨e, h⟩ | ⟨e, h⟩
    · rw [e, bd_s, bk_1]; exact ⟨_, _, rfl, Or.inl ⟨rfl, he.mp h⟩⟩
    · rw [e, bd_s, bk_0]; exact ⟨_, _, rfl, Or.inr ⟨rfl, fun z => h (he.mpr z)⟩⟩
  induction m with
  | zero =>
    intro w fuel g ud hw hf h1 hW hg
    obtain ⟨f, rfl⟩ : ∃ f, fuel = f + 1 := ⟨fuel - 1, by omega⟩
    have : w = n := by omega
    subst this
    rw [f_X3_canForce_77, if_pos (nI_lt (by omega) (by omega))]
    exact fin ud _ hW Iff.rfl
  | succ m ih =>
    intro w fuel g ud hw hf h1 hW hg
    obtain ⟨f, rfl⟩ : ∃ f, fuel = f + 1 := ⟨fuel - 1, by omega⟩
    rw [f_X3_canForce_77, if_neg (nI_nlt (by omega) (by omega))]
    rcases hg with rfl | ⟨rfl, h⟩
    · obtain ⟨g', v, v1, v2, v3⟩ := widen3 hB hp hq hk hW
      rw [if_neg zne1, v1, bd2_s, nm, nI_1]
      obtain ⟨k, rfl⟩ : ∃ k, w = k + 1 := ⟨w - 1, by omega⟩
      refine ih (k + 1 + 1) f g' v (by omega) (by omega) (by omega) v2 ?_
      rcases v3 with e | ⟨e, h⟩
      · exact Or.inl e
      · refine Or.inr ⟨e, fun a ha c hc => ?_⟩
        have hh : ∀ a, a < 16 → ∀ c, c < 16 → (WN F L C stp rcp stq rcq (k + 1) a c ↔ WN F L C stp rcp stq rcq k a c) := h
        have e1 := WN_fix hB hh (n - 1 - k) a ha c hc
        rw [show k + (n - 1 - k) = n - 1 by omega] at e1
        exact e1.trans (hh a ha c hc).symm
    · rw [if_pos rfl]
      exact fin ud _ hW (h a ha c hc).symm
end FX
/-- the flights in plain numbers -/
def FF (sp dr me : Nat → Nat) (b a s : Nat) : Nat := fmN (sp (s / 16)) (dr (s / 16)) (me (s / 16)) b a (s % 16)
def LL (sp dr : Nat → Nat) (b a s : Nat) : Nat := nN (sp (s / 16)) (dr (s / 16)) b a (s % 16)
def CC (sp dr : Nat → Nat) (b a s j : Nat) : Nat := (cN (sp (s / 16)) (dr (s / 16)) b a (s % 16) j).toNatClampNeg
section FY
variable {sp dr me : Nat → Nat} {b : Nat}
theorem CC_eq (hok : ∀ k, k < 4 → okF (sp k) (dr k) (me k) b) {a s : Nat} (ha : a < 16) (hs : s < 64) (z : FF sp dr me b a s ≠ 0) {j : Nat} (h1 : FF sp dr me b a s ≤ j) (h2 : j ≤ LL sp dr b a s) : cN (sp (s / 16)) (dr (s / 16)) b a (s % 16) j = nI (CC sp dr b a s j) ∧ CC sp dr b a s j < 16 := by
  obtain ⟨f1, f2, f3, f4⟩ := fm_rng (hok (s / 16) (by omega)) ha (show s % 16 < 16 by omega) z
  obtain ⟨d, d1, d2⟩ := f4 j h1 h2
  unfold CC
  rw [d2, nI_cl (by omega)]
  exact ⟨rfl, d1⟩
theorem BD_of (hok : ∀ k, k < 4 → okF (sp k) (dr k) (me k) b) : BD (FF sp dr me b) (LL sp dr b) (CC sp dr b) := by
  intro a s ha hs
  have n := nN_spec (hok (s / 16) (by omega)) ha (show s % 16 < 16 by omega)
  refine ⟨n.2.2.1, fun z => ?_⟩
  obtain ⟨f1, f2, f3, f4⟩ := fm_rng (hok (s / 16) (by omega)) ha (show s % 16 < 16 by omega) z
  exact ⟨f1, f2, fun j h1 h2 => (CC_eq hok ha hs z h1 h2).2⟩
theorem KN_of (hok : ∀ k, k < 4 → okF (sp k) (dr k) (me k) b) {ua : St} {a : Nat} (ha : a < 16) (h : kn sp dr me b a ua) : KN (FF sp dr me b) (LL sp dr b) (CC sp dr b) ua a := by
  intro s hs
  refine ⟨_, known0 ha h hs, net0 (hok (s / 16) (by omega)) ha (by omega), met0 (hok (s / 16) (by omega)) ha (by omega), land0 (hok (s / 16) (by omega)) ha (by omega), fun z j h1 h2 => ?_⟩
  rw [cell0 (hok (s / 16) (by omega)) ha (by omega) h1 h2 z, (CC_eq hok ha hs z h1 h2).1]
variable {us : St} {p q stp rcp stq rcq : Nat}
theorem force_all (hok : ∀ k, k < 4 → okF (sp k) (dr k) (me k) b) (hq : PL us q stq rcq) (l1 l3 l4 l5 : Int32) :
    ∀ (n i fuel : Nat) (ua ud : St), i + n = 16 → n < fuel → RAp sp dr me b ua → (∀ a, a < i → kn sp dr me b a ua) → (∀ a, a < i → mk (ud.2.1 2 a) (W0 (FF sp dr me b) (LL sp dr b) (CC sp dr b) stq rcq a)) →
    ∃ ua' ud', f_X3_canForce_35 us fuel l1 (nI q) l3 l4 l5 (nI i) ua ud = f_X3_canForce_77 us FU l1 (nI q) l3 l4 l5 1 2 ua' ud' ∧ RAp sp dr me b ua' ∧ ua'.1 = ua.1 ∧ ua'.2.1 = ua.2.1 ∧ (∀ a, a < 16 → kn sp dr me b a ua') ∧ MW ud' 2 (W0 (FF sp dr me b) (LL sp dr b) (CC sp dr b) stq rcq) := by
  intro n
  induction n with
  | zero =>
    intro i fuel ua ud hi hf hp hk hW
    obtain ⟨f, rfl⟩ : ∃ f, fuel = f + 1 := ⟨fuel - 1, by omega⟩
    have : i = 16 := by omega
    subst this
    rw [f_X3_canForce_35, if_pos (by decide)]
    exact ⟨ua, ud, rfl, hp, rfl, rfl, hk, hW⟩
  | succ n ih =>
    intro i fuel ua ud hi hf hp hk hW
    obtain ⟨f, rfl⟩ : ∃ f, fuel = f + 1 := ⟨fuel - 1, by omega⟩
    have ok : okI (nI i) 16 := okN (by omega) (by decide)
    have cl : (nI i).toNatClampNeg = i := nI_cl (by omega)
    obtain ⟨u, g1, g2, g3, g4, g5, g6⟩ := wof0 (show i < 16 by omega) hp
    obtain ⟨x, x1, x2⟩ := missed3 (BD_of hok) hq (a := i) (by omega) (KN_of hok (by omega) g5)
    rw [f_X3_canForce_35, if_neg (show ¬ (16 : Int32) ≤ nI i from nI_ge (b := 16) (by omega) (by decide)), g1, bd_s, x1, bd_s, sti_ok ok, cl, nm, nI_1]
    obtain ⟨ua', ud', e, e1, e2, e3, e4, e5⟩ := ih (i + 1) f u (st_r ud 2 (upd (ud.2.1 2) i x)) (by omega) (by omega) g2 (fun a ha => by
      by_cases e : a = i
      · subst e; exact g5
      · exact g6 a (by omega) (hk a (by omega))) (fun a ha => by
      rw [st_r_2, up_eq]
      by_cases e : a = i
      · subst e; rw [upd_eq]; exact x2
      · rw [upd_ne _ _ e]; exact hW a (by omega))
    exact ⟨ua', ud', e, e1, e2.trans g3, e3.trans g4, e4, e5⟩
theorem force3 (hok : ∀ k, k < 4 → okF (sp k) (dr k) (me k) b) (hp : PL us p stp rcp) (hq : PL us q stq rcq) {ua ud : St} (hu : RAp sp dr me b ua) {a c n : Nat} (ha : a < 16) (hc : c < 16) (hn : n ≤ 4) (hn1 : 1 ≤ n) : ∃ r ua' ud', f_X3_canForce us (nI p) (nI q) (nI a) (nI c) (nI n) ua ud = some (r, ua', ud') ∧ RAp sp dr me b ua' ∧ ua'.1 = ua.1 ∧ ua'.2.1 = ua.2.1 ∧ ((r = 1 ∧ WN (FF sp dr me b) (LL sp dr b) (CC sp dr b) stp rcp stq rcq (n - 1) a c) ∨ (r = 0 ∧ ¬ WN (FF sp dr me b) (LL sp dr b) (CC sp dr b) stp rcp stq rcq (n - 1) a c)) := by
  obtain ⟨u, g1, g2, g3, g4, g5, g6⟩ := wof0 ha hu
  obtain ⟨x, x1, x2⟩ := missed3 (BD_of hok) hq ha (KN_of hok ha g5)
  rw [f_X3_canForce, g1, bd_s, x1, bd_s]
  rcases holds_mk x2 hc with ⟨e, h⟩ | ⟨e, h⟩
  · rw [e, bd_s, if_neg zne1]
    exact ⟨1, u, ud, rfl, g2, g3, g4, Or.inl ⟨rfl, WN_mono h⟩⟩
  · rw [e, bd_s, if_pos rfl]
    by_cases z : n = 1
    · subst z
      rw [if_pos (by decide)]
      exact ⟨0, u, ud, rfl, g2, g3, g4, Or.inr ⟨rfl, h⟩⟩
    · rw [if_neg (show ¬ nI n = 1 from fun e => z (by have := congrArg Int32.toNatClampNeg e; rw [nI_cl (by omega)] at this; exact this.trans (by decide)))]
      obtain ⟨u', v', e1, e2, e3, e4, e5, e6⟩ := force_all hok hq (nI p) (nI a) (nI c) (nI n) 16 0 FU u ud (by omega) (by unfold FU; omega) g2 (fun a ha => absurd ha (by omega)) (fun a ha => absurd ha (by omega))
      rw [nI_0] at e1
      rw [e1]
      obtain ⟨r, ud', k1, k2⟩ := force_l (ua := u') (BD_of hok) hp hq (fun a ha => KN_of hok ha (e5 a ha)) ha hc hn (n - 1) 1 FU 1 v' (by omega) (by unfold FU; omega) (by omega) e6 (Or.inl rfl)
      exact ⟨r, u', ud', k1, e2, e3.trans g3, e4.trans g4, k2⟩
end FY
