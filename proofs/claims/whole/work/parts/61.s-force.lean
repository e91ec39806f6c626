/-! a RALLY looked at ahead: one saying for both -/
section FW
variable {F L : Nat → Nat → Nat} {C : Nat → Nat → Nat → Nat}
def cm (C : Nat → Nat → Nat → Nat) (st rc c a s j : Nat) : Prop := fdN c (C a s j) ≤ j * st / 10 + rc
def mt (F L : Nat → Nat → Nat) (C : Nat → Nat → Nat → Nat) (st rc c a s j : Nat) : Prop := F a s ≤ j ∧ j ≤ L a s ∧ cm C st rc c a s j ∧ ∀ i, F a s ≤ i → i < j → ¬ cm C st rc c a s i
def W0 (F L : Nat → Nat → Nat) (C : Nat → Nat → Nat → Nat) (st rc a c : Nat) : Prop := ∃ s, s < 64 ∧ F a s ≠ 0 ∧ ∀ j, F a s ≤ j → j ≤ L a s → ¬ cm C st rc c a s j
def GO (C : Nat → Nat → Nat → Nat) (stq : Nat) (W : Nat → Nat → Prop) (d s j : Nat) : Prop := ∀ f, f < 16 → fdN d f ≤ j * stq / 10 → W (C d s j) f
def HD (F L : Nat → Nat → Nat) (C : Nat → Nat → Nat → Nat) (stp rcp stq : Nat) (W : Nat → Nat → Prop) (b d : Nat) : Prop := ∀ s, s < 64 → F d s ≠ 0 → ∃ j, mt F L C stp rcp b d s j ∧ GO C stq W d s j
def FG (C : Nat → Nat → Nat → Nat) (stp : Nat) (H : Nat → Nat → Prop) (a s j : Nat) : Prop := ∃ b, b < 16 ∧ fdN a b ≤ j * stp / 10 ∧ H b (C a s j)
def FO (F L : Nat → Nat → Nat) (C : Nat → Nat → Nat → Nat) (stp stq rcq : Nat) (H : Nat → Nat → Prop) (a c : Nat) : Prop := ∃ s, s < 64 ∧ F a s ≠ 0 ∧ ∃ j, mt F L C stq rcq c a s j ∧ FG C stp H a s j
def NX (F L : Nat → Nat → Nat) (C : Nat → Nat → Nat → Nat) (stp rcp stq rcq : Nat) (W : Nat → Nat → Prop) (a c : Nat) : Prop := W a c ∨ FO F L C stp stq rcq (HD F L C stp rcp stq W) a c
def WN (F L : Nat → Nat → Nat) (C : Nat → Nat → Nat → Nat) (stp rcp stq rcq : Nat) : Nat → Nat → Nat → Prop
  | 0 => W0 F L C stq rcq
  | k + 1 => NX F L C stp rcp stq rcq (WN F L C stp rcp stq rcq k)
/-- bounds of the flights -/
def BD (F L : Nat → Nat → Nat) (C : Nat → Nat → Nat → Nat) : Prop := ∀ a s, a < 16 → s < 64 → L a s ≤ 43 ∧ (F a s ≠ 0 → 1 ≤ F a s ∧ F a s ≤ L a s ∧ ∀ j, F a s ≤ j → j ≤ L a s → C a s j < 16)
/-- the flights from a CELL that the class has worked out -/
def KN (F L : Nat → Nat → Nat) (C : Nat → Nat → Nat → Nat) (ua : St) (a : Nat) : Prop := ∀ s, s < 64 → ∃ x, f_X0_knownPath ua (nI a) (nI s) = some x ∧ f_X0_isNet x = some (if F a s = 0 then 1 else 0) ∧ f_X0_firstMetOf x = some (nI (F a s)) ∧ f_X0_landingOf x = some (nI (L a s)) ∧ (F a s ≠ 0 → ∀ j, F a s ≤ j → j ≤ L a s → f_X0_cellAt x (nI j) = some (nI (C a s j)))
variable {ua us ud : St} {p q stp rcp stq rcq : Nat}
theorem lt_succ {P : Nat → Prop} {i s : Nat} : (∃ j, i ≤ j ∧ j < s + 1 ∧ P j) ↔ (∃ j, i ≤ j ∧ j < s ∧ P j) ∨ (i ≤ s ∧ P s) := by
  constructor
  · rintro ⟨j, a, b, c⟩
    by_cases e : j = s
    · subst e; exact Or.inr ⟨a, c⟩
    · exact Or.inl ⟨j, a, by omega, c⟩
  · rintro (⟨j, a, b, c⟩ | ⟨a, b⟩)
    · exact ⟨j, a, by omega, c⟩
    · exact ⟨s, a, by omega, b⟩
theorem missed3 (hB : BD F L C) (hq : PL us q stq rcq) {a : Nat} (ha : a < 16) (hk : KN F L C ua a) : ∃ x, f_X3_missedFrom ua us (nI q) (nI a) = some x ∧ mk x (W0 F L C stq rcq a) := by
  have loop : ∀ (n s fuel : Nat) (l3 : Int32), s + n = 64 → n < fuel → mk l3 (fun c => ∃ s', 0 ≤ s' ∧ s' < s ∧ (F a s' ≠ 0 ∧ ∀ j, F a s' ≤ j → j ≤ L a s' → ¬ cm C stq rcq c a s' j)) → ∃ x, f_X3_missedFrom_5 ua us fuel (nI q) (nI a) l3 (nI s) = some x ∧ mk x (W0 F L C stq rcq a) := by
    intro n
    induction n with
    | zero =>
      intro s fuel l3 hs hf hm
      obtain ⟨f, rfl⟩ : ∃ f, fuel = f + 1 := ⟨fuel - 1, by omega⟩
      have : s = 64 := by omega
      subst this
      rw [f_X3_missedFrom_5, if_pos (by decide)]
      refine ⟨_, rfl, mk_congr hm (fun c _ => ⟨?_, ?_⟩)⟩
      · rintro ⟨s, -, h1, h2⟩; exact ⟨s, h1, h2⟩
      · rintro ⟨s, h1, h2⟩; exact ⟨s, by omega, h1, h2⟩
    | succ n ih =>
      intro s fuel l3 hs hf hm
      obtain ⟨f, rfl⟩ : ∃ f, fuel = f + 1 := ⟨fuel - 1, by omega⟩
      obtain ⟨x, k1, k2, k3, k4, k5⟩ := hk s (by omega)
      rw [f_X3_missedFrom_5, if_neg (show ¬ (64 : Int32) ≤ nI s from nI_ge (b := 64) (by omega) (by decide)), k1, bd_s, k2, bd_s]
      by_cases z : F a s = 0
      · rw [if_pos z, if_neg zne1, f_X3_missedFrom_93, nm, nI_1]
        refine ih (s + 1) f l3 (by omega) (by omega) (mk_congr hm (fun c _ => ?_))
        rw [lt_succ]
        exact ⟨Or.inl, fun h => h.elim id (fun h => absurd z h.2.1)⟩
      · rw [if_neg z, if_pos rfl, k3, bd_s]
        obtain ⟨b1, b2⟩ := hB a s ha (by omega)
        obtain ⟨b3, b4, b5⟩ := b2 z
        have inner : ∀ (m i fuel : Nat) (l7 : Int32), i + m = L a s + 1 → F a s ≤ i → m < fuel → mk l7 (fun c => ∃ j, F a s ≤ j ∧ j < i ∧ cm C stq rcq c a s j) → ∃ y, mk y (fun c => ∃ j, F a s ≤ j ∧ j < L a s + 1 ∧ cm C stq rcq c a s j) ∧ f_X3_missedFrom_45 ua us (f_X3_missedFrom_5 ua us f) fuel (nI q) (nI a) l3 (nI s) x l7 (nI i) = f_X3_missedFrom_93 ua us (f_X3_missedFrom_5 ua us f) (nI q) (nI a) (l3 ||| (65535 &&& (y ^^^ -1))) (nI s) := by
          intro m
          induction m with
          | zero =>
            intro i fuel l7 hi hFi hf hm7
            obtain ⟨g, rfl⟩ : ∃ g, fuel = g + 1 := ⟨fuel - 1, by omega⟩
            have : i = L a s + 1 := by omega
            subst this
            rw [f_X3_missedFrom_45, k4, bd_s, if_pos (nI_lt (by omega) (by omega)), nm]
            exact ⟨l7, hm7, rfl⟩
          | succ m ihm =>
            intro i fuel l7 hi hFi hf hm7
            obtain ⟨g, rfl⟩ : ∃ g, fuel = g + 1 := ⟨fuel - 1, by omega⟩
            obtain ⟨y, y1, y2⟩ := hq.meet (d := C a s i) (j := i) (b5 i hFi (by omega)) (by omega)
            rw [f_X3_missedFrom_45, k4, bd_s, if_neg (nI_nlt (by omega) (by omega)), k5 z i hFi (by omega), bd_s, y1, bd_s, nm, nm, nI_1]
            refine ihm (i + 1) g _ (by omega) (by omega) (by omega) (mk_congr (mk_or hm7 y2) (fun c _ => ?_))
            rw [lt_succ]
            exact or_congr Iff.rfl ⟨fun h => ⟨hFi, h⟩, fun h => h.2⟩
        obtain ⟨y, y1, y2⟩ := inner (L a s + 1 - F a s) (F a s) FU 0 (by omega) (Nat.le_refl _) (by unfold FU; omega) (mk_congr mk_0 (fun c _ => ⟨fun h => h.elim, fun ⟨j, h1, h2, _⟩ => absurd h2 (by omega)⟩))
        rw [y2, f_X3_missedFrom_93, nm, nI_1]
        refine ih (s + 1) f _ (by omega) (by omega) (mk_congr (mk_or hm (mk_sub mk_all y1)) (fun c _ => ?_))
        refine Iff.trans ?_ lt_succ.symm
        refine or_congr Iff.rfl ⟨fun h => ⟨Nat.zero_le _, z, fun j h1 h2 h3 => h.2 ⟨j, h1, by omega, h3⟩⟩, fun h => ⟨trivial, fun ⟨j, h1, h2, h3⟩ => h.2.2 j h1 (by omega) h3⟩⟩
  exact loop 64 0 FU 0 (by omega) (by unfold FU; omega) (mk_congr mk_0 (fun c _ => ⟨fun h => h.elim, fun ⟨j, h1, h2, _⟩ => absurd h2 (by omega)⟩))
/-- the rows won and held of the class -/
def MW (ud : St) (k : Nat) (W : Nat → Nat → Prop) : Prop := ∀ a, a < 16 → mk (ud.2.1 k a) (W a)
theorem mt_now {c a s i st rc : Nat} (hi : F a s ≤ i) (hL : i ≤ L a s) : (cm C st rc c a s i ∧ ¬ ∃ j, F a s ≤ j ∧ j < i ∧ cm C st rc c a s j) ↔ mt F L C st rc c a s i :=
  ⟨fun h => ⟨hi, hL, h.1, fun j h1 h2 h3 => h.2 ⟨j, h1, h2, h3⟩⟩, fun h => ⟨h.2.2.1, fun ⟨j, h1, h2, h3⟩ => h.2.2.2 j h1 h2 h3⟩⟩
theorem or_now {A B : Prop} : (A ∨ (B ∧ ¬ A)) ↔ (A ∨ B) := by
  by_cases a : A
  · exact ⟨fun _ => Or.inl a, fun _ => Or.inl a⟩
  · exact ⟨fun h => h.elim Or.inl (fun h => Or.inr h.1), fun h => h.elim Or.inl (fun h => Or.inr ⟨h, a⟩)⟩
theorem held3 (hB : BD F L C) (hp : PL us p stp rcp) (hq : PL us q stq rcq) {W : Nat → Nat → Prop} (hW : MW ud 2 W) {d : Nat} (hd : d < 16) (hk : KN F L C ua d) : ∃ x, f_X3_heldAgainst ua us ud (nI p) (nI q) (nI d) = some x ∧ mk x (fun b => HD F L C stp rcp stq W b d) := by
  have loop : ∀ (n s fuel : Nat) (l4 : Int32), s + n = 64 → n < fuel → mk l4 (fun b => ∀ s', s' < s → F d s' ≠ 0 → ∃ j, mt F L C stp rcp b d s' j ∧ GO C stq W d s' j) → ∃ x, f_X3_heldAgainst_7 ua us ud fuel (nI p) (nI q) (nI d) l4 (nI s) = some x ∧ mk x (fun b => HD F L C stp rcp stq W b d) := by
    intro n
    induction n with
    | zero =>
      intro s fuel l4 hs hf hm
      obtain ⟨f, rfl⟩ : ∃ f, fuel = f + 1 := ⟨fuel - 1, by omega⟩
      have : s = 64 := by omega
      subst this
      rw [f_X3_heldAgainst_7, if_pos (by decide)]
      exact ⟨_, rfl, hm⟩
    | succ n ih =>
      intro s fuel l4 hs hf hm
      obtain ⟨f, rfl⟩ : ∃ f, fuel = f + 1 := ⟨fuel - 1, by omega⟩
      obtain ⟨x, k1, k2, k3, k4, k5⟩ := hk s (by omega)
      rw [f_X3_heldAgainst_7, if_neg (show ¬ (64 : Int32) ≤ nI s from nI_ge (b := 64) (by omega) (by decide))]
      by_cases z0 : l4 = 0
      · rw [if_pos z0]
        refine ⟨_, rfl, mk_congr hm (fun c hc => ⟨fun h => absurd h ((mk_eq0 hm).mp z0 c hc), fun h s' hs' => h s' (by omega)⟩)⟩
      rw [if_neg z0, k1, bd_s, k2, bd_s]
      by_cases z : F d s = 0
      · rw [if_pos z, if_neg zne1, f_X3_heldAgainst_147, nm, nI_1]
        refine ih (s + 1) f l4 (by omega) (by omega) (mk_congr hm (fun c _ => ⟨fun h s' hs' hz => ?_, fun h s' hs' => h s' (by omega)⟩))
        by_cases e : s' = s
        · subst e; exact absurd z hz
        · exact h s' (by omega) hz
      · rw [if_neg z, if_pos rfl, k3, bd_s]
        obtain ⟨b1, b2⟩ := hB d s hd (by omega)
        obtain ⟨b3, b4, b5⟩ := b2 z
        have inner : ∀ (m i fuel : Nat) (l8 l9 : Int32), i + m = L d s + 1 → F d s ≤ i → m < fuel → mk l8 (fun c => ∃ j, F d s ≤ j ∧ j < i ∧ cm C stp rcp c d s j) → mk l9 (fun c => ∃ j, F d s ≤ j ∧ j < i ∧ (mt F L C stp rcp c d s j ∧ GO C stq W d s j)) → ∃ y, mk y (fun c => ∃ j, F d s ≤ j ∧ j < L d s + 1 ∧ (mt F L C stp rcp c d s j ∧ GO C stq W d s j)) ∧ f_X3_heldAgainst_55 ua us ud (f_X3_heldAgainst_7 ua us ud f) fuel (nI p) (nI q) (nI d) l4 (nI s) x l8 l9 (nI i) = f_X3_heldAgainst_147 ua us ud (f_X3_heldAgainst_7 ua us ud f) (nI p) (nI q) (nI d) (l4 &&& y) (nI s) := by
          intro m
          induction m with
          | zero =>
            intro i fuel l8 l9 hi hFi hf hm8 hm9
            obtain ⟨g, rfl⟩ : ∃ g, fuel = g + 1 := ⟨fuel - 1, by omega⟩
            have : i = L d s + 1 := by omega
            subst this
            rw [f_X3_heldAgainst_55, k4, bd_s, if_pos (nI_lt (by omega) (by omega)), nm]
            exact ⟨l9, hm9, rfl⟩
          | succ m ihm =>
            intro i fuel l8 l9 hi hFi hf hm8 hm9
            obtain ⟨g, rfl⟩ : ∃ g, fuel = g + 1 := ⟨fuel - 1, by omega⟩
            have hC : C d s i < 16 := b5 i hFi (by omega)
            obtain ⟨y, y1, y2⟩ := hp.meet (d := C d s i) (j := i) hC (by omega)
            obtain ⟨v, w, w1, w2, w3⟩ := hq.near (d := d) (j := i) hd (by omega)
            have now : mk (y &&& (l8 ^^^ -1)) (fun c => mt F L C stp rcp c d s i) := mk_congr (mk_sub y2 hm8) (fun c _ => mt_now hFi (by omega))
            have m8 : mk (l8 ||| (y &&& (l8 ^^^ -1))) (fun c => ∃ j, F d s ≤ j ∧ j < i + 1 ∧ cm C stp rcp c d s j) := mk_congr (mk_or hm8 (mk_sub y2 hm8)) (fun c _ => by
              rw [lt_succ, or_now]
              exact or_congr Iff.rfl ⟨fun h => ⟨hFi, h⟩, fun h => h.2⟩)
            rw [f_X3_heldAgainst_55, k4, bd_s, if_neg (nI_nlt (by omega) (by omega)), k5 z i hFi (by omega), bd_s, y1, bd_s, nm, nm, w1, bd_s, w2, bd_s, ld_ok (okN hC (by decide)), nI_cl (by omega)]
            have e0 := mk_eq0 (mk_sub w3 (hW (C d s i) hC))
            by_cases e : (w &&& (ud.2.1 2 (C d s i) ^^^ -1)) = 0
            · have hgo : GO C stq W d s i := fun g hg h => Classical.byContradiction (fun n => (e0.mp e) g hg ⟨h, n⟩)
              rw [if_pos e, nm, f_X3_heldAgainst_134, nm, nI_1]
              refine ihm (i + 1) g _ _ (by omega) (by omega) (by omega) m8 (mk_congr (mk_or hm9 now) (fun c _ => ?_))
              rw [lt_succ]
              exact or_congr Iff.rfl ⟨fun h => ⟨hFi, h, hgo⟩, fun h => h.2.1⟩
            · have hgo : ¬ GO C stq W d s i := fun h => e (e0.mpr (fun c hc h2 => h2.2 (h c hc h2.1)))
              rw [if_neg e, f_X3_heldAgainst_134, nm, nI_1]
              refine ihm (i + 1) g _ _ (by omega) (by omega) (by omega) m8 (mk_congr hm9 (fun c _ => ?_))
              rw [lt_succ]
              exact ⟨Or.inl, fun h => h.elim id (fun h => absurd h.2.2 hgo)⟩
        have emp : ∀ P : Nat → Nat → Prop, mk 0 (fun c => ∃ j, F d s ≤ j ∧ j < F d s ∧ P c j) := fun P => mk_congr mk_0 (fun c _ => ⟨fun h => h.elim, fun ⟨j, h1, h2, _⟩ => absurd h2 (by omega)⟩)
        obtain ⟨y, y1, y2⟩ := inner (L d s + 1 - F d s) (F d s) FU 0 0 (by omega) (Nat.le_refl _) (by unfold FU; omega) (emp _) (emp _)
        rw [y2, f_X3_heldAgainst_147, nm, nI_1]
        refine ih (s + 1) f _ (by omega) (by omega) (mk_congr (mk_and hm y1) (fun c _ => ⟨fun h s' hs' hz => ?_, fun h => ⟨fun s' hs' => h s' (by omega), ?_⟩⟩))
        · by_cases e : s' = s
          · subst e
            obtain ⟨j, -, -, h3⟩ := h.2
            exact ⟨j, h3⟩
          · exact h.1 s' (by omega) hz
        · obtain ⟨j, h1, h2⟩ := h s (by omega) z
          exact ⟨j, h1.1, Nat.lt_succ_of_le h1.2.1, h1, h2⟩
  exact loop 64 0 FU 65535 (by omega) (by unfold FU; omega) (mk_congr mk_all (fun c _ => ⟨fun _ s' hs' => absurd hs' (by omega), fun _ => trivial⟩))
theorem forced3 (hB : BD F L C) (hp : PL us p stp rcp) (hq : PL us q stq rcq) {H : Nat → Nat → Prop} (hH : MW ud 3 (fun d b => H b d)) {a : Nat} (ha : a < 16) (hk : KN F L C ua a) : ∃ x, f_X3_forcedFrom ua us ud (nI p) (nI q) (nI a) = some x ∧ mk x (FO F L C stp stq rcq H a) := by
  have loop : ∀ (n s fuel : Nat) (l4 : Int32), s + n = 64 → n < fuel → mk l4 (fun c => ∃ s', 0 ≤ s' ∧ s' < s ∧ (F a s' ≠ 0 ∧ ∃ j, mt F L C stq rcq c a s' j ∧ FG C stp H a s' j)) → ∃ x, f_X3_forcedFrom_6 ua us ud fuel (nI p) (nI q) (nI a) l4 (nI s) = some x ∧ mk x (FO F L C stp stq rcq H a) := by
    intro n
    induction n with
    | zero =>
      intro s fuel l4 hs hf hm
      obtain ⟨f, rfl⟩ : ∃ f, fuel = f + 1 := ⟨fuel - 1, by omega⟩
      have : s = 64 := by omega
      subst this
      rw [f_X3_forcedFrom_6, if_pos (by decide)]
      refine ⟨_, rfl, mk_congr hm (fun c _ => ⟨?_, ?_⟩)⟩
      · rintro ⟨s, -, h1, h2⟩; exact ⟨s, h1, h2⟩
      · rintro ⟨s, h1, h2⟩; exact ⟨s, by omega, h1, h2⟩
    | succ n ih =>
      intro s fuel l4 hs hf hm
      obtain ⟨f, rfl⟩ : ∃ f, fuel = f + 1 := ⟨fuel - 1, by omega⟩
      obtain ⟨x, k1, k2, k3, k4, k5⟩ := hk s (by omega)
      rw [f_X3_forcedFrom_6, if_neg (show ¬ (64 : Int32) ≤ nI s from nI_ge (b := 64) (by omega) (by decide)), k1, bd_s, k2, bd_s]
      by_cases z : F a s = 0
      · rw [if_pos z, if_neg zne1, f_X3_forcedFrom_129, nm, nI_1]
        refine ih (s + 1) f l4 (by omega) (by omega) (mk_congr hm (fun c _ => ?_))
        rw [lt_succ]
        exact ⟨Or.inl, fun h => h.elim id (fun h => absurd z h.2.1)⟩
      · rw [if_neg z, if_pos rfl, k3, bd_s]
        obtain ⟨b1, b2⟩ := hB a s ha (by omega)
        obtain ⟨b3, b4, b5⟩ := b2 z
        have inner : ∀ (m i fuel : Nat) (l8 l4' : Int32), i + m = L a s + 1 → F a s ≤ i → m < fuel → mk l8 (fun c => ∃ j, F a s ≤ j ∧ j < i ∧ cm C stq rcq c a s j) → mk l4' (fun c => (∃ s', 0 ≤ s' ∧ s' < s ∧ (F a s' ≠ 0 ∧ ∃ j, mt F L C stq rcq c a s' j ∧ FG C stp H a s' j)) ∨ ∃ j, F a s ≤ j ∧ j < i ∧ (mt F L C stq rcq c a s j ∧ FG C stp H a s j)) → ∃ y, mk y (fun c => (∃ s', 0 ≤ s' ∧ s' < s ∧ (F a s' ≠ 0 ∧ ∃ j, mt F L C stq rcq c a s' j ∧ FG C stp H a s' j)) ∨ ∃ j, F a s ≤ j ∧ j < L a s + 1 ∧ (mt F L C stq rcq c a s j ∧ FG C stp H a s j)) ∧ f_X3_forcedFrom_46 ua us ud (f_X3_forcedFrom_6 ua us ud f) fuel (nI p) (nI q) (nI a) l4' (nI s) x l8 (nI i) = f_X3_forcedFrom_129 ua us ud (f_X3_forcedFrom_6 ua us ud f) (nI p) (nI q) (nI a) y (nI s) := by
          intro m
          induction m with
          | zero =>
            intro i fuel l8 l9 hi hFi hf hm8 hm9
            obtain ⟨g, rfl⟩ : ∃ g, fuel = g + 1 := ⟨fuel - 1, by omega⟩
            have : i = L a s + 1 := by omega
            subst this
            rw [f_X3_forcedFrom_46, k4, bd_s, if_pos (nI_lt (by omega) (by omega))]
            exact ⟨l9, hm9, rfl⟩
          | succ m ihm =>
            intro i fuel l8 l9 hi hFi hf hm8 hm9
            obtain ⟨g, rfl⟩ : ∃ g, fuel = g + 1 := ⟨fuel - 1, by omega⟩
            have hC : C a s i < 16 := b5 i hFi (by omega)
            obtain ⟨y, y1, y2⟩ := hq.meet (d := C a s i) (j := i) hC (by omega)
            obtain ⟨v, w, w1, w2, w3⟩ := hp.near (d := a) (j := i) ha (by omega)
            have now : mk (y &&& (l8 ^^^ -1)) (fun c => mt F L C stq rcq c a s i) := mk_congr (mk_sub y2 hm8) (fun c _ => mt_now hFi (by omega))
            have m8 : mk (l8 ||| (y &&& (l8 ^^^ -1))) (fun c => ∃ j, F a s ≤ j ∧ j < i + 1 ∧ cm C stq rcq c a s j) := mk_congr (mk_or hm8 (mk_sub y2 hm8)) (fun c _ => by
              rw [lt_succ, or_now]
              exact or_congr Iff.rfl ⟨fun h => ⟨hFi, h⟩, fun h => h.2⟩)
            rw [f_X3_forcedFrom_46, k4, bd_s, if_neg (nI_nlt (by omega) (by omega)), k5 z i hFi (by omega), bd_s, y1, bd_s, nm, nm, w1, bd_s, w2, bd_s, ld_ok (okN hC (by decide)), nI_cl (by omega)]
            have e0 := mk_eq0 (mk_and w3 (hH (C a s i) hC))
            by_cases e : (w &&& ud.2.1 3 (C a s i)) = 0
            · have hgo : ¬ FG C stp H a s i := fun ⟨b, h1, h2, h3⟩ => e0.mp e b h1 ⟨h2, h3⟩
              rw [if_pos e, f_X3_forcedFrom_123, nm, nI_1]
              refine ihm (i + 1) g _ _ (by omega) (by omega) (by omega) m8 (mk_congr hm9 (fun c _ => or_congr Iff.rfl ?_))
              rw [lt_succ]
              exact ⟨Or.inl, fun h => h.elim id (fun h => absurd h.2.2 hgo)⟩
            · have hgo : FG C stp H a s i := Classical.byContradiction (fun n => e (e0.mpr (fun c hc h => n ⟨c, hc, h.1, h.2⟩)))
              rw [if_neg e, nm, f_X3_forcedFrom_123, nm, nI_1]
              refine ihm (i + 1) g _ _ (by omega) (by omega) (by omega) m8 (mk_congr (mk_or hm9 now) (fun c _ => ?_))
              rw [lt_succ, or_assoc]
              exact or_congr Iff.rfl (or_congr Iff.rfl ⟨fun h => ⟨hFi, h, hgo⟩, fun h => h.2.1⟩)
        obtain ⟨y, y1, y2⟩ := inner (L a s + 1 - F a s) (F a s) FU 0 l4 (by omega) (Nat.le_refl _) (by unfold FU; omega) (mk_congr mk_0 (fun c _ => ⟨fun h => h.elim, fun ⟨j, h1, h2, _⟩ => absurd h2 (by omega)⟩)) (mk_congr hm (fun c _ => ⟨Or.inl, fun h => h.elim id (fun ⟨j, h1, h2, _⟩ => absurd h2 (by omega))⟩))
        rw [y2, f_X3_forcedFrom_129, nm, nI_1]
        refine ih (s + 1) f _ (by omega) (by omega) (mk_congr y1 (fun c _ => ?_))
        refine Iff.trans ?_ lt_succ.symm
        exact or_congr Iff.rfl ⟨fun ⟨j, h1, h2, h3⟩ => ⟨Nat.zero_le _, z, j, h3⟩, fun ⟨_, _, j, h3⟩ => ⟨j, h3.1.1, Nat.lt_succ_of_le h3.1.2.1, h3⟩⟩
  exact loop 64 0 FU 0 (by omega) (by unfold FU; omega) (mk_congr mk_0 (fun c _ => ⟨fun h => h.elim, fun ⟨j, h1, h2, _⟩ => absurd h2 (by omega)⟩))
end FW
