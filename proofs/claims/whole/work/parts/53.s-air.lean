def Ln (A T : Nat) : Nat := 10 * (A / 4 + T / 4 + 1) + 5 * ((A % 4 - T % 4) + (T % 4 - A % 4))
def plV (A T g : Nat) : Int32 := (f_X0_placeAt (nI A) (nI T) (nI (Ln A T)) (nI g)).getD (-7)
def plC (A T g : Nat) : Bool := decide (f_X0_placeAt (nI A) (nI T) (nI (Ln A T)) (nI g) = some (plV A T g)) && ((decide (plV A T g = -1) || (decide (0 ≤ plV A T g) && decide (plV A T g ≤ 15))) && (decide (plV A T g = -1) || !decide (plV A T (g + 1) = -1)))
theorem plT : (List.range 16).all (fun A => (List.range 16).all (fun T => (List.range (Ln A T + 1)).all (plC A T))) = true := by decide +kernel
theorem pl_tab {A T g : Nat} (hA : A < 16) (hT : T < 16) (hg : g ≤ Ln A T) : plC A T g = true :=
  List.all_eq_true.mp (List.all_eq_true.mp (List.all_eq_true.mp plT A (List.mem_range.mpr hA)) T (List.mem_range.mpr hT)) g (List.mem_range.mpr (by omega))
theorem pl_eq {A T g : Nat} (hA : A < 16) (hT : T < 16) (hg : g ≤ Ln A T) : f_X0_placeAt (nI A) (nI T) (nI (Ln A T)) (nI g) = some (plV A T g) := by
  have := pl_tab hA hT hg
  unfold plC at this
  simp only [Bool.and_eq_true, decide_eq_true_eq] at this
  exact this.1
theorem pl_rng {A T g : Nat} (hA : A < 16) (hT : T < 16) (hg : g ≤ Ln A T) : plV A T g = -1 ∨ ∃ c, c < 16 ∧ plV A T g = nI c := by
  have := pl_tab hA hT hg
  unfold plC at this
  simp only [Bool.and_eq_true, Bool.or_eq_true, decide_eq_true_eq] at this
  rcases this.2.1 with h | ⟨h1, h2⟩
  · exact Or.inl h
  · obtain ⟨c, c1, c2⟩ := asN h1 h2 (M := 15) (by decide)
    exact Or.inr ⟨c, by omega, c2⟩
theorem pl_mono1 {A T g : Nat} (hA : A < 16) (hT : T < 16) (hg : g ≤ Ln A T) (h : ¬ plV A T g = -1) : ¬ plV A T (g + 1) = -1 := by
  have := pl_tab hA hT hg
  unfold plC at this
  simp only [Bool.and_eq_true, Bool.or_eq_true, decide_eq_true_eq, Bool.not_eq_true', decide_eq_false_iff_not] at this
  rcases this.2.2 with q | q
  · exact absurd q h
  · exact q
theorem pl_mono {A T : Nat} (hA : A < 16) (hT : T < 16) : ∀ (d g : Nat), g + d ≤ Ln A T → ¬ plV A T g = -1 → ¬ plV A T (g + d) = -1 := by
  intro d
  induction d with
  | zero => intro g _ h; exact h
  | succ d ih => intro g hg h; exact pl_mono1 (g := g + d) hA hT (by omega) (ih g (by omega) h)
theorem len_tab : (List.range 16).all (fun A => (List.range 16).all (fun T => decide (f_X0_lengthOf (nI A) (nI T) = some (nI (Ln A T))) && decide (10 * ((nI A / 4 + nI T / 4) + 1) + 5 * ab ((nI T - nI T / 4 * 4) - (nI A - nI A / 4 * 4)) = nI (Ln A T)))) = true := by decide +kernel
theorem len_eq {A T : Nat} (hA : A < 16) (hT : T < 16) : f_X0_lengthOf (nI A) (nI T) = some (nI (Ln A T)) ∧ 10 * ((nI A / 4 + nI T / 4) + 1) + 5 * ab ((nI T - nI T / 4 * 4) - (nI A - nI A / 4 * 4)) = nI (Ln A T) := by
  have := List.all_eq_true.mp (List.all_eq_true.mp len_tab A (List.mem_range.mpr hA)) T (List.mem_range.mpr hT)
  simpa using this
theorem Ln_rng {A T : Nat} (hA : A < 16) (hT : T < 16) : 10 ≤ Ln A T ∧ Ln A T ≤ 85 := by
  unfold Ln; omega
theorem pl_expr (a t L g : Int32) (hL : ¬ L = 0) (h1 : (1 : Int32) ≤ L) : f_X0_placeAt a t L g = some (if 0 ≤ ((((a / 4 + t / 4) + 1) * g) / L - a / 4) - 1 then 4 * (((((a / 4 + t / 4) + 1) * g) / L - a / 4) - 1) + ((a - a / 4 * 4) + (((t - t / 4 * 4) - (a - a / 4 * 4)) * g) / L) else -1) := by
  rw [f_X0_placeAt, if_pos h1]
  simp only [f_X2_rowOf, f_X2_colOf, bd_s, nm, dv_ok hL]
  split <;> rfl
/-- a flight in plain numbers: gone and way after i TICKS -/
def GS (Wh sp q : Nat) : Nat → Nat × Nat
  | 0 => (0, sp)
  | i + 1 => (min Wh ((GS Wh sp q i).1 + (GS Wh sp q i).2), max 2 ((GS Wh sp q i).2 * q / 100))
theorem GS_s {Wh sp q : Nat} (h1 : 2 ≤ sp) (h2 : sp ≤ 60) (hq : q ≤ 100) : ∀ i, 2 ≤ (GS Wh sp q i).2 ∧ (GS Wh sp q i).2 ≤ 60 := by
  intro i
  induction i with
  | zero => exact ⟨h1, h2⟩
  | succ i ih =>
    show 2 ≤ max 2 _ ∧ max 2 _ ≤ 60
    have : (GS Wh sp q i).2 * q / 100 ≤ 60 := by
      have h3 : (GS Wh sp q i).2 * q ≤ 60 * 100 := Nat.mul_le_mul ih.2 hq
      omega
    omega
theorem GS_le (Wh sp q i : Nat) : (GS Wh sp q i).1 ≤ Wh := by
  cases i with
  | zero => exact Nat.zero_le _
  | succ i => exact Nat.min_le_left _ _
theorem GS_ge {Wh sp q : Nat} (h1 : 2 ≤ sp) (h2 : sp ≤ 60) (hq : q ≤ 100) : ∀ i, min Wh (2 * i) ≤ (GS Wh sp q i).1 := by
  intro i
  induction i with
  | zero => simp [GS]
  | succ i ih =>
    show min Wh (2 * (i + 1)) ≤ min Wh _
    have := (GS_s (Wh := Wh) h1 h2 hq i).1
    omega
theorem GS_mono {Wh sp q : Nat} : ∀ i, (GS Wh sp q i).1 ≤ (GS Wh sp q (i + 1)).1 := by
  intro i
  show _ ≤ min Wh _
  have := GS_le Wh sp q i
  omega
def lnd (Wh sp q : Nat) : Nat → Nat → Nat
  | 0, i => i
  | f + 1, i => if Wh ≤ (GS Wh sp q i).1 then i else lnd Wh sp q f (i + 1)
theorem lnd_spec {Wh sp q : Nat} : ∀ (f i : Nat), (∀ j, j < i → (GS Wh sp q j).1 < Wh) → Wh ≤ (GS Wh sp q (i + f)).1 → (∀ j, j < lnd Wh sp q f i → (GS Wh sp q j).1 < Wh) ∧ Wh ≤ (GS Wh sp q (lnd Wh sp q f i)).1 ∧ lnd Wh sp q f i ≤ i + f := by
  intro f
  induction f with
  | zero => intro i h1 h2; exact ⟨h1, h2, Nat.le_refl _⟩
  | succ f ih =>
    intro i h1 h2
    rw [lnd]
    by_cases c : Wh ≤ (GS Wh sp q i).1
    · rw [if_pos c]; exact ⟨h1, c, by omega⟩
    · rw [if_neg c]
      obtain ⟨a, b, d⟩ := ih (i + 1) (fun j hj => by
        by_cases e : j = i
        · subst e; omega
        · exact h1 j (by omega)) (by rw [show i + 1 + f = i + (f + 1) by omega]; exact h2)
      exact ⟨a, b, by omega⟩
/-- the numbers of one flight -/
def wh (b A T : Nat) : Nat := Ln A T * (100 - 4 * b) / 100
def nN (sp dr b A T : Nat) : Nat := lnd (wh b A T) sp (100 - dr - 2 * b) 43 0
def gN (sp dr b A T i : Nat) : Nat := (GS (wh b A T) sp (100 - dr - 2 * b) i).1
def sN (sp dr b A T i : Nat) : Nat := (GS (wh b A T) sp (100 - dr - 2 * b) i).2
def cN (sp dr b A T i : Nat) : Int32 := plV A T (gN sp dr b A T i)
def ovN (sp dr b A T : Nat) : Nat → Nat
  | 0 => 0
  | i + 1 => ovN sp dr b A T i + (if cN sp dr b A T (i + 1) = -1 then 0 else 1)
def pkN (sp dr b A T : Nat) : Nat → Nat
  | 0 => 0
  | i + 1 => if cN sp dr b A T (i + 1) = -1 then pkN sp dr b A T i else pkN sp dr b A T i * 16 + (cN sp dr b A T (i + 1)).toNatClampNeg
def fmN (sp dr me b A T : Nat) : Nat := if ovN sp dr b A T (nN sp dr b A T) = 0 then 0 else nN sp dr b A T + 1 - min (ovN sp dr b A T (nN sp dr b A T)) me
def pathN (sp dr me b A T : Nat) : Nat := pkN sp dr b A T (nN sp dr b A T) % 16777216 * 4096 + fmN sp dr me b A T * 64 + nN sp dr b A T
/-- what a KIND and THE FEATHER may be -/
def okF (sp dr me b : Nat) : Prop := (10 ≤ sp ∧ sp ≤ 60) ∧ dr ≤ 60 ∧ (1 ≤ me ∧ me ≤ 6) ∧ b ≤ 8
section FL
variable {sp dr me b A T : Nat}
theorem wh_rng (hb : b ≤ 8) (hA : A < 16) (hT : T < 16) : 6 ≤ wh b A T ∧ wh b A T ≤ Ln A T ∧ wh b A T ≤ 85 := by
  have h := Ln_rng hA hT
  unfold wh
  have h1 : Ln A T * (100 - 4 * b) ≤ Ln A T * 100 := Nat.mul_le_mul_left _ (by omega)
  have h2 : Ln A T * 68 ≤ Ln A T * (100 - 4 * b) := Nat.mul_le_mul_left _ (by omega)
  omega
theorem nN_spec (h : okF sp dr me b) (hA : A < 16) (hT : T < 16) : (∀ j, j < nN sp dr b A T → gN sp dr b A T j < wh b A T) ∧ gN sp dr b A T (nN sp dr b A T) = wh b A T ∧ nN sp dr b A T ≤ 43 ∧ 1 ≤ nN sp dr b A T := by
  obtain ⟨⟨a1, a2⟩, a3, a4, a5⟩ := h
  have hw := wh_rng a5 hA hT
  have hg := GS_ge (Wh := wh b A T) (sp := sp) (q := 100 - dr - 2 * b) (by omega) a2 (by omega) 43
  obtain ⟨s1, s2, s3⟩ := lnd_spec (Wh := wh b A T) (sp := sp) (q := 100 - dr - 2 * b) 43 0 (fun j hj => by omega) (by rw [Nat.zero_add]; omega)
  have s4 := GS_le (wh b A T) sp (100 - dr - 2 * b) (lnd (wh b A T) sp (100 - dr - 2 * b) 43 0)
  refine ⟨s1, by unfold gN nN; omega, by unfold nN; omega, ?_⟩
  rcases Nat.eq_zero_or_pos (nN sp dr b A T) with e | e
  · have s5 : wh b A T ≤ gN sp dr b A T (nN sp dr b A T) := s2
    rw [e] at s5
    have : gN sp dr b A T 0 = 0 := rfl
    omega
  · exact e
theorem gN_le (hb : b ≤ 8) (hA : A < 16) (hT : T < 16) (i : Nat) : gN sp dr b A T i ≤ Ln A T := Nat.le_trans (GS_le _ _ _ i) (wh_rng hb hA hT).2.1
theorem cN_rng (hb : b ≤ 8) (hA : A < 16) (hT : T < 16) (i : Nat) : cN sp dr b A T i = -1 ∨ ∃ c, c < 16 ∧ cN sp dr b A T i = nI c := pl_rng hA hT (gN_le hb hA hT i)
theorem cN_mono (hb : b ≤ 8) (hA : A < 16) (hT : T < 16) (i : Nat) (h : ¬ cN sp dr b A T i = -1) : ¬ cN sp dr b A T (i + 1) = -1 := by
  have h1 : gN sp dr b A T i ≤ gN sp dr b A T (i + 1) := GS_mono i
  have := pl_mono hA hT (gN sp dr b A T (i + 1) - gN sp dr b A T i) (gN sp dr b A T i) (by have := gN_le (sp := sp) (dr := dr) hb hA hT (i + 1); omega) h
  rw [show gN sp dr b A T i + (gN sp dr b A T (i + 1) - gN sp dr b A T i) = gN sp dr b A T (i + 1) by omega] at this
  exact this
theorem ov_le : ∀ i, ovN sp dr b A T i ≤ i := by
  intro i
  induction i with
  | zero => exact Nat.le_refl _
  | succ i ih => rw [ovN]; split <;> omega
theorem ov_suf (hb : b ≤ 8) (hA : A < 16) (hT : T < 16) : ∀ i j, 1 ≤ j → j ≤ i → (¬ cN sp dr b A T j = -1 ↔ i - ovN sp dr b A T i < j) := by
  intro i
  induction i with
  | zero => intro j h1 h2; omega
  | succ i ih =>
    intro j h1 h2
    have hl := ov_le (sp := sp) (dr := dr) (b := b) (A := A) (T := T) i
    rw [ovN]
    by_cases c : cN sp dr b A T (i + 1) = -1
    · rw [if_pos c]
      have o0 : ovN sp dr b A T i = 0 := by
        rcases Nat.eq_zero_or_pos (ovN sp dr b A T i) with e | e
        · exact e
        · exact absurd c (cN_mono hb hA hT i ((ih i (by omega) (Nat.le_refl _)).mpr (by omega)))
      rw [o0]
      by_cases e : j = i + 1
      · subst e; exact ⟨fun q => absurd c q, fun q => by omega⟩
      · have := ih j h1 (by omega)
        rw [o0] at this
        rw [this]; omega
    · rw [if_neg c]
      by_cases e : j = i + 1
      · subst e; exact ⟨fun _ => by omega, fun _ => c⟩
      · rw [ih j h1 (by omega)]; omega
theorem pkD (hb : b ≤ 8) (hA : A < 16) (hT : T < 16) {N : Nat} : ∀ d, d ≤ ovN sp dr b A T N → pkN sp dr b A T N / 16 ^ d = pkN sp dr b A T (N - d) := by
  intro d
  induction d with
  | zero => intro _; simp
  | succ d ih =>
    intro hd
    have hl := ov_le (sp := sp) (dr := dr) (b := b) (A := A) (T := T) N
    have h := ih (by omega)
    rw [Nat.pow_succ, ← Nat.div_div_eq_div_mul, h]
    obtain ⟨n, hn⟩ : ∃ n, N - d = n + 1 := ⟨N - d - 1, by omega⟩
    have hc : ¬ cN sp dr b A T (n + 1) = -1 := (ov_suf hb hA hT N (n + 1) (by omega) (by omega)).mpr (by omega)
    rw [hn, pkN, if_neg hc, show N - (d + 1) = n by omega]
    rcases cN_rng (sp := sp) (dr := dr) hb hA hT (n + 1) with e | ⟨c, c1, c2⟩
    · exact absurd e hc
    · rw [c2, nI_cl (by omega)]; omega
theorem pk_cell (hb : b ≤ 8) (hA : A < 16) (hT : T < 16) {N d : Nat} (hd : d < ovN sp dr b A T N) : nI (pkN sp dr b A T N / 16 ^ d % 16) = cN sp dr b A T (N - d) := by
  have hl := ov_le (sp := sp) (dr := dr) (b := b) (A := A) (T := T) N
  rw [pkD hb hA hT d (by omega)]
  obtain ⟨n, hn⟩ : ∃ n, N - d = n + 1 := ⟨N - d - 1, by omega⟩
  have hc : ¬ cN sp dr b A T (n + 1) = -1 := (ov_suf hb hA hT N (n + 1) (by omega) (by omega)).mpr (by omega)
  rw [hn, pkN, if_neg hc]
  rcases cN_rng (sp := sp) (dr := dr) hb hA hT (n + 1) with e | ⟨c, c1, c2⟩
  · exact absurd e hc
  · rw [c2, nI_cl (by omega)]
    congr 1
    omega
end FL
