/-! masks of CELLS -/
def mk (x : Int32) (P : Nat → Prop) : Prop := ∀ c, x.toBitVec.getLsbD c = true ↔ (c < 16 ∧ P c)
theorem mk_or {x y : Int32} {P Q : Nat → Prop} (hx : mk x P) (hy : mk y Q) : mk (x ||| y) (fun c => P c ∨ Q c) := by
  intro c
  rw [Int32.toBitVec_or, BitVec.getLsbD_or, Bool.or_eq_true, hx c, hy c]
  exact and_or_left.symm
theorem mk_and {x y : Int32} {P Q : Nat → Prop} (hx : mk x P) (hy : mk y Q) : mk (x &&& y) (fun c => P c ∧ Q c) := by
  intro c
  rw [Int32.toBitVec_and, BitVec.getLsbD_and, Bool.and_eq_true, hx c, hy c]
  exact ⟨fun ⟨⟨a, b⟩, _, d⟩ => ⟨a, b, d⟩, fun ⟨a, b, d⟩ => ⟨⟨a, b⟩, a, d⟩⟩
theorem m1_bits : (-1 : Int32).toBitVec = BitVec.allOnes 32 := by decide
theorem mk_sub {x y : Int32} {P Q : Nat → Prop} (hx : mk x P) (hy : mk y Q) : mk (x &&& (y ^^^ -1)) (fun c => P c ∧ ¬ Q c) := by
  intro c
  rw [Int32.toBitVec_and, BitVec.getLsbD_and, Int32.toBitVec_xor, BitVec.getLsbD_xor, m1_bits, BitVec.getLsbD_allOnes, Bool.and_eq_true, hx c]
  constructor
  · rintro ⟨⟨a, b⟩, d⟩
    refine ⟨a, b, fun q => ?_⟩
    rw [(hy c).mpr ⟨a, q⟩] at d
    simp [show c < 32 by omega] at d
  · rintro ⟨a, b, d⟩
    refine ⟨⟨a, b⟩, ?_⟩
    have : y.toBitVec.getLsbD c = false := by
      cases e : y.toBitVec.getLsbD c with
      | false => rfl
      | true => exact absurd ((hy c).mp e).2 d
    rw [this]
    simp [show c < 32 by omega]
theorem mk_all : mk 65535 (fun _ => True) := by
  intro c
  by_cases h : c < 32
  · have : ∀ c, c < 32 → ((65535 : Int32).toBitVec.getLsbD c = true ↔ c < 16) := by decide
    rw [this c h]; simp
  · rw [BitVec.getLsbD_of_ge _ _ (by omega)]
    constructor
    · intro q; cases q
    · rintro ⟨a, -⟩; omega
theorem mk_0 : mk 0 (fun _ => False) := by
  intro c
  have : (0 : Int32).toBitVec = 0#32 := by decide
  rw [this]; simp
theorem mk_congr {x : Int32} {P Q : Nat → Prop} (h : mk x P) (hpq : ∀ c, c < 16 → (P c ↔ Q c)) : mk x Q := fun c => by
  rw [h c]
  exact ⟨fun ⟨a, q⟩ => ⟨a, (hpq c a).mp q⟩, fun ⟨a, q⟩ => ⟨a, (hpq c a).mpr q⟩⟩
theorem mk_inj {x y : Int32} {P Q : Nat → Prop} (hx : mk x P) (hy : mk y Q) : x = y ↔ ∀ c, c < 16 → (P c ↔ Q c) := by
  constructor
  · rintro rfl c hc
    have := (hx c).symm.trans (hy c)
    exact ⟨fun q => (this.mp ⟨hc, q⟩).2, fun q => (this.mpr ⟨hc, q⟩).2⟩
  · intro h
    apply Int32.toBitVec_inj.mp
    apply BitVec.eq_of_getLsbD_eq
    intro i _
    have := (mk_congr hx h) i
    rw [Bool.eq_iff_iff, this, hy i]
theorem mk_eq0 {x : Int32} {P : Nat → Prop} (h : mk x P) : x = 0 ↔ ∀ c, c < 16 → ¬ P c := by
  rw [mk_inj h mk_0]
  exact ⟨fun a c hc q => (a c hc).mp q, fun a c hc => ⟨fun q => a c hc q, fun q => q.elim⟩⟩
theorem sh16 : ∀ c, c < 16 → ((nI c &&& 31).toBitVec.smod 32).toNat = c := by decide +kernel
theorem holds_mk {x : Int32} {P : Nat → Prop} (h : mk x P) {c : Nat} (hc : c < 16) : (f_X2_holds x (nI c) = some 1 ∧ P c) ∨ (f_X2_holds x (nI c) = some 0 ∧ ¬ P c) := by
  have key : ((x >>> (nI c &&& 31)) &&& 1) = 1 ↔ x.toBitVec.getLsbD c = true := by
    have e : (x >>> (nI c &&& 31)).toBitVec = x.toBitVec.sshiftRight c := by
      rw [Int32.toBitVec_shiftRight]
      show x.toBitVec.sshiftRight ((nI c &&& 31).toBitVec.smod 32).toNat = _
      rw [sh16 c hc]
    have o : (1 : Int32).toBitVec = 1#32 := by decide
    constructor
    · intro q
      have := congrArg (fun z : Int32 => z.toBitVec.getLsbD 0) q
      simp only [Int32.toBitVec_and, BitVec.getLsbD_and, e, o, BitVec.getLsbD_sshiftRight] at this
      simpa [show c < 32 by omega] using this
    · intro q
      apply Int32.toBitVec_inj.mp
      apply BitVec.eq_of_getLsbD_eq
      intro i hi
      rw [Int32.toBitVec_and, BitVec.getLsbD_and, e, o]
      by_cases z : i = 0
      · subst z
        rw [BitVec.getLsbD_sshiftRight]
        simp [show c < 32 by omega, q]
      · simp [BitVec.getLsbD_one, z]
  unfold f_X2_holds
  by_cases g : x.toBitVec.getLsbD c = true
  · exact Or.inl ⟨by rw [if_pos (key.mpr g)], ((h c).mp g).2⟩
  · exact Or.inr ⟨by rw [if_neg (fun z => g (key.mp z))], fun q => g ((h c).mpr ⟨hc, q⟩)⟩
def nrV (d k : Nat) : Int32 := (f_X2_near (nI d) (nI k)).getD 0
theorem near_tab : (List.range 16).all (fun d => (List.range 3).all (fun k => decide (f_X2_near (nI d) (nI k) = some (nrV d k)) && (List.range 32).all (fun c => (nrV d k).toBitVec.getLsbD c == (decide (c < 16) && decide (fdN d c ≤ k))))) = true := by decide +kernel
theorem near_mk {d k : Nat} (hd : d < 16) (hk : k < 1000) : ∃ x, f_X2_near (nI d) (nI k) = some x ∧ mk x (fun c => fdN d c ≤ k) := by
  by_cases h : k < 3
  · have t := List.all_eq_true.mp (List.all_eq_true.mp near_tab d (List.mem_range.mpr hd)) k (List.mem_range.mpr h)
    rw [Bool.and_eq_true] at t
    refine ⟨_, of_decide_eq_true t.1, fun c => ?_⟩
    by_cases hc : c < 32
    · have u := List.all_eq_true.mp t.2 c (List.mem_range.mpr hc)
      rw [eq_of_beq u]; simp
    · rw [BitVec.getLsbD_of_ge _ _ (by omega)]
      constructor
      · intro q; cases q
      · rintro ⟨a, -⟩; omega
  · refine ⟨65535, ?_, mk_congr mk_all (fun c hc => ⟨fun _ => ?_, fun _ => trivial⟩)⟩
    · rw [f_X2_near, if_neg (show ¬ nI k < 3 from nI_nlt (b := 3) (by omega) (by omega))]
    · have := (farN hd hc).2
      omega
theorem fdN_comm (c d : Nat) : fdN c d = fdN d c := by
  unfold fdN
  rw [Nat.add_comm (c / 4 - d / 4), Nat.add_comm (c % 4 - d % 4)]
/-- one PLAYER of the class -/
def PL (us : St) (p st rc : Nat) : Prop := us.2.1 3 p = nI st ∧ us.2.1 1 p = nI rc ∧ p < 8 ∧ st ≤ 20 ∧ rc ≤ 2
theorem PL.meet {us : St} {p st rc : Nat} (h : PL us p st rc) {d j : Nat} (hd : d < 16) (hj : j ≤ 60) : ∃ x, f_X6_meetingCells us (nI p) (nI d) (nI j) = some x ∧ mk x (fun c => fdN c d ≤ j * st / 10 + rc) := by
  obtain ⟨h3, h1, hp, hst, hrc⟩ := h
  have hm : j * st ≤ 60 * 20 := Nat.mul_le_mul hj hst
  obtain ⟨x, x1, x2⟩ := near_mk (k := j * st / 10 + rc) hd (by omega)
  refine ⟨x, ?_, mk_congr x2 (fun c _ => by rw [fdN_comm])⟩
  rw [f_X6_meetingCells, comes6 h3 hp hst hj, bd_s, ld_ok (okN hp (by decide)), nI_cl (by omega), h1, nI_add, x1, bd_s]
theorem PL.near {us : St} {p st rc : Nat} (h : PL us p st rc) {d j : Nat} (hd : d < 16) (hj : j ≤ 60) : ∃ y x, f_X6_comes us (nI p) (nI j) = some y ∧ f_X2_near (nI d) y = some x ∧ mk x (fun c => fdN d c ≤ j * st / 10) := by
  obtain ⟨h3, h1, hp, hst, hrc⟩ := h
  have hm : j * st ≤ 60 * 20 := Nat.mul_le_mul hj hst
  obtain ⟨x, x1, x2⟩ := near_mk (k := j * st / 10) hd (by omega)
  exact ⟨_, x, comes6 h3 hp hst hj, x1, x2⟩
