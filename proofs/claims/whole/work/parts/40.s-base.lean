/-! the pure side: what the functions answer -/
def okI (i : Int32) (n : Nat) : Prop := ¬ (i < 0 ∨ n ≤ i.toNatClampNeg)
theorem ld_ok {α β : Type} {n : Nat} {f : Nat → α} {i : Int32} {k : α → Option β} (h : okI i n) : ld n f i k = k (f i.toNatClampNeg) := by
  unfold ld; rw [if_neg h]
theorem sti_ok {β : Type} {n : Nat} {u : St} {k : Nat} {i x : Int32} {K : St → Option β} (h : okI i n) : sti n u k i x K = K (st_r u k (upd (u.2.1 k) i.toNatClampNeg x)) := by
  unfold sti; rw [if_neg h]
theorem stz_ok {β : Type} {n : Nat} {u : St} {k : Nat} {i x : Int32} {K : St → Option β} (h : okI i n) : stz n u k i x K = K (st_r u k (upd (u.2.1 k) i.toNatClampNeg (vp_nar .boolean x))) := by
  unfold stz; rw [if_neg h]
theorem stl_ok {β : Type} {n : Nat} {u : St} {i : Int32} {x : Int64} {K : St → Option β} (h : okI i n) : stl n u i x K = K (st_l u (vp_updL u.2.2 i.toNatClampNeg x)) := by
  unfold stl; rw [if_neg h]
theorem dv_ok {β : Type} {y : Int32} {k : Option β} (h : ¬ y = 0) : dv y k = k := by unfold dv; rw [if_neg h]
theorem dvl_ok {β : Type} {y : Int64} {k : Option β} (h : ¬ y = 0) : dvl y k = k := by unfold dvl; rw [if_neg h]
theorem bk_0 {β : Type} {k : Option β} : bk 0 k = k := by unfold bk; rw [if_pos (Or.inl rfl)]
theorem bk_1 {β : Type} {k : Option β} : bk 1 k = k := by unfold bk; rw [if_pos (Or.inr rfl)]
theorem bd_s {α β : Type} {a : α} {k : α → Option β} : bd (some a) k = k a := rfl
theorem bd2_s {α γ β : Type} {a : α} {b : γ} {k : α → γ → Option β} : bd2 (some (a, b)) k = k a b := rfl
theorem bd3_s {α γ δ β : Type} {a : α} {b : γ} {d : δ} {k : α → γ → δ → Option β} : bd3 (some (a, b, d)) k = k a b d := rfl
theorem nar_0 : vp_nar .boolean 0 = 0 := by decide
theorem nar_1 : vp_nar .boolean 1 = 1 := by decide
theorem st_i_1 (u : St) (k : Nat) (v : Int32) : (st_i u k v).1 = va_up u.1 k v := rfl
theorem st_i_2 (u : St) (k : Nat) (v : Int32) : (st_i u k v).2 = u.2 := rfl
theorem st_r_1 (u : St) (k : Nat) (f : Nat → Int32) : (st_r u k f).1 = u.1 := rfl
theorem st_r_2 (u : St) (k : Nat) (f : Nat → Int32) : (st_r u k f).2.1 = va_up u.2.1 k f := rfl
theorem st_r_3 (u : St) (k : Nat) (f : Nat → Int32) : (st_r u k f).2.2 = u.2.2 := rfl
theorem st_l_1 (u : St) (f : Nat → Int64) : (st_l u f).1 = u.1 := rfl
theorem st_l_2 (u : St) (f : Nat → Int64) : (st_l u f).2.1 = u.2.1 := rfl
theorem st_l_3 (u : St) (f : Nat → Int64) : (st_l u f).2.2 = f := rfl
theorem up_eq {α : Type} (f : Nat → α) (k : Nat) (v : α) : va_up f k v k = v := by simp [va_up]
theorem up_ne {α : Type} (f : Nat → α) {k j : Nat} (v : α) (h : j ≠ k) : va_up f k v j = f j := by simp [va_up, h]
theorem clampI (x : Int32) (h : 0 ≤ x) : (x.toNatClampNeg : Int) = x.toInt := by
  have h1 : 0 ≤ x.toInt := by
    have := Int32.le_iff_toInt_le.mp h
    simpa using this
  show (x.toInt.toNat : Int) = x.toInt
  omega
theorem okI_of {i : Int32} {n : Nat} (h0 : 0 ≤ i) (h1 : i.toInt < n) : okI i n := by
  intro h
  rcases h with h | h
  · have := Int32.lt_iff_toInt_lt.mp h
    have h2 := Int32.le_iff_toInt_le.mp h0
    omega
  · have := clampI i h0
    omega
theorem okI_le {i m : Int32} {n : Nat} (h0 : 0 ≤ i) (h1 : i ≤ m) (hm : m.toInt < n) : okI i n := by
  refine okI_of h0 ?_
  have := Int32.le_iff_toInt_le.mp h1
  omega
theorem gd (v a b : Int32) : (a ≤ v ∧ v ≤ b ∧ f_X8_isWithin v a b = some 1 ∧ f_X9_in v a b = some 1) ∨ (¬ (a ≤ v ∧ v ≤ b) ∧ f_X8_isWithin v a b = some 0 ∧ f_X9_in v a b = some 0) := by
  unfold f_X8_isWithin f_X9_in
  by_cases h1 : v < a
  · refine Or.inr ⟨fun q => ?_, by rw [if_pos h1], by rw [if_pos h1]⟩
    have := Int32.lt_iff_toInt_lt.mp h1
    have := Int32.le_iff_toInt_le.mp q.1
    omega
  · by_cases h2 : b < v
    · refine Or.inr ⟨fun q => ?_, by rw [if_neg h1, if_pos h2], by rw [if_neg h1, if_pos h2]⟩
      have := Int32.lt_iff_toInt_lt.mp h2
      have := Int32.le_iff_toInt_le.mp q.2
      omega
    · refine Or.inl ⟨?_, ?_, by rw [if_neg h1, if_neg h2], by rw [if_neg h1, if_neg h2]⟩
      · exact Int32.not_lt.mp h1
      · exact Int32.not_lt.mp h2
theorem gP (v : Int32) : (0 ≤ v ∧ v ≤ 7 ∧ f_X8_isPlayer v = some 1 ∧ f_X9_isPlayer v = some 1) ∨ (f_X8_isPlayer v = some 0 ∧ f_X9_isPlayer v = some 0) := by
  unfold f_X8_isPlayer f_X9_isPlayer
  rcases gd v 0 7 with ⟨h1, h2, e1, e2⟩ | ⟨-, e1, e2⟩
  · exact Or.inl ⟨h1, h2, by rw [e1, bd_s, bk_1], by rw [e2, bd_s, bk_1]⟩
  · exact Or.inr ⟨by rw [e1, bd_s, bk_0], by rw [e2, bd_s, bk_0]⟩
theorem gC (v : Int32) : (0 ≤ v ∧ v ≤ 15 ∧ f_X8_isCell v = some 1 ∧ f_X9_isCell v = some 1) ∨ (f_X8_isCell v = some 0 ∧ f_X9_isCell v = some 0) := by
  unfold f_X8_isCell f_X9_isCell
  rcases gd v 0 15 with ⟨h1, h2, e1, e2⟩ | ⟨-, e1, e2⟩
  · exact Or.inl ⟨h1, h2, by rw [e1, bd_s, bk_1], by rw [e2, bd_s, bk_1]⟩
  · exact Or.inr ⟨by rw [e1, bd_s, bk_0], by rw [e2, bd_s, bk_0]⟩
theorem gK (v : Int32) : (0 ≤ v ∧ v ≤ 3 ∧ f_X8_isKind v = some 1 ∧ f_X9_isKind v = some 1) ∨ (f_X8_isKind v = some 0 ∧ f_X9_isKind v = some 0) := by
  unfold f_X8_isKind f_X9_isKind
  rcases gd v 0 3 with ⟨h1, h2, e1, e2⟩ | ⟨-, e1, e2⟩
  · exact Or.inl ⟨h1, h2, by rw [e1, bd_s, bk_1], by rw [e2, bd_s, bk_1]⟩
  · exact Or.inr ⟨by rw [e1, bd_s, bk_0], by rw [e2, bd_s, bk_0]⟩
theorem gZ (v : Int32) : (0 ≤ v ∧ v ≤ 3 ∧ f_X8_isZone v = some 1 ∧ f_X9_in v 0 3 = some 1) ∨ (f_X8_isZone v = some 0 ∧ f_X9_in v 0 3 = some 0) := by
  unfold f_X8_isZone
  rcases gd v 0 3 with ⟨h1, h2, e1, e2⟩ | ⟨-, e1, e2⟩
  · exact Or.inl ⟨h1, h2, by rw [e1, bd_s, bk_1], e2⟩
  · exact Or.inr ⟨by rw [e1, bd_s, bk_0], e2⟩
theorem FU_add (k : Nat) (h : k ≤ 2000000) : ∃ n, FU = n + k := ⟨2000000 - k, by unfold FU; omega⟩
theorem zne1 : ¬ (1 : Int32) = 0 := by decide
