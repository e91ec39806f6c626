/-! my own words: a state of a class, the pure steps, and rows that follow a pure function along the machine -/
abbrev St : Type := (Nat → Int32) × (Nat → Nat → Int32) × (Nat → Int64)
def st_i (u : St) (k : Nat) (v : Int32) : St := (va_up u.1 k v, u.2)
def st_r (u : St) (k : Nat) (f : Nat → Int32) : St := (u.1, va_up u.2.1 k f, u.2.2)
def st_l (u : St) (f : Nat → Int64) : St := (u.1, u.2.1, f)
def nm {α β : Type} (e : α) (k : α → β) : β := k e
def ld {α β : Type} (n : Nat) (f : Nat → α) (i : Int32) (k : α → Option β) : Option β := if i < 0 ∨ n ≤ i.toNatClampNeg then none else k (f i.toNatClampNeg)
def sti {β : Type} (n : Nat) (u : St) (k : Nat) (i x : Int32) (K : St → Option β) : Option β := if i < 0 ∨ n ≤ i.toNatClampNeg then none else K (st_r u k (upd (u.2.1 k) i.toNatClampNeg x))
def stz {β : Type} (n : Nat) (u : St) (k : Nat) (i x : Int32) (K : St → Option β) : Option β := if i < 0 ∨ n ≤ i.toNatClampNeg then none else K (st_r u k (upd (u.2.1 k) i.toNatClampNeg (vp_nar .boolean x)))
def stl {β : Type} (n : Nat) (u : St) (i : Int32) (x : Int64) (K : St → Option β) : Option β := if i < 0 ∨ n ≤ i.toNatClampNeg then none else K (st_l u (vp_updL u.2.2 i.toNatClampNeg x))
def dv {β : Type} (y : Int32) (k : Option β) : Option β := if y = 0 then none else k
def dvl {β : Type} (y : Int64) (k : Option β) : Option β := if y = 0 then none else k
def bk {β : Type} (v : Int32) (k : Option β) : Option β := if v = 0 ∨ v = 1 then k else none
def bd {α β : Type} (e : Option α) (k : α → Option β) : Option β := match e with
  | some a => k a
  | none => none
def bd2 {α γ β : Type} (e : Option (α × γ)) (k : α → γ → Option β) : Option β := match e with
  | some (a, b) => k a b
  | none => none
def bd3 {α γ δ β : Type} (e : Option (α × γ × δ)) (k : α → γ → δ → Option β) : Option β := match e with
  | some (a, b, d) => k a b d
  | none => none
theorem bd_some {α β : Type} {e : Option α} {k : α → Option β} {o : β} (h : bd e k = some o) : ∃ a, e = some a ∧ k a = some o := by
  cases e with
  | none => cases h
  | some a => exact ⟨a, rfl, h⟩
theorem bd2_some {α γ β : Type} {e : Option (α × γ)} {k : α → γ → Option β} {o : β} (h : bd2 e k = some o) : ∃ a b, e = some (a, b) ∧ k a b = some o := by
  cases e with
  | none => cases h
  | some a => obtain ⟨a, b⟩ := a; exact ⟨a, b, rfl, h⟩
theorem bd3_some {α γ δ β : Type} {e : Option (α × γ × δ)} {k : α → γ → δ → Option β} {o : β} (h : bd3 e k = some o) : ∃ a b d, e = some (a, b, d) ∧ k a b d = some o := by
  cases e with
  | none => cases h
  | some a => obtain ⟨a, b, d⟩ := a; exact ⟨a, b, d, rfl, h⟩
theorem ld_some {α β : Type} {n : Nat} {f : Nat → α} {i : Int32} {k : α → Option β} {o : β} (h : ld n f i k = some o) : vp_in i n ∧ k (f i.toNatClampNeg) = some o := by
  unfold ld at h
  by_cases hc : i < 0 ∨ n ≤ i.toNatClampNeg
  · rw [if_pos hc] at h; cases h
  · rw [if_neg hc] at h; exact ⟨hc, h⟩
theorem bk_some {β : Type} {v : Int32} {k : Option β} {o : β} (h : bk v k = some o) : (v = 0 ∨ v = 1) ∧ k = some o := by
  unfold bk at h
  by_cases hc : v = 0 ∨ v = 1
  · rw [if_pos hc] at h; exact ⟨hc, h⟩
  · rw [if_neg hc] at h; cases h
theorem dv_some {β : Type} {y : Int32} {k : Option β} {o : β} (h : dv y k = some o) : ¬ y = 0 ∧ k = some o := by
  unfold dv at h
  by_cases hc : y = 0
  · rw [if_pos hc] at h; cases h
  · rw [if_neg hc] at h; exact ⟨hc, h⟩
theorem dvl_some {β : Type} {y : Int64} {k : Option β} {o : β} (h : dvl y k = some o) : ¬ y = 0 ∧ k = some o := by
  unfold dvl at h
  by_cases hc : y = 0
  · rw [if_pos hc] at h; cases h
  · rw [if_neg hc] at h; exact ⟨hc, h⟩
def tyL (cy : Nat → ClassId) : List (ClassId × FieldType) := [(cy 0, .int), (cy 1, .long), (cy 2, .boolean)]
/-- what a method's proof has at every point -/
def Cx (p : Program) (s : State) (m : MethodId) (meth : Method) (c : Code) (args : Array Value) (cc : ByteArray) (nL : Nat) (ret : Option FieldType) (Ts : List Cond) (own : String) (D : va_G) (cy : Nat → ClassId) (A : Nat → Prop) : Prop :=
  p.tables.exec = Jvm.exec ∧ c.code = cc ∧ meth.sig.returnType = ret ∧ c.maxLocals = nL ∧ s.vm.findClass own = some m.cls ∧ (∀ w ∈ Ts, w.before args s = true) ∧ meth.locks = false ∧ va_K D vwCl (tyL cy) s ∧ ∀ q, s.heap.size ≤ q → A q
/-- the worlds behind a method, and its end -/
def Bw (D : va_G) (cy : Nat → ClassId) (A : Nat → Prop) (w : va_W) (_ : Unit) (t : State) : Prop := va_P D vwCl w t.heap ∧ va_K D vwCl (tyL cy) t ∧ va_D A w
def QI (below : List Frame) (args : Array Value) (s : State) (A : Nat → Prop) (D : va_G) (cy : Nat → ClassId) (w' : va_W) (r : Int32) : State → Prop := MQ below (va_Qi (fun r' (_ : Unit) => r' = r) (Bw D cy A w') A) args s 0 0 A
def QL (below : List Frame) (args : Array Value) (s : State) (A : Nat → Prop) (D : va_G) (cy : Nat → ClassId) (w' : va_W) (r : Int64) : State → Prop := MQ below (va_Ql (fun r' (_ : Unit) => r' = r) (Bw D cy A w') A) args s 0 0 A
def QV (below : List Frame) (args : Array Value) (s : State) (A : Nat → Prop) (D : va_G) (cy : Nat → ClassId) (w' : va_W) : State → Prop := MQ below (va_Qv (fun (_ : Unit) => True) (Bw D cy A w') A) args s 0 0 A
def CPre (D : va_G) (cy : Nat → ClassId) (w : va_W) (sz : Nat) (av : List Value) : Array Value → State → Prop := va_Pc av (fun U => U.heap.size = sz ∧ va_P D vwCl w U.heap ∧ va_K D vwCl (tyL cy) U ∧ va_D (fun _ => True) w)
def CtI (l : Launch) (y : MethodName) (ws : List Cond) (rm : Room) (av : List Value) (D : va_G) (cy : Nat → ClassId) (w w' : va_W) (r : Int32) : Prop := ∀ sz : Nat, Met l y ws rm (CPre D cy w sz av) (va_Qi (fun r' (_ : Unit) => r' = r) (Bw D cy (va_A w sz) w') (va_A w sz)) 0 0 (va_A w sz)
def CtL (l : Launch) (y : MethodName) (ws : List Cond) (rm : Room) (av : List Value) (D : va_G) (cy : Nat → ClassId) (w w' : va_W) (r : Int64) : Prop := ∀ sz : Nat, Met l y ws rm (CPre D cy w sz av) (va_Ql (fun r' (_ : Unit) => r' = r) (Bw D cy (va_A w sz) w') (va_A w sz)) 0 0 (va_A w sz)
def CtV (l : Launch) (y : MethodName) (ws : List Cond) (rm : Room) (av : List Value) (D : va_G) (cy : Nat → ClassId) (w w' : va_W) : Prop := ∀ sz : Nat, Met l y ws rm (CPre D cy w sz av) (va_Qv (fun (_ : Unit) => True) (Bw D cy (va_A w sz) w') (va_A w sz)) 0 0 (va_A w sz)
/-- rooms by the height of a method over its callees -/
def rmH (d : Nat) : Room := { frames := d, cells := 0, slots := 0, locals := 48 * d }
section XS
variable {l : Launch} {y : MethodName} {ws ws' : List Cond} {rm : Room} {av : List Value} {D : va_G} {cy : Nat → ClassId} {w w' : va_W} {cc : ByteArray} {maxL : Nat} {ret : Option FieldType}
theorem ct_enter {Qc : Nat → Array Value → State → Outcome → State → Prop} (hy : plainName y.cls = true) (hw : ws = Cond.code y cc maxL ret :: ws') (hle : (lg_sl av).length ≤ maxL)
    (k : ∀ (p : Program) (e : Env) (s : State) (m : MethodId) (below : List Frame) (meth : Method) (c : Code) (A : Nat → Prop), Cx p s m meth c av.toArray cc maxL ret ws y.cls D cy A → A = va_A w s.heap.size →
      ∀ ls, lv_has ls maxL (lv_args 0 av) → va_P D vwCl w s.heap → va_D A w → va_S A s.heap s.heap [] →
      W p l e rm s m av.toArray below meth c s.heap [] 0 0 (MQ below (Qc s.heap.size) av.toArray s 0 0 A) (F0 m 0 ls [])) (sz : Nat) :
    Met l y ws rm (CPre D cy w sz av) (Qc sz) 0 0 (va_A w sz) := by
  refine Met.ofW (cc := cc) (maxL := maxL) (ret := ret) hy hw ?_
  intro p e s m args below meth c s₁ B hml hv
  obtain ⟨rfl, hsz, hP, hK, hD0⟩ := hv
  subst hsz
  have hl := lv_entry av (n := maxL) hle
  rw [lg_entry_eq]
  exact k p e s m below meth c (va_A w s.heap.size) ⟨B.exec, B.bytes, B.returns, hml, findClass_of_methodNamed B.named, atoms_spec (ws := ws) B.pre, B.notSynchronized, hK, fun q h => Or.inr h⟩ rfl _ hl hP hD0.self va_S.rf
end XS
theorem vd_nodup {A : Nat → Prop} {ws : va_W} (h : va_D A ws) : (ws.map Prod.fst).Nodup := by
  rw [List.nodup_iff_pairwise_ne, List.pairwise_iff_getElem]
  intro i j hi hj hij he
  simp only [List.length_map] at hi hj
  have := h.1 i j ws[i] ws[j] (List.getElem?_eq_getElem hi) (List.getElem?_eq_getElem hj) (by simpa using he)
  omega
theorem vd_of {A : Nat → Prop} {ws : va_W} (h : (ws.map Prod.fst).Nodup) (hA : ∀ q ∈ ws, A q.1) : va_D A ws := by
  refine ⟨fun i j p q hp hq he => ?_, fun k q hk => hA q (List.mem_of_getElem? hk)⟩
  rw [List.nodup_iff_pairwise_ne, List.pairwise_iff_getElem] at h
  obtain ⟨hi, rfl⟩ := List.getElem?_eq_some_iff.mp hp
  obtain ⟨hj, rfl⟩ := List.getElem?_eq_some_iff.mp hq
  rcases Nat.lt_trichotomy i j with c | c | c
  · exact absurd (by rw [List.getElem_map, List.getElem_map]; exact he) (h i j (by simpa using hi) (by simpa using hj) c)
  · exact c
  · exact absurd (by rw [List.getElem_map, List.getElem_map]; exact he.symm) (h j i (by simpa using hj) (by simpa using hi) c)
theorem vp_of {D : va_G} {cl : List vw_C} {ws : va_W} {H : Heap} : va_P D cl ws H ↔ ∀ q ∈ ws, va_at D cl q H := by
  constructor
  · intro h q hq
    obtain ⟨k, hk⟩ := List.getElem?_of_mem hq
    exact h k q hk
  · intro h k q hk
    exact h q (List.mem_of_getElem? hk)
theorem va_A_mem {ws : va_W} {sz : Nat} {q : Nat} (h : va_A ws sz q) : (∃ x ∈ ws, x.1 = q) ∨ sz ≤ q := by
  rcases h with ⟨k, e, h⟩ | h
  · exact Or.inl ⟨(q, e), List.mem_of_getElem? h, rfl⟩
  · exact Or.inr h
/-- the frame rule: what a callee does to its own cells, beside the rest -/
theorem fr_swap {D : va_G} {cl : List vw_C} {X w w' Y : va_W} {H H1 : Heap} {A0 : Nat → Prop} (hP : va_P D cl (X ++ (w ++ Y)) H) (hD : va_D A0 (X ++ (w ++ Y))) (hk : ∀ q : Nat, q < H.size → ¬ va_A w H.size q → H1[q]? = H[q]?) (hF : ∀ q, va_A w H.size q → A0 q)
    (hP1 : va_P D cl w' H1) (hD1 : va_D (va_A w H.size) w') : va_P D cl (X ++ (w' ++ Y)) H1 ∧ va_D A0 (X ++ (w' ++ Y)) := by
  have hN := vd_nodup hD
  have hN1 := vd_nodup hD1
  have hlt : ∀ q ∈ X ++ (w ++ Y), q.1 < H.size := fun q hq => by
    obtain ⟨k, hk⟩ := List.getElem?_of_mem hq
    exact (hP k q hk).lt
  rw [List.map_append, List.map_append, List.nodup_append, List.nodup_append] at hN
  obtain ⟨nX, ⟨nw, nY, dwY⟩, dX⟩ := hN
  have rest : ∀ q, q ∈ X ∨ q ∈ Y → q ∈ X ++ (w ++ Y) ∧ ¬ va_A w H.size q.1 := by
    intro q hq
    have hm : q ∈ X ++ (w ++ Y) := by simp only [List.mem_append]; rcases hq with h | h <;> simp [h]
    refine ⟨hm, fun ha => ?_⟩
    rcases va_A_mem ha with ⟨x, hx, e⟩ | h
    · rcases hq with h | h
      · exact dX q.1 (List.mem_map_of_mem h) x.1 (List.mem_append_left _ (List.mem_map_of_mem hx)) e.symm
      · exact dwY x.1 (List.mem_map_of_mem hx) q.1 (List.mem_map_of_mem h) e
    · have := hlt q hm; omega
  have hP' := vp_of.mp hP
  have keep : ∀ q, q ∈ X ∨ q ∈ Y → va_at D cl q H1 := by
    intro q hq
    obtain ⟨hm, hn⟩ := rest q hq
    have h1 : va_P D cl [q] H := fun k x hx => by
      have : x = q := by have := List.mem_of_getElem? hx; simpa using this
      subst this
      exact hP' x hm
    have h2 := h1.kept (H1 := H1) (fun k x hx => by
      have : x = q := by have := List.mem_of_getElem? hx; simpa using this
      subst this
      exact hk x.1 (hlt x hm) hn)
    exact h2 0 q rfl
  refine ⟨vp_of.mpr fun q hq => ?_, vd_of ?_ fun q hq => ?_⟩
  · simp only [List.mem_append] at hq
    rcases hq with h | h | h
    · exact keep q (Or.inl h)
    · exact vp_of.mp hP1 q h
    · exact keep q (Or.inr h)
  · rw [List.map_append, List.map_append, List.nodup_append, List.nodup_append]
    refine ⟨nX, ⟨hN1, nY, ?_⟩, ?_⟩
    · intro a ha b hb e
      obtain ⟨x, hx, rfl⟩ := List.mem_map.mp ha
      obtain ⟨z, hz, rfl⟩ := List.mem_map.mp hb
      obtain ⟨k, hk2⟩ := List.getElem?_of_mem hx
      exact (rest z (Or.inr hz)).2 (e ▸ hD1.2 k x hk2)
    · intro a ha b hb e
      obtain ⟨x, hx, rfl⟩ := List.mem_map.mp ha
      rcases List.mem_append.mp hb with hb | hb
      · obtain ⟨z, hz, rfl⟩ := List.mem_map.mp hb
        obtain ⟨k, hk2⟩ := List.getElem?_of_mem hz
        exact (rest x (Or.inl hx)).2 (e ▸ hD1.2 k z hk2)
      · exact dX x.1 (List.mem_map_of_mem hx) b (List.mem_append_right _ hb) e
  · simp only [List.mem_append] at hq
    rcases hq with h | h | h
    · obtain ⟨k, hk2⟩ := List.getElem?_of_mem (show q ∈ X ++ (w ++ Y) by simp [h])
      exact hD.2 k q hk2
    · obtain ⟨k, hk2⟩ := List.getElem?_of_mem h
      exact hF _ (hD1.2 k q hk2)
    · obtain ⟨k, hk2⟩ := List.getElem?_of_mem (show q ∈ X ++ (w ++ Y) by simp [h])
      exact hD.2 k q hk2
/-- the callee's cells out of the caller's -/
theorem fr_in {D : va_G} {cl : List vw_C} {X w Y : va_W} {H : Heap} {A0 : Nat → Prop} (hP : va_P D cl (X ++ (w ++ Y)) H) (hD : va_D A0 (X ++ (w ++ Y))) : va_P D cl w H ∧ va_D (fun _ => True) w := by
  refine ⟨vp_of.mpr fun q hq => vp_of.mp hP q (by simp [hq]), vd_of ?_ (fun _ _ => trivial)⟩
  have hN := vd_nodup hD
  rw [List.map_append, List.map_append, List.nodup_append, List.nodup_append] at hN
  exact hN.2.1.1
theorem fr_free {X w Y : va_W} {H0 H : Heap} {A0 : Nat → Prop} {locs : List Loc} (hD : va_D A0 (X ++ (w ++ Y))) (hS : va_S A0 H0 H locs) (hA : ∀ q, H0.size ≤ q → A0 q) : ∀ q, va_A w H.size q → A0 q := by
  intro q h
  rcases va_A_mem h with ⟨x, hx, rfl⟩ | h
  · obtain ⟨k, hk⟩ := List.getElem?_of_mem (show x ∈ X ++ (w ++ Y) by simp [hx])
    exact hD.2 k x hk
  · exact hA q (Nat.le_trans hS.1 h)
theorem cpre_blind {D : va_G} {cy : Nat → ClassId} {w : va_W} {sz : Nat} {av : List Value} : FrameBlind (CPre D cy w sz av) := by
  intro a U g mk q
  obtain ⟨q0, q1, qP, qK, qD⟩ := q
  exact ⟨q0, q1, qP, va_K.moved (u := U) (U := U.calling g mk a) (Vm.Alike.refl U.vm) qK, qD⟩
theorem cpre_at {D : va_G} {cy : Nat → ClassId} {w : va_W} {av : List Value} {s : State} {H : Heap} (hP : va_P D vwCl w H) (hD : va_D (fun _ => True) w) (hK : va_K D vwCl (tyL cy) s) : ∀ U : State, U.heap = H → s.WarmedH U.vm → CPre D cy w H.size av av.toArray U :=
  fun U hU hW => ⟨rfl, by rw [hU], by rw [hU]; exact hP, va_K.moved hW.alike hK, hD⟩
section XR
variable {p : Program} {l : Launch} {e : Env} {R : Room} {s : State} {m : MethodId} {args : Array Value} {below : List Frame} {meth : Method} {c : Code} {H : Heap} {locs : List Loc} {cells slots : Nat} {Q : State → Prop}
variable {cc : ByteArray} {pc : Nat} {ls : Array Slot} {rest : List Value} {D : va_G} {cl : List vw_C} {A : Nat → Prop} {a : Nat} {tys : List (ClassId × FieldType)} {ws : va_W} {H0 : Heap}
variable {β : Type} {o : β}
theorem x_nm {x : Int32} {K : Int32 → Option β} (h : nm x K = some o) (kk : ∀ v : Int32, K v = some o → W p l e R s m args below meth c H locs cells slots Q (F0 m pc ls (.int v :: rest))) : W p l e R s m args below meth c H locs cells slots Q (F0 m pc ls (.int x :: rest)) := kk x h
theorem x_nml {x : Int64} {K : Int64 → Option β} (h : nm x K = some o) (kk : ∀ v : Int64, K v = some o → W p l e R s m args below meth c H locs cells slots Q (F0 m pc ls (.long v :: rest))) : W p l e R s m args below meth c H locs cells slots Q (F0 m pc ls (.long x :: rest)) := kk x h
theorem x_iald (hexec : p.tables.exec = Jvm.exec) (hb : c.code = cc) (hK : va_K D cl tys s) (hP : va_P D cl ws H) (q0 : Nat) {cA : ClassId} {n : Nat} {f : Nat → Int32} (ha : ws[q0]? = some (a, .inl (cA, n, .inl f))) (ht : tys[0]? = some (cA, .int)) {i : Int32} {K : Int32 → Option β} (h : ld n f i K = some o) (hdg : decode cc pc = .ok (.iaload, 1))
    (kk : ∀ v : Int32, K v = some o → W p l e R s m args below meth c H locs cells slots Q (F0 m (pc + 1) ls (.int v :: rest))) : W p l e R s m args below meth c H locs cells slots Q (F0 m pc ls (.int i :: .ref a :: rest)) :=
  va_iald hexec hb hK hP q0 0 ha ht (ld_some h).1 hdg (kk _ (ld_some h).2)
theorem x_zald (hexec : p.tables.exec = Jvm.exec) (hb : c.code = cc) (hK : va_K D cl tys s) (hP : va_P D cl ws H) (q0 : Nat) {cA : ClassId} {n : Nat} {f : Nat → Int32} (ha : ws[q0]? = some (a, .inl (cA, n, .inl f))) (ht : tys[2]? = some (cA, .boolean)) {i : Int32} {K : Int32 → Option β} (h : ld n f i K = some o) (hdg : decode cc pc = .ok (.baload, 1))
    (kk : ∀ v : Int32, K v = some o → W p l e R s m args below meth c H locs cells slots Q (F0 m (pc + 1) ls (.int v :: rest))) : W p l e R s m args below meth c H locs cells slots Q (F0 m pc ls (.int i :: .ref a :: rest)) :=
  va_zald hexec hb hK hP q0 2 ha ht (ld_some h).1 hdg (kk _ (ld_some h).2)
theorem x_lald (hexec : p.tables.exec = Jvm.exec) (hb : c.code = cc) (hK : va_K D cl tys s) (hP : va_P D cl ws H) (q0 : Nat) {cA : ClassId} {n : Nat} {f : Nat → Int64} (ha : ws[q0]? = some (a, .inl (cA, n, .inr (.inl f)))) (ht : tys[1]? = some (cA, .long)) {i : Int32} {K : Int64 → Option β} (h : ld n f i K = some o) (hdg : decode cc pc = .ok (.laload, 1))
    (kk : ∀ v : Int64, K v = some o → W p l e R s m args below meth c H locs cells slots Q (F0 m (pc + 1) ls (.long v :: rest))) : W p l e R s m args below meth c H locs cells slots Q (F0 m pc ls (.int i :: .ref a :: rest)) :=
  va_lald hexec hb hK hP q0 1 ha ht (ld_some h).1 hdg (kk _ (ld_some h).2)
theorem x_iast {Wd : St → va_W} {u : St} {k : Nat} (hexec : p.tables.exec = Jvm.exec) (hb : c.code = cc) (hK : va_K D cl tys s) (hP : va_P D cl (Wd u) H) (hD : va_D A (Wd u)) (hS : va_S A H0 H locs) (q0 : Nat) {cA : ClassId} {n : Nat} (ha : (Wd u)[q0]? = some (a, .inl (cA, n, .inl (u.2.1 k)))) (ht : tys[0]? = some (cA, .int)) (hw : ∀ f, (Wd u).set q0 (a, .inl (cA, n, .inl f)) = Wd (st_r u k f)) {i x : Int32} {K : St → Option β} (h : sti n u k i x K = some o) (hdg : decode cc pc = .ok (.iastore, 1))
    (kk : ∀ (u' : St) (H1 : Heap) (locs1 : List Loc), K u' = some o → va_P D cl (Wd u') H1 → va_D A (Wd u') → va_S A H0 H1 locs1 → W p l e R s m args below meth c H1 locs1 cells slots Q (F0 m (pc + 1) ls rest)) : W p l e R s m args below meth c H locs cells slots Q (F0 m pc ls (.int x :: .int i :: .ref a :: rest)) := by
  unfold sti at h
  by_cases hc : i < 0 ∨ n ≤ i.toNatClampNeg
  · rw [if_pos hc] at h; cases h
  · rw [if_neg hc] at h
    refine va_iast hexec hb hK hP hD hS q0 0 ha ht hc hdg (fun H1 locs1 hP1 hD1 hS1 => ?_)
    rw [hw] at hP1 hD1
    exact kk _ H1 locs1 h hP1 hD1 hS1
theorem x_zast {Wd : St → va_W} {u : St} {k : Nat} (hexec : p.tables.exec = Jvm.exec) (hb : c.code = cc) (hK : va_K D cl tys s) (hP : va_P D cl (Wd u) H) (hD : va_D A (Wd u)) (hS : va_S A H0 H locs) (q0 : Nat) {cA : ClassId} {n : Nat} (ha : (Wd u)[q0]? = some (a, .inl (cA, n, .inl (u.2.1 k)))) (ht : tys[2]? = some (cA, .boolean)) (hw : ∀ f, (Wd u).set q0 (a, .inl (cA, n, .inl f)) = Wd (st_r u k f)) {i x : Int32} {K : St → Option β} (h : stz n u k i x K = some o) (hdg : decode cc pc = .ok (.bastore, 1))
    (kk : ∀ (u' : St) (H1 : Heap) (locs1 : List Loc), K u' = some o → va_P D cl (Wd u') H1 → va_D A (Wd u') → va_S A H0 H1 locs1 → W p l e R s m args below meth c H1 locs1 cells slots Q (F0 m (pc + 1) ls rest)) : W p l e R s m args below meth c H locs cells slots Q (F0 m pc ls (.int x :: .int i :: .ref a :: rest)) := by
  unfold stz at h
  by_cases hc : i < 0 ∨ n ≤ i.toNatClampNeg
  · rw [if_pos hc] at h; cases h
  · rw [if_neg hc] at h
    refine va_zast hexec hb hK hP hD hS q0 2 ha ht hc hdg (fun H1 locs1 hP1 hD1 hS1 => ?_)
    rw [hw] at hP1 hD1
    exact kk _ H1 locs1 h hP1 hD1 hS1
theorem x_last {Wd : St → va_W} {u : St} (hexec : p.tables.exec = Jvm.exec) (hb : c.code = cc) (hK : va_K D cl tys s) (hP : va_P D cl (Wd u) H) (hD : va_D A (Wd u)) (hS : va_S A H0 H locs) (q0 : Nat) {cA : ClassId} {n : Nat} (ha : (Wd u)[q0]? = some (a, .inl (cA, n, .inr (.inl u.2.2)))) (ht : tys[1]? = some (cA, .long)) (hw : ∀ f, (Wd u).set q0 (a, .inl (cA, n, .inr (.inl f))) = Wd (st_l u f)) {i : Int32} {x : Int64} {K : St → Option β} (h : stl n u i x K = some o) (hdg : decode cc pc = .ok (.lastore, 1))
    (kk : ∀ (u' : St) (H1 : Heap) (locs1 : List Loc), K u' = some o → va_P D cl (Wd u') H1 → va_D A (Wd u') → va_S A H0 H1 locs1 → W p l e R s m args below meth c H1 locs1 cells slots Q (F0 m (pc + 1) ls rest)) : W p l e R s m args below meth c H locs cells slots Q (F0 m pc ls (.long x :: .int i :: .ref a :: rest)) := by
  unfold stl at h
  by_cases hc : i < 0 ∨ n ≤ i.toNatClampNeg
  · rw [if_pos hc] at h; cases h
  · rw [if_neg hc] at h
    refine va_last hexec hb hK hP hD hS q0 1 ha ht hc hdg (fun H1 locs1 hP1 hD1 hS1 => ?_)
    rw [hw] at hP1 hD1
    exact kk _ H1 locs1 h hP1 hD1 hS1
theorem x_put {Wd : St → va_W} {u : St} (hexec : p.tables.exec = Jvm.exec) (hb : c.code = cc) {own ref C : String} {T : u_T} {N ci index : Nat} {Ts : List Cond} (hts : ∀ w ∈ Ts, w.before args s = true) (hin : ∀ w ∈ u_ws C T N, w ∈ Ts) (ty0 : Nat → FieldType) (hty : ∀ k, k < N → parseFieldDescriptor (T k).2.2.1 = some (ty0 k)) (hnm : ∀ a, a < N → ∀ b, b < N → a ≠ b → (T a).2.1 ≠ (T b).2.1) (hown : s.vm.findClass own = some m.cls) (hK : va_K D cl tys s) (hP : va_P D cl (Wd u) H) (hD : va_D A (Wd u)) (hS0 : va_S A H0 H locs) (q0 : Nat) {fs : List Value} (he : (Wd u)[q0]? = some (a, .inr (ci, fs))) (hc : cl[ci]? = some (C, T, N)) (k : Nat) (hk : k < N) (hlink : (Cond.fieldLink own index ref (T k).2.1 (T k).2.2.1).before args s = true) (hsame : ∀ x, s.fieldFound? (T k).1 (T k).2.1 (T k).2.2.1 = some x → s.fieldFound? ref (T k).2.1 (T k).2.2.1 = some x) (hfin : (T k).2.2.2 = false) {ty : FieldType} {v : Int32} (hd : parseFieldDescriptor (T k).2.2.1 = some ty) (hn : narrow ty (.int v) = .int v) (hfit : fits ty (.int v) = true) (hl : k < fs.length)
    (hw : ∀ v : Int32, (Wd u).set q0 (a, .inr (ci, fs.set k (.int v))) = Wd (st_i u k v)) {K : St → Option β} (h : nm (st_i u k v) K = some o)
    (hdg : decode cc pc = .ok (.putfield index, 3)) (kk : ∀ (u' : St) (H1 : Heap) (locs1 : List Loc), K u' = some o → va_P D cl (Wd u') H1 → va_D A (Wd u') → va_S A H0 H1 locs1 → W p l e R s m args below meth c H1 locs1 cells slots Q (F0 m (pc + 3) ls rest)) : W p l e R s m args below meth c H locs cells slots Q (F0 m pc ls (.int v :: .ref a :: rest)) := by
  refine va_put hexec hb hts hin ty0 hty hnm hown hK hP hD hS0 q0 he hc k hk hlink hsame hfin hd hn hfit hl hdg (fun H1 locs1 hP1 hD1 hS1 => ?_)
  rw [hw] at hP1 hD1
  exact kk _ H1 locs1 h hP1 hD1 hS1
theorem x_idiv (hexec : p.tables.exec = Jvm.exec) (hb : c.code = cc) {x y : Int32} {K : Option β} (hdg : decode cc pc = .ok (.idiv, 1)) (h : dv y K = some o)
    (k : K = some o → W p l e R s m args below meth c H locs cells slots Q (F0 m (pc + 1) ls (.int (x / y) :: rest))) : W p l e R s m args below meth c H locs cells slots Q (F0 m pc ls (.int y :: .int x :: rest)) := lv_idiv hexec hb hdg (dv_some h).1 (k (dv_some h).2)
theorem x_irem (hexec : p.tables.exec = Jvm.exec) (hb : c.code = cc) {x y : Int32} {K : Option β} (hdg : decode cc pc = .ok (.irem, 1)) (h : dv y K = some o)
    (k : K = some o → W p l e R s m args below meth c H locs cells slots Q (F0 m (pc + 1) ls (.int (x - x / y * y) :: rest))) : W p l e R s m args below meth c H locs cells slots Q (F0 m pc ls (.int y :: .int x :: rest)) := lv_irem hexec hb hdg (dv_some h).1 (k (dv_some h).2)
theorem x_ldiv (hexec : p.tables.exec = Jvm.exec) (hb : c.code = cc) {x y : Int64} {K : Option β} (hdg : decode cc pc = .ok (.ldiv, 1)) (h : dvl y K = some o)
    (k : K = some o → W p l e R s m args below meth c H locs cells slots Q (F0 m (pc + 1) ls (.long (x / y) :: rest))) : W p l e R s m args below meth c H locs cells slots Q (F0 m pc ls (.long y :: .long x :: rest)) := lv_ldiv hexec hb hdg (dvl_some h).1 (k (dvl_some h).2)
end XR
