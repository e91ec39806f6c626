def wX0 (cy : Nat → ClassId) (g : Nat → Nat) (u : St) : va_W := [(g 99, .inr (0, [.ref (g 0), .ref (g 1), .ref (g 2), .ref (g 3), .int (u.1 4)])), (g 0, .inl (cy 0, 4, .inl (u.2.1 0))), (g 1, .inl (cy 0, 4, .inl (u.2.1 1))), (g 2, .inl (cy 0, 4, .inl (u.2.1 2))), (g 3, .inl (cy 1, 1024, .inr (.inl u.2.2)))]
def wX1 (cy : Nat → ClassId) (g : Nat → Nat) (u : St) : va_W := [(g 199, .inr (1, [.ref (g 100), .ref (g 101), .ref (g 102), .int (u.1 3), .int (u.1 4), .int (u.1 5)])), (g 100, .inl (cy 0, 4, .inl (u.2.1 0))), (g 101, .inl (cy 0, 30, .inl (u.2.1 1))), (g 102, .inl (cy 0, 121, .inl (u.2.1 2)))]
def wX3 (cy : Nat → ClassId) (g : Nat → Nat) (u : St) : va_W := [(g 399, .inr (2, [.ref (g 99), .ref (g 699), .ref (g 302), .ref (g 303)])), (g 302, .inl (cy 0, 16, .inl (u.2.1 2))), (g 303, .inl (cy 0, 16, .inl (u.2.1 3)))]
def wX4 (cy : Nat → ClassId) (g : Nat → Nat) (u : St) : va_W := [(g 499, .inr (3, [.ref (g 400), .ref (g 401), .ref (g 402), .ref (g 403), .ref (g 404), .ref (g 405), .int (u.1 6), .int (u.1 7), .int (u.1 8), .int (u.1 9), .int (u.1 10), .int (u.1 11), .int (u.1 12), .int (u.1 13)])), (g 400, .inl (cy 2, 8, .inl (u.2.1 0))), (g 401, .inl (cy 0, 8, .inl (u.2.1 1))), (g 402, .inl (cy 0, 8, .inl (u.2.1 2))), (g 403, .inl (cy 0, 64, .inl (u.2.1 3))), (g 404, .inl (cy 0, 8, .inl (u.2.1 4))), (g 405, .inl (cy 0, 8, .inl (u.2.1 5)))]
def wX5 (cy : Nat → ClassId) (g : Nat → Nat) (u : St) : va_W := [(g 599, .inr (4, [.ref (g 500), .ref (g 501), .ref (g 502), .int (u.1 3), .int (u.1 4)])), (g 500, .inl (cy 0, 16, .inl (u.2.1 0))), (g 501, .inl (cy 0, 4, .inl (u.2.1 1))), (g 502, .inl (cy 0, 4, .inl (u.2.1 2)))]
def wX6 (cy : Nat → ClassId) (g : Nat → Nat) (u : St) : va_W := [(g 699, .inr (5, [.ref (g 600), .ref (g 601), .ref (g 602), .ref (g 603)])), (g 600, .inl (cy 0, 8, .inl (u.2.1 0))), (g 601, .inl (cy 0, 8, .inl (u.2.1 1))), (g 602, .inl (cy 0, 8, .inl (u.2.1 2))), (g 603, .inl (cy 0, 8, .inl (u.2.1 3)))]
def wX7 (cy : Nat → ClassId) (g : Nat → Nat) (u : St) : va_W := [(g 799, .inr (6, [.ref (g 700), .int (u.1 1)])), (g 700, .inl (cy 0, 3, .inl (u.2.1 0)))]
def wX9 (cy : Nat → ClassId) (g : Nat → Nat) (u : St) : va_W := [(g 999, .inr (8, [.ref (g 900), .ref (g 901), .ref (g 902), .int (u.1 3), .ref (g 904), .ref (g 905), .ref (g 906), .ref (g 907), .int (u.1 8), .ref (g 909), .ref (g 910), .ref (g 911), .ref (g 912), .ref (g 913), .ref (g 914), .int (u.1 15), .int (u.1 16), .ref (g 917), .ref (g 918), .ref (g 919), .int (u.1 20), .int (u.1 21), .ref (g 922), .int (u.1 23), .ref (g 924), .int (u.1 25), .ref (g 926), .ref (g 927), .ref (g 928), .ref (g 929), .int (u.1 30), .ref (g 931), .ref (g 932), .ref (g 933), .int (u.1 34), .int (u.1 35), .int (u.1 36), .int (u.1 37)])), (g 900, .inl (cy 0, 4, .inl (u.2.1 0))), (g 901, .inl (cy 0, 4, .inl (u.2.1 1))), (g 902, .inl (cy 0, 4, .inl (u.2.1 2))), (g 904, .inl (cy 0, 8, .inl (u.2.1 4))), (g 905, .inl (cy 0, 8, .inl (u.2.1 5))), (g 906, .inl (cy 0, 8, .inl (u.2.1 6))), (g 907, .inl (cy 0, 64, .inl (u.2.1 7))), (g 909, .inl (cy 0, 16384, .inl (u.2.1 9))), (g 910, .inl (cy 0, 16384, .inl (u.2.1 10))), (g 911, .inl (cy 2, 256, .inl (u.2.1 11))), (g 912, .inl (cy 2, 256, .inl (u.2.1 12))), (g 913, .inl (cy 2, 256, .inl (u.2.1 13))), (g 914, .inl (cy 0, 3, .inl (u.2.1 14))), (g 917, .inl (cy 0, 60, .inl (u.2.1 17))), (g 918, .inl (cy 0, 60, .inl (u.2.1 18))), (g 919, .inl (cy 1, 61, .inr (.inl u.2.2))), (g 922, .inl (cy 0, 4, .inl (u.2.1 22))), (g 924, .inl (cy 0, 30, .inl (u.2.1 24))), (g 926, .inl (cy 2, 8, .inl (u.2.1 26))), (g 927, .inl (cy 0, 8, .inl (u.2.1 27))), (g 928, .inl (cy 0, 8, .inl (u.2.1 28))), (g 929, .inl (cy 0, 64, .inl (u.2.1 29))), (g 931, .inl (cy 0, 8, .inl (u.2.1 31))), (g 932, .inl (cy 0, 8, .inl (u.2.1 32))), (g 933, .inl (cy 0, 8, .inl (u.2.1 33)))]
def wHo (g : Nat → Nat) : va_W := [(g 899, .inr (7, [.ref (g 99), .ref (g 699), .ref (g 399), .ref (g 799), .ref (g 599), .ref (g 199), .ref (g 499)]))]
def wX8 (cy : Nat → ClassId) (g : Nat → Nat) (ua us ud ut un ub ue : St) : va_W := wHo g ++ (wX0 cy g ua ++ (wX6 cy g us ++ (wX3 cy g ud ++ (wX7 cy g ut ++ (wX5 cy g un ++ (wX1 cy g ub ++ wX4 cy g ue))))))
def wD3 (cy : Nat → ClassId) (g : Nat → Nat) (ua us ud : St) : va_W := wX0 cy g ua ++ (wX6 cy g us ++ wX3 cy g ud)
def wRw (cy : Nat → ClassId) (a n : Nat) (f : Nat → Int32) : va_W := [(a, .inl (cy 0, n, .inl f))]
def wRl (cy : Nat → ClassId) (a n : Nat) (f : Nat → Int64) : va_W := [(a, .inl (cy 1, n, .inr (.inl f)))]
theorem sp8_X0 (cy : Nat → ClassId) (g : Nat → Nat) (ua us ud ut un ub ue : St) : wX8 cy g ua us ud ut un ub ue = (wHo g) ++ (wX0 cy g ua ++ (wX6 cy g us ++ (wX3 cy g ud ++ (wX7 cy g ut ++ (wX5 cy g un ++ (wX1 cy g ub ++ (wX4 cy g ue))))))) := by simp only [wX8, List.append_assoc, List.append_nil]
theorem sp8_X6 (cy : Nat → ClassId) (g : Nat → Nat) (ua us ud ut un ub ue : St) : wX8 cy g ua us ud ut un ub ue = (wHo g ++ (wX0 cy g ua)) ++ (wX6 cy g us ++ (wX3 cy g ud ++ (wX7 cy g ut ++ (wX5 cy g un ++ (wX1 cy g ub ++ (wX4 cy g ue)))))) := by simp only [wX8, List.append_assoc, List.append_nil]
theorem sp8_X7 (cy : Nat → ClassId) (g : Nat → Nat) (ua us ud ut un ub ue : St) : wX8 cy g ua us ud ut un ub ue = (wHo g ++ (wX0 cy g ua ++ (wX6 cy g us ++ (wX3 cy g ud)))) ++ (wX7 cy g ut ++ (wX5 cy g un ++ (wX1 cy g ub ++ (wX4 cy g ue)))) := by simp only [wX8, List.append_assoc, List.append_nil]
theorem sp8_X5 (cy : Nat → ClassId) (g : Nat → Nat) (ua us ud ut un ub ue : St) : wX8 cy g ua us ud ut un ub ue = (wHo g ++ (wX0 cy g ua ++ (wX6 cy g us ++ (wX3 cy g ud ++ (wX7 cy g ut))))) ++ (wX5 cy g un ++ (wX1 cy g ub ++ (wX4 cy g ue))) := by simp only [wX8, List.append_assoc, List.append_nil]
theorem sp8_X1 (cy : Nat → ClassId) (g : Nat → Nat) (ua us ud ut un ub ue : St) : wX8 cy g ua us ud ut un ub ue = (wHo g ++ (wX0 cy g ua ++ (wX6 cy g us ++ (wX3 cy g ud ++ (wX7 cy g ut ++ (wX5 cy g un)))))) ++ (wX1 cy g ub ++ (wX4 cy g ue)) := by simp only [wX8, List.append_assoc, List.append_nil]
theorem sp8_X4 (cy : Nat → ClassId) (g : Nat → Nat) (ua us ud ut un ub ue : St) : wX8 cy g ua us ud ut un ub ue = (wHo g ++ (wX0 cy g ua ++ (wX6 cy g us ++ (wX3 cy g ud ++ (wX7 cy g ut ++ (wX5 cy g un ++ (wX1 cy g ub))))))) ++ (wX4 cy g ue ++ ([])) := by simp only [wX8, List.append_assoc, List.append_nil]
theorem sp8_X3 (cy : Nat → ClassId) (g : Nat → Nat) (ua us ud ut un ub ue : St) : wX8 cy g ua us ud ut un ub ue = wHo g ++ (wD3 cy g ua us ud ++ (wX7 cy g ut ++ (wX5 cy g un ++ (wX1 cy g ub ++ wX4 cy g ue)))) := by simp only [wX8, wD3, List.append_assoc]
theorem sp3_X0 (cy : Nat → ClassId) (g : Nat → Nat) (ua us ud : St) : wD3 cy g ua us ud = [] ++ (wX0 cy g ua ++ (wX6 cy g us ++ wX3 cy g ud)) := rfl
theorem sp3_X6 (cy : Nat → ClassId) (g : Nat → Nat) (ua us ud : St) : wD3 cy g ua us ud = wX0 cy g ua ++ (wX6 cy g us ++ wX3 cy g ud) := rfl
theorem sp5_1 (cy : Nat → ClassId) (g : Nat → Nat) (un : St) : wX5 cy g un = [(g 599, .inr (4, [.ref (g 500), .ref (g 501), .ref (g 502), .int (un.1 3), .int (un.1 4)])), (g 500, .inl (cy 0, 16, .inl (un.2.1 0)))] ++ (wRw cy (g 501) 4 (un.2.1 1) ++ [(g 502, .inl (cy 0, 4, .inl (un.2.1 2)))]) := rfl
theorem sp5_2 (cy : Nat → ClassId) (g : Nat → Nat) (un : St) : wX5 cy g un = [(g 599, .inr (4, [.ref (g 500), .ref (g 501), .ref (g 502), .int (un.1 3), .int (un.1 4)])), (g 500, .inl (cy 0, 16, .inl (un.2.1 0))), (g 501, .inl (cy 0, 4, .inl (un.2.1 1)))] ++ (wRw cy (g 502) 4 (un.2.1 2) ++ []) := rfl
def FU : Nat := 2000000
theorem rm_ok {a b mL : Nat} (h : a + 1 ≤ b) (hm : mL ≤ 29) : (rmH a).frames + 1 ≤ (rmH b).frames ∧ 8 + (mL + 11) + (rmH a).locals ≤ (rmH b).locals := ⟨h, by show 8 + (mL + 11) + 48 * a ≤ 48 * b; omega⟩
def fillI (n : Nat) (f : Nat → Int32) (v : Int32) : Nat → Int32 := fun j => if j < n then v else f j
def fillL (n : Nat) (f : Nat → Int64) (v : Int64) : Nat → Int64 := fun j => if j < n then v else f j
theorem spf_404 (cy : Nat → ClassId) (g : Nat → Nat) (u : St) : wX4 cy g u = [(g 499, .inr (3, [.ref (g 400), .ref (g 401), .ref (g 402), .ref (g 403), .ref (g 404), .ref (g 405), .int (u.1 6), .int (u.1 7), .int (u.1 8), .int (u.1 9), .int (u.1 10), .int (u.1 11), .int (u.1 12), .int (u.1 13)])), (g 400, .inl (cy 2, 8, .inl (u.2.1 0))), (g 401, .inl (cy 0, 8, .inl (u.2.1 1))), (g 402, .inl (cy 0, 8, .inl (u.2.1 2))), (g 403, .inl (cy 0, 64, .inl (u.2.1 3)))] ++ (wRw cy (g 404) 8 (u.2.1 4) ++ [(g 405, .inl (cy 0, 8, .inl (u.2.1 5)))]) := rfl
theorem spg_404 (cy : Nat → ClassId) (g : Nat → Nat) (u : St) (f : Nat → Int32) : wX4 cy g (st_r u 4 f) = [(g 499, .inr (3, [.ref (g 400), .ref (g 401), .ref (g 402), .ref (g 403), .ref (g 404), .ref (g 405), .int (u.1 6), .int (u.1 7), .int (u.1 8), .int (u.1 9), .int (u.1 10), .int (u.1 11), .int (u.1 12), .int (u.1 13)])), (g 400, .inl (cy 2, 8, .inl (u.2.1 0))), (g 401, .inl (cy 0, 8, .inl (u.2.1 1))), (g 402, .inl (cy 0, 8, .inl (u.2.1 2))), (g 403, .inl (cy 0, 64, .inl (u.2.1 3)))] ++ (wRw cy (g 404) 8 f ++ [(g 405, .inl (cy 0, 8, .inl (u.2.1 5)))]) := rfl
theorem spf_3 (cy : Nat → ClassId) (g : Nat → Nat) (u : St) : wX0 cy g u = [(g 99, .inr (0, [.ref (g 0), .ref (g 1), .ref (g 2), .ref (g 3), .int (u.1 4)])), (g 0, .inl (cy 0, 4, .inl (u.2.1 0))), (g 1, .inl (cy 0, 4, .inl (u.2.1 1))), (g 2, .inl (cy 0, 4, .inl (u.2.1 2)))] ++ (wRl cy (g 3) 1024 u.2.2 ++ []) := rfl
theorem spg_3 (cy : Nat → ClassId) (g : Nat → Nat) (u : St) (f : Nat → Int64) : wX0 cy g (st_l u f) = [(g 99, .inr (0, [.ref (g 0), .ref (g 1), .ref (g 2), .ref (g 3), .int (u.1 4)])), (g 0, .inl (cy 0, 4, .inl (u.2.1 0))), (g 1, .inl (cy 0, 4, .inl (u.2.1 1))), (g 2, .inl (cy 0, 4, .inl (u.2.1 2)))] ++ (wRl cy (g 3) 1024 f ++ []) := rfl
def mx (x y : Int32) : Int32 := if x < y then y else x
def mn (x y : Int32) : Int32 := if y < x then y else x
def ab (x : Int32) : Int32 := if 0 ≤ x then x else 0 - x
theorem nm_ex {α β : Type} {e : α} {K : α → Option β} {o : β} (h : nm e K = some o) : ∃ v, v = e ∧ K v = some o := ⟨_, rfl, h⟩
section XN
variable {p : Program} {l : Launch} {e : Env} {R : Room} {s : State} {m : MethodId} {args : Array Value} {below : List Frame} {meth : Method} {c : Code} {H : Heap} {locs : List Loc} {cells slots : Nat} {Q : State → Prop} {pc : Nat} {ls : Array Slot} {rest : List Value} {β : Type} {o : β}
theorem x_nm2 {x : Int32} {top : Value} {K : Int32 → Option β} (h : nm x K = some o) (kk : ∀ v : Int32, K v = some o → W p l e R s m args below meth c H locs cells slots Q (F0 m pc ls (top :: .int v :: rest))) : W p l e R s m args below meth c H locs cells slots Q (F0 m pc ls (top :: .int x :: rest)) := kk x h
end XN
theorem sw_out3 {x : Int32} (a0 : ¬ x = 0) (a1 : ¬ x = 1) (a2 : ¬ x = 2) : x.toInt < 0 ∨ 2 < x.toInt := by
  rcases Int.lt_or_le x.toInt 0 with c | c
  · exact Or.inl c
  rcases Int.lt_or_le 2 x.toInt with d | d
  · exact Or.inr d
  exfalso
  rcases (show x.toInt = 0 ∨ x.toInt = 1 ∨ x.toInt = 2 by omega) with h | h | h
  · exact a0 (Int32.toInt_inj.mp h)
  · exact a1 (Int32.toInt_inj.mp h)
  · exact a2 (Int32.toInt_inj.mp h)
theorem sw_out35 {x : Int32} (a0 : ¬ x = 3) (a1 : ¬ x = 4) (a2 : ¬ x = 5) : x.toInt < 3 ∨ 5 < x.toInt := by
  rcases Int.lt_or_le x.toInt 3 with c | c
  · exact Or.inl c
  rcases Int.lt_or_le 5 x.toInt with d | d
  · exact Or.inr d
  exfalso
  rcases (show x.toInt = 3 ∨ x.toInt = 4 ∨ x.toInt = 5 by omega) with h | h | h
  · exact a0 (Int32.toInt_inj.mp h)
  · exact a1 (Int32.toInt_inj.mp h)
  · exact a2 (Int32.toInt_inj.mp h)
theorem sw_out5 {x : Int32} (a0 : ¬ x = 0) (a1 : ¬ x = 1) (a2 : ¬ x = 2) (a3 : ¬ x = 3) (a4 : ¬ x = 4) : x.toInt < 0 ∨ 4 < x.toInt := by
  rcases Int.lt_or_le x.toInt 0 with c | c
  · exact Or.inl c
  rcases Int.lt_or_le 4 x.toInt with d | d
  · exact Or.inr d
  exfalso
  rcases (show x.toInt = 0 ∨ x.toInt = 1 ∨ x.toInt = 2 ∨ x.toInt = 3 ∨ x.toInt = 4 by omega) with h | h | h | h | h
  · exact a0 (Int32.toInt_inj.mp h)
  · exact a1 (Int32.toInt_inj.mp h)
  · exact a2 (Int32.toInt_inj.mp h)
  · exact a3 (Int32.toInt_inj.mp h)
  · exact a4 (Int32.toInt_inj.mp h)
