section
-- ===== PART A: goes FIRST, ahead of the names: the tables' words, and 'selects' of the private methods out of them =====
/-- a private method of a class that the tables say can be made, by its rows of tables_1 -/
def lw_okq (q : MethodName × Nat) : Prop := (q.1.cls ≠ "java/lang/invoke/MethodHandle" ∧ q.1.cls ≠ "java/lang/invoke/VarHandle") ∧ Cond.instantiable q.1.cls q.2 ∈ tables_1 ∧ Cond.privateMethod q.1 ∈ tables_1 ∧ Cond.instanceMethod q.1 ∈ tables_1
theorem lw_p0 : lw_okq (⟨"FeatherHall$Air", "workOut", "(III)J"⟩, 5) := ⟨⟨by decide +kernel, by decide +kernel⟩, List.mem_of_getElem? (i := 23) (by decide +kernel), List.mem_of_getElem? (i := 256) (by decide +kernel), List.mem_of_getElem? (i := 257) (by decide +kernel)⟩
theorem lw_p1 : lw_okq (⟨"FeatherHall$Air", "wholeOf", "(I)I"⟩, 5) := ⟨⟨by decide +kernel, by decide +kernel⟩, List.mem_of_getElem? (i := 23) (by decide +kernel), List.mem_of_getElem? (i := 272) (by decide +kernel), List.mem_of_getElem? (i := 273) (by decide +kernel)⟩
theorem lw_p2 : lw_okq (⟨"FeatherHall$Air", "slowed", "(II)I"⟩, 5) := ⟨⟨by decide +kernel, by decide +kernel⟩, List.mem_of_getElem? (i := 23) (by decide +kernel), List.mem_of_getElem? (i := 279) (by decide +kernel), List.mem_of_getElem? (i := 280) (by decide +kernel)⟩
theorem lw_p3 : lw_okq (⟨"FeatherHall$Squad", "setStride", "(I)V"⟩, 4) := ⟨⟨by decide +kernel, by decide +kernel⟩, List.mem_of_getElem? (i := 47) (by decide +kernel), List.mem_of_getElem? (i := 325) (by decide +kernel), List.mem_of_getElem? (i := 326) (by decide +kernel)⟩
theorem lw_p4 : lw_okq (⟨"FeatherHall$Duel", "missedFrom", "(II)I"⟩, 4) := ⟨⟨by decide +kernel, by decide +kernel⟩, List.mem_of_getElem? (i := 69) (by decide +kernel), List.mem_of_getElem? (i := 412) (by decide +kernel), List.mem_of_getElem? (i := 413) (by decide +kernel)⟩
theorem lw_p5 : lw_okq (⟨"FeatherHall$Duel", "widenWon", "(II)Z"⟩, 4) := ⟨⟨by decide +kernel, by decide +kernel⟩, List.mem_of_getElem? (i := 69) (by decide +kernel), List.mem_of_getElem? (i := 430) (by decide +kernel), List.mem_of_getElem? (i := 431) (by decide +kernel)⟩
theorem lw_p6 : lw_okq (⟨"FeatherHall$Duel", "heldAgainst", "(III)I"⟩, 4) := ⟨⟨by decide +kernel, by decide +kernel⟩, List.mem_of_getElem? (i := 69) (by decide +kernel), List.mem_of_getElem? (i := 434) (by decide +kernel), List.mem_of_getElem? (i := 435) (by decide +kernel)⟩
theorem lw_p7 : lw_okq (⟨"FeatherHall$Duel", "forcedFrom", "(III)I"⟩, 4) := ⟨⟨by decide +kernel, by decide +kernel⟩, List.mem_of_getElem? (i := 69) (by decide +kernel), List.mem_of_getElem? (i := 439) (by decide +kernel), List.mem_of_getElem? (i := 440) (by decide +kernel)⟩
theorem lw_p8 : lw_okq (⟨"FeatherHall$Trio", "aloneNow", "()I"⟩, 2) := ⟨⟨by decide +kernel, by decide +kernel⟩, List.mem_of_getElem? (i := 88) (by decide +kernel), List.mem_of_getElem? (i := 451) (by decide +kernel), List.mem_of_getElem? (i := 452) (by decide +kernel)⟩
theorem lw_p9 : lw_okq (⟨"FeatherHall$Basket", "addUp", "(I)V"⟩, 6) := ⟨⟨by decide +kernel, by decide +kernel⟩, List.mem_of_getElem? (i := 123) (by decide +kernel), List.mem_of_getElem? (i := 572) (by decide +kernel), List.mem_of_getElem? (i := 573) (by decide +kernel)⟩
theorem lw_p10 : lw_okq (⟨"FeatherHall$Evening", "seek", "()V"⟩, 14) := ⟨⟨by decide +kernel, by decide +kernel⟩, List.mem_of_getElem? (i := 148) (by decide +kernel), List.mem_of_getElem? (i := 621) (by decide +kernel), List.mem_of_getElem? (i := 622) (by decide +kernel)⟩
theorem lw_p11 : lw_okq (⟨"FeatherHall$Evening", "gamesAtOnce", "()I"⟩, 14) := ⟨⟨by decide +kernel, by decide +kernel⟩, List.mem_of_getElem? (i := 148) (by decide +kernel), List.mem_of_getElem? (i := 626) (by decide +kernel), List.mem_of_getElem? (i := 627) (by decide +kernel)⟩
theorem lw_p12 : lw_okq (⟨"FeatherHall$Evening", "pairFrom", "(IIIII)V"⟩, 14) := ⟨⟨by decide +kernel, by decide +kernel⟩, List.mem_of_getElem? (i := 148) (by decide +kernel), List.mem_of_getElem? (i := 631) (by decide +kernel), List.mem_of_getElem? (i := 632) (by decide +kernel)⟩
theorem lw_p13 : lw_okq (⟨"FeatherHall$Evening", "keepIfBetter", "(III)V"⟩, 14) := ⟨⟨by decide +kernel, by decide +kernel⟩, List.mem_of_getElem? (i := 148) (by decide +kernel), List.mem_of_getElem? (i := 635) (by decide +kernel), List.mem_of_getElem? (i := 636) (by decide +kernel)⟩
theorem lw_p14 : lw_okq (⟨"FeatherHall$Evening", "isBetter", "(III)Z"⟩, 14) := ⟨⟨by decide +kernel, by decide +kernel⟩, List.mem_of_getElem? (i := 148) (by decide +kernel), List.mem_of_getElem? (i := 639) (by decide +kernel), List.mem_of_getElem? (i := 640) (by decide +kernel)⟩
theorem lw_p15 : lw_okq (⟨"FeatherHall$Evening", "isFree", "(I)Z"⟩, 14) := ⟨⟨by decide +kernel, by decide +kernel⟩, List.mem_of_getElem? (i := 148) (by decide +kernel), List.mem_of_getElem? (i := 646) (by decide +kernel), List.mem_of_getElem? (i := 647) (by decide +kernel)⟩
def lw_privs_1 : List (MethodName × Nat) := [(⟨"FeatherHall$Air", "workOut", "(III)J"⟩, 5), (⟨"FeatherHall$Air", "wholeOf", "(I)I"⟩, 5), (⟨"FeatherHall$Air", "slowed", "(II)I"⟩, 5), (⟨"FeatherHall$Squad", "setStride", "(I)V"⟩, 4), (⟨"FeatherHall$Duel", "missedFrom", "(II)I"⟩, 4), (⟨"FeatherHall$Duel", "widenWon", "(II)Z"⟩, 4), (⟨"FeatherHall$Duel", "heldAgainst", "(III)I"⟩, 4), (⟨"FeatherHall$Duel", "forcedFrom", "(III)I"⟩, 4), (⟨"FeatherHall$Trio", "aloneNow", "()I"⟩, 2), (⟨"FeatherHall$Basket", "addUp", "(I)V"⟩, 6), (⟨"FeatherHall$Evening", "seek", "()V"⟩, 14), (⟨"FeatherHall$Evening", "gamesAtOnce", "()I"⟩, 14), (⟨"FeatherHall$Evening", "pairFrom", "(IIIII)V"⟩, 14), (⟨"FeatherHall$Evening", "keepIfBetter", "(III)V"⟩, 14), (⟨"FeatherHall$Evening", "isBetter", "(III)Z"⟩, 14), (⟨"FeatherHall$Evening", "isFree", "(I)Z"⟩, 14)]
theorem lw_r1 : ∀ q ∈ lw_privs_1, lw_okq q := List.forall_mem_cons.mpr ⟨lw_p0, List.forall_mem_cons.mpr ⟨lw_p1, List.forall_mem_cons.mpr ⟨lw_p2, List.forall_mem_cons.mpr ⟨lw_p3, List.forall_mem_cons.mpr ⟨lw_p4, List.forall_mem_cons.mpr ⟨lw_p5, List.forall_mem_cons.mpr ⟨lw_p6, List.forall_mem_cons.mpr ⟨lw_p7, List.forall_mem_cons.mpr ⟨lw_p8, List.forall_mem_cons.mpr ⟨lw_p9, List.forall_mem_cons.mpr ⟨lw_p10, List.forall_mem_cons.mpr ⟨lw_p11, List.forall_mem_cons.mpr ⟨lw_p12, List.forall_mem_cons.mpr ⟨lw_p13, List.forall_mem_cons.mpr ⟨lw_p14, List.forall_mem_cons.mpr ⟨lw_p15, fun _ h => absurd h List.not_mem_nil⟩⟩⟩⟩⟩⟩⟩⟩⟩⟩⟩⟩⟩⟩⟩⟩
theorem lw_p16 : lw_okq (⟨"FeatherHallModel", "fly", "(III)V"⟩, 38) := ⟨⟨by decide +kernel, by decide +kernel⟩, List.mem_of_getElem? (i := 720) (by decide +kernel), List.mem_of_getElem? (i := 862) (by decide +kernel), List.mem_of_getElem? (i := 863) (by decide +kernel)⟩
theorem lw_p17 : lw_okq (⟨"FeatherHallModel", "firstMet", "(I)I"⟩, 38) := ⟨⟨by decide +kernel, by decide +kernel⟩, List.mem_of_getElem? (i := 720) (by decide +kernel), List.mem_of_getElem? (i := 869) (by decide +kernel), List.mem_of_getElem? (i := 870) (by decide +kernel)⟩
theorem lw_p18 : lw_okq (⟨"FeatherHallModel", "slackOf", "(III)I"⟩, 38) := ⟨⟨by decide +kernel, by decide +kernel⟩, List.mem_of_getElem? (i := 720) (by decide +kernel), List.mem_of_getElem? (i := 896) (by decide +kernel), List.mem_of_getElem? (i := 897) (by decide +kernel)⟩
theorem lw_p19 : lw_okq (⟨"FeatherHallModel", "over0", "(III)I"⟩, 38) := ⟨⟨by decide +kernel, by decide +kernel⟩, List.mem_of_getElem? (i := 720) (by decide +kernel), List.mem_of_getElem? (i := 900) (by decide +kernel), List.mem_of_getElem? (i := 901) (by decide +kernel)⟩
theorem lw_p20 : lw_okq (⟨"FeatherHallModel", "stride", "(I)I"⟩, 38) := ⟨⟨by decide +kernel, by decide +kernel⟩, List.mem_of_getElem? (i := 720) (by decide +kernel), List.mem_of_getElem? (i := 907) (by decide +kernel), List.mem_of_getElem? (i := 908) (by decide +kernel)⟩
theorem lw_p21 : lw_okq (⟨"FeatherHallModel", "leastSlack", "(III)I"⟩, 38) := ⟨⟨by decide +kernel, by decide +kernel⟩, List.mem_of_getElem? (i := 720) (by decide +kernel), List.mem_of_getElem? (i := 919) (by decide +kernel), List.mem_of_getElem? (i := 920) (by decide +kernel)⟩
theorem lw_p22 : lw_okq (⟨"FeatherHallModel", "findMeetings", "(II)V"⟩, 38) := ⟨⟨by decide +kernel, by decide +kernel⟩, List.mem_of_getElem? (i := 720) (by decide +kernel), List.mem_of_getElem? (i := 927) (by decide +kernel), List.mem_of_getElem? (i := 928) (by decide +kernel)⟩
theorem lw_p23 : lw_okq (⟨"FeatherHallModel", "meetsOf", "(III)I"⟩, 38) := ⟨⟨by decide +kernel, by decide +kernel⟩, List.mem_of_getElem? (i := 720) (by decide +kernel), List.mem_of_getElem? (i := 931) (by decide +kernel), List.mem_of_getElem? (i := 932) (by decide +kernel)⟩
theorem lw_p24 : lw_okq (⟨"FeatherHallModel", "winsNow", "(II)Z"⟩, 38) := ⟨⟨by decide +kernel, by decide +kernel⟩, List.mem_of_getElem? (i := 720) (by decide +kernel), List.mem_of_getElem? (i := 935) (by decide +kernel), List.mem_of_getElem? (i := 936) (by decide +kernel)⟩
theorem lw_p25 : lw_okq (⟨"FeatherHallModel", "holdsAll", "(III)Z"⟩, 38) := ⟨⟨by decide +kernel, by decide +kernel⟩, List.mem_of_getElem? (i := 720) (by decide +kernel), List.mem_of_getElem? (i := 939) (by decide +kernel), List.mem_of_getElem? (i := 940) (by decide +kernel)⟩
theorem lw_p26 : lw_okq (⟨"FeatherHallModel", "winsAll", "(III)Z"⟩, 38) := ⟨⟨by decide +kernel, by decide +kernel⟩, List.mem_of_getElem? (i := 720) (by decide +kernel), List.mem_of_getElem? (i := 943) (by decide +kernel), List.mem_of_getElem? (i := 944) (by decide +kernel)⟩
theorem lw_p27 : lw_okq (⟨"FeatherHallModel", "winsLater", "(III)Z"⟩, 38) := ⟨⟨by decide +kernel, by decide +kernel⟩, List.mem_of_getElem? (i := 720) (by decide +kernel), List.mem_of_getElem? (i := 947) (by decide +kernel), List.mem_of_getElem? (i := 948) (by decide +kernel)⟩
theorem lw_p28 : lw_okq (⟨"FeatherHallModel", "isOver", "()Z"⟩, 38) := ⟨⟨by decide +kernel, by decide +kernel⟩, List.mem_of_getElem? (i := 720) (by decide +kernel), List.mem_of_getElem? (i := 955) (by decide +kernel), List.mem_of_getElem? (i := 956) (by decide +kernel)⟩
theorem lw_p29 : lw_okq (⟨"FeatherHallModel", "alone", "()I"⟩, 38) := ⟨⟨by decide +kernel, by decide +kernel⟩, List.mem_of_getElem? (i := 720) (by decide +kernel), List.mem_of_getElem? (i := 959) (by decide +kernel), List.mem_of_getElem? (i := 960) (by decide +kernel)⟩
theorem lw_p30 : lw_okq (⟨"FeatherHallModel", "tallyOf", "(III)I"⟩, 38) := ⟨⟨by decide +kernel, by decide +kernel⟩, List.mem_of_getElem? (i := 720) (by decide +kernel), List.mem_of_getElem? (i := 979) (by decide +kernel), List.mem_of_getElem? (i := 980) (by decide +kernel)⟩
theorem lw_p31 : lw_okq (⟨"FeatherHallModel", "isPast", "(II)Z"⟩, 38) := ⟨⟨by decide +kernel, by decide +kernel⟩, List.mem_of_getElem? (i := 720) (by decide +kernel), List.mem_of_getElem? (i := 987) (by decide +kernel), List.mem_of_getElem? (i := 988) (by decide +kernel)⟩
def lw_privs_2 : List (MethodName × Nat) := [(⟨"FeatherHallModel", "fly", "(III)V"⟩, 38), (⟨"FeatherHallModel", "firstMet", "(I)I"⟩, 38), (⟨"FeatherHallModel", "slackOf", "(III)I"⟩, 38), (⟨"FeatherHallModel", "over0", "(III)I"⟩, 38), (⟨"FeatherHallModel", "stride", "(I)I"⟩, 38), (⟨"FeatherHallModel", "leastSlack", "(III)I"⟩, 38), (⟨"FeatherHallModel", "findMeetings", "(II)V"⟩, 38), (⟨"FeatherHallModel", "meetsOf", "(III)I"⟩, 38), (⟨"FeatherHallModel", "winsNow", "(II)Z"⟩, 38), (⟨"FeatherHallModel", "holdsAll", "(III)Z"⟩, 38), (⟨"FeatherHallModel", "winsAll", "(III)Z"⟩, 38), (⟨"FeatherHallModel", "winsLater", "(III)Z"⟩, 38), (⟨"FeatherHallModel", "isOver", "()Z"⟩, 38), (⟨"FeatherHallModel", "alone", "()I"⟩, 38), (⟨"FeatherHallModel", "tallyOf", "(III)I"⟩, 38), (⟨"FeatherHallModel", "isPast", "(II)Z"⟩, 38)]
theorem lw_r2 : ∀ q ∈ lw_privs_2, lw_okq q := List.forall_mem_cons.mpr ⟨lw_p16, List.forall_mem_cons.mpr ⟨lw_p17, List.forall_mem_cons.mpr ⟨lw_p18, List.forall_mem_cons.mpr ⟨lw_p19, List.forall_mem_cons.mpr ⟨lw_p20, List.forall_mem_cons.mpr ⟨lw_p21, List.forall_mem_cons.mpr ⟨lw_p22, List.forall_mem_cons.mpr ⟨lw_p23, List.forall_mem_cons.mpr ⟨lw_p24, List.forall_mem_cons.mpr ⟨lw_p25, List.forall_mem_cons.mpr ⟨lw_p26, List.forall_mem_cons.mpr ⟨lw_p27, List.forall_mem_cons.mpr ⟨lw_p28, List.forall_mem_cons.mpr ⟨lw_p29, List.forall_mem_cons.mpr ⟨lw_p30, List.forall_mem_cons.mpr ⟨lw_p31, fun _ h => absurd h List.not_mem_nil⟩⟩⟩⟩⟩⟩⟩⟩⟩⟩⟩⟩⟩⟩⟩⟩
theorem lw_p32 : lw_okq (⟨"FeatherHallModel", "isTried", "(II)Z"⟩, 38) := ⟨⟨by decide +kernel, by decide +kernel⟩, List.mem_of_getElem? (i := 720) (by decide +kernel), List.mem_of_getElem? (i := 991) (by decide +kernel), List.mem_of_getElem? (i := 992) (by decide +kernel)⟩
theorem lw_p33 : lw_okq (⟨"FeatherHallModel", "choose", "(II)J"⟩, 38) := ⟨⟨by decide +kernel, by decide +kernel⟩, List.mem_of_getElem? (i := 720) (by decide +kernel), List.mem_of_getElem? (i := 995) (by decide +kernel), List.mem_of_getElem? (i := 996) (by decide +kernel)⟩
theorem lw_p34 : lw_okq (⟨"FeatherHallModel", "triedMany", "()I"⟩, 38) := ⟨⟨by decide +kernel, by decide +kernel⟩, List.mem_of_getElem? (i := 720) (by decide +kernel), List.mem_of_getElem? (i := 1000) (by decide +kernel), List.mem_of_getElem? (i := 1001) (by decide +kernel)⟩
theorem lw_p35 : lw_okq (⟨"FeatherHallModel", "costsOf", "(I)I"⟩, 38) := ⟨⟨by decide +kernel, by decide +kernel⟩, List.mem_of_getElem? (i := 720) (by decide +kernel), List.mem_of_getElem? (i := 1028) (by decide +kernel), List.mem_of_getElem? (i := 1029) (by decide +kernel)⟩
theorem lw_p36 : lw_okq (⟨"FeatherHallModel", "thereMany", "()I"⟩, 38) := ⟨⟨by decide +kernel, by decide +kernel⟩, List.mem_of_getElem? (i := 720) (by decide +kernel), List.mem_of_getElem? (i := 1044) (by decide +kernel), List.mem_of_getElem? (i := 1045) (by decide +kernel)⟩
theorem lw_p37 : lw_okq (⟨"FeatherHallModel", "findRound", "()V"⟩, 38) := ⟨⟨by decide +kernel, by decide +kernel⟩, List.mem_of_getElem? (i := 720) (by decide +kernel), List.mem_of_getElem? (i := 1056) (by decide +kernel), List.mem_of_getElem? (i := 1057) (by decide +kernel)⟩
theorem lw_p38 : lw_okq (⟨"FeatherHallModel", "lookAtRound", "(I)V"⟩, 38) := ⟨⟨by decide +kernel, by decide +kernel⟩, List.mem_of_getElem? (i := 720) (by decide +kernel), List.mem_of_getElem? (i := 1060) (by decide +kernel), List.mem_of_getElem? (i := 1061) (by decide +kernel)⟩
def lw_privs_3 : List (MethodName × Nat) := [(⟨"FeatherHallModel", "isTried", "(II)Z"⟩, 38), (⟨"FeatherHallModel", "choose", "(II)J"⟩, 38), (⟨"FeatherHallModel", "triedMany", "()I"⟩, 38), (⟨"FeatherHallModel", "costsOf", "(I)I"⟩, 38), (⟨"FeatherHallModel", "thereMany", "()I"⟩, 38), (⟨"FeatherHallModel", "findRound", "()V"⟩, 38), (⟨"FeatherHallModel", "lookAtRound", "(I)V"⟩, 38)]
theorem lw_r3 : ∀ q ∈ lw_privs_3, lw_okq q := List.forall_mem_cons.mpr ⟨lw_p32, List.forall_mem_cons.mpr ⟨lw_p33, List.forall_mem_cons.mpr ⟨lw_p34, List.forall_mem_cons.mpr ⟨lw_p35, List.forall_mem_cons.mpr ⟨lw_p36, List.forall_mem_cons.mpr ⟨lw_p37, List.forall_mem_cons.mpr ⟨lw_p38, fun _ h => absurd h List.not_mem_nil⟩⟩⟩⟩⟩⟩⟩
def lw_privs : List (MethodName × Nat) := lw_privs_1 ++ (lw_privs_2 ++ (lw_privs_3))
def lw_tbl : List Cond := k2_sels lw_privs ++ tables_1
theorem lw_privs_ok : ∀ q ∈ lw_privs, lw_okq q := by
  show ∀ q ∈ lw_privs_1 ++ (lw_privs_2 ++ (lw_privs_3)), lw_okq q
  exact List.forall_mem_append.mpr ⟨lw_r1, List.forall_mem_append.mpr ⟨lw_r2, lw_r3⟩⟩
end
section
/-! ===== BEGIN words of one list among another's, by their places ===== -/
theorem goodIn_r {big : List Cond} (ws : List Cond) (ps : List Nat) (hp : ws = ps.filterMap (fun i => big[i]?)) (h : ws.all goodWord = true) : GoodIn big ws := by
  intro w hw
  have h1 := List.all_eq_true.mp h w hw
  rw [hp] at hw
  obtain ⟨i, -, hi⟩ := List.mem_filterMap.mp hw
  have hm : w ∈ big := by first | exact List.mem_of_getElem? hi | exact List.getElem?_mem hi
  exact ⟨hm, good_of_word h1⟩
theorem goodIn_app {big a b : List Cond} (ha : GoodIn big a) (hb : GoodIn big b) : GoodIn big (a ++ b) := fun w h => (List.mem_append.mp h).elim (ha w) (hb w)
theorem goodIn_ca {big a b : List Cond} {c : Cond} (ha : GoodIn big (c :: a)) (hb : GoodIn big b) : GoodIn big (c :: (a ++ b)) := fun w h => (List.mem_cons.mp h).elim (fun e => ha w (List.mem_cons.mpr (Or.inl e))) (fun h => (List.mem_append.mp h).elim (fun h => ha w (List.mem_cons.mpr (Or.inr h))) (hb w))
theorem goodIn_sub {big ws : List Cond} (hm : ∀ w ∈ ws, w ∈ big) (h : ws.all goodWord = true) : GoodIn big ws := fun w hw => ⟨hm w hw, good_of_word (List.all_eq_true.mp h w hw)⟩
/-! ===== END ===== -/

/-! ===== BEGIN printed: names, fields, word lists, decode rows ===== -/
def RX0 : String := "FeatherHall$Air"
def TX0 : u_T := fun k => match k with
  | 0 => ("FeatherHall$Air", "speeds", "[I", true)
  | 1 => ("FeatherHall$Air", "drags", "[I", true)
  | 2 => ("FeatherHall$Air", "meets", "[I", true)
  | 3 => ("FeatherHall$Air", "paths", "[J", true)
  | _ => ("FeatherHall$Air", "brokenOnes", "I", false)
def tyX0 : Nat → FieldType := fun k => match k with
  | 0 => .array .int
  | 1 => .array .int
  | 2 => .array .int
  | 3 => .array .long
  | _ => .int
abbrev wsX00 : List Cond := u_ws RX0 TX0 5
theorem nmX0 : ∀ a, a < 5 → ∀ b, b < 5 → a ≠ b → (TX0 a).2.1 ≠ (TX0 b).2.1 := by decide +kernel
theorem tyX0_ok : ∀ k, k < 5 → parseFieldDescriptor (TX0 k).2.2.1 = some (tyX0 k) := by decide +kernel
abbrev cX0_init : ByteArray := prog_2_method_1_code
def yX0_init : MethodName := ⟨RX0, "<init>", "()V"⟩
abbrev cX0_setKind : ByteArray := prog_2_method_2_code
def yX0_setKind : MethodName := ⟨RX0, "setKind", "(IIII)V"⟩
abbrev cX0_setBroken : ByteArray := prog_2_method_3_code
def yX0_setBroken : MethodName := ⟨RX0, "setBroken", "(I)I"⟩
abbrev cX0_landingOf : ByteArray := prog_2_method_4_code
def yX0_landingOf : MethodName := ⟨RX0, "landingOf", "(J)I"⟩
abbrev cX0_firstMetOf : ByteArray := prog_2_method_5_code
def yX0_firstMetOf : MethodName := ⟨RX0, "firstMetOf", "(J)I"⟩
abbrev cX0_isNet : ByteArray := prog_2_method_6_code
def yX0_isNet : MethodName := ⟨RX0, "isNet", "(J)Z"⟩
abbrev cX0_cellAt : ByteArray := prog_2_method_7_code
def yX0_cellAt : MethodName := ⟨RX0, "cellAt", "(JI)I"⟩
abbrev cX0_pathOf : ByteArray := prog_2_method_8_code
def yX0_pathOf : MethodName := ⟨RX0, "pathOf", "(III)J"⟩
abbrev cX0_workOutFrom : ByteArray := prog_2_method_9_code
def yX0_workOutFrom : MethodName := ⟨RX0, "workOutFrom", "(I)V"⟩
abbrev cX0_knownPath : ByteArray := prog_2_method_10_code
def yX0_knownPath : MethodName := ⟨RX0, "knownPath", "(II)J"⟩
abbrev cX0_placeBehind : ByteArray := prog_2_method_11_code
def yX0_placeBehind : MethodName := ⟨RX0, "placeBehind", "(IIII)I"⟩
abbrev cX0_workOut : ByteArray := prog_2_method_12_code
def yX0_workOut : MethodName := ⟨RX0, "workOut", "(III)J"⟩
abbrev cX0_slowed : ByteArray := prog_2_method_13_code
def yX0_slowed : MethodName := ⟨RX0, "slowed", "(II)I"⟩
abbrev cX0_wholeOf : ByteArray := prog_2_method_14_code
def yX0_wholeOf : MethodName := ⟨RX0, "wholeOf", "(I)I"⟩
abbrev cX0_lengthOf : ByteArray := prog_2_method_15_code
def yX0_lengthOf : MethodName := ⟨RX0, "lengthOf", "(II)I"⟩
abbrev cX0_placeAt : ByteArray := prog_2_method_16_code
def yX0_placeAt : MethodName := ⟨RX0, "placeAt", "(IIII)I"⟩
def RX1 : String := "FeatherHall$Basket"
def TX1 : u_T := fun k => match k with
  | 0 => ("FeatherHall$Basket", "wears", "[I", true)
  | 1 => ("FeatherHall$Basket", "planned", "[I", true)
  | 2 => ("FeatherHall$Basket", "sums", "[I", true)
  | 3 => ("FeatherHall$Basket", "length", "I", false)
  | 4 => ("FeatherHall$Basket", "price", "I", false)
  | _ => ("FeatherHall$Basket", "loss", "I", false)
def tyX1 : Nat → FieldType := fun k => match k with
  | 0 => .array .int
  | 1 => .array .int
  | 2 => .array .int
  | 3 => .int
  | 4 => .int
  | _ => .int
abbrev wsX10 : List Cond := u_ws RX1 TX1 6
theorem nmX1 : ∀ a, a < 6 → ∀ b, b < 6 → a ≠ b → (TX1 a).2.1 ≠ (TX1 b).2.1 := by decide +kernel
theorem tyX1_ok : ∀ k, k < 6 → parseFieldDescriptor (TX1 k).2.2.1 = some (tyX1 k) := by decide +kernel
abbrev cX1_init : ByteArray := prog_3_method_1_code
def yX1_init : MethodName := ⟨RX1, "<init>", "()V"⟩
abbrev cX1_setPrice : ByteArray := prog_3_method_2_code
def yX1_setPrice : MethodName := ⟨RX1, "setPrice", "(I)I"⟩
abbrev cX1_setLoss : ByteArray := prog_3_method_3_code
def yX1_setLoss : MethodName := ⟨RX1, "setLoss", "(I)I"⟩
abbrev cX1_setWear : ByteArray := prog_3_method_4_code
def yX1_setWear : MethodName := ⟨RX1, "setWear", "(II)I"⟩
abbrev cX1_isEmpty : ByteArray := prog_3_method_5_code
def yX1_isEmpty : MethodName := ⟨RX1, "isEmpty", "()Z"⟩
abbrev cX1_size : ByteArray := prog_3_method_6_code
def yX1_size : MethodName := ⟨RX1, "size", "()I"⟩
abbrev cX1_add : ByteArray := prog_3_method_7_code
def yX1_add : MethodName := ⟨RX1, "add", "(I)I"⟩
abbrev cX1_clear : ByteArray := prog_3_method_8_code
def yX1_clear : MethodName := ⟨RX1, "clear", "()I"⟩
abbrev cX1_wholeCost : ByteArray := prog_3_method_9_code
def yX1_wholeCost : MethodName := ⟨RX1, "wholeCost", "(I)I"⟩
abbrev cX1_bestChange : ByteArray := prog_3_method_10_code
def yX1_bestChange : MethodName := ⟨RX1, "bestChange", "()I"⟩
abbrev cX1_addUp : ByteArray := prog_3_method_11_code
def yX1_addUp : MethodName := ⟨RX1, "addUp", "(I)V"⟩
def RX2 : String := "FeatherHall$Court"
def TX2 : u_T := fun k => match k with
  | _ => ("", "", "", false)
def tyX2 : Nat → FieldType := fun k => match k with
  | _ => .int
abbrev wsX20 : List Cond := u_ws RX2 TX2 0
theorem nmX2 : ∀ a, a < 0 → ∀ b, b < 0 → a ≠ b → (TX2 a).2.1 ≠ (TX2 b).2.1 := by decide +kernel
theorem tyX2_ok : ∀ k, k < 0 → parseFieldDescriptor (TX2 k).2.2.1 = some (tyX2 k) := by decide +kernel
abbrev cX2_rowOf : ByteArray := prog_4_method_2_code
def yX2_rowOf : MethodName := ⟨RX2, "rowOf", "(I)I"⟩
abbrev cX2_colOf : ByteArray := prog_4_method_3_code
def yX2_colOf : MethodName := ⟨RX2, "colOf", "(I)I"⟩
abbrev cX2_far : ByteArray := prog_4_method_4_code
def yX2_far : MethodName := ⟨RX2, "far", "(II)I"⟩
abbrev cX2_near : ByteArray := prog_4_method_5_code
def yX2_near : MethodName := ⟨RX2, "near", "(II)I"⟩
abbrev cX2_holds : ByteArray := prog_4_method_6_code
def yX2_holds : MethodName := ⟨RX2, "holds", "(II)Z"⟩
def RX3 : String := "FeatherHall$Duel"
def TX3 : u_T := fun k => match k with
  | 0 => ("FeatherHall$Duel", "air", "LFeatherHall$Air;", true)
  | 1 => ("FeatherHall$Duel", "squad", "LFeatherHall$Squad;", true)
  | 2 => ("FeatherHall$Duel", "won", "[I", true)
  | _ => ("FeatherHall$Duel", "held", "[I", true)
def tyX3 : Nat → FieldType := fun k => match k with
  | 0 => .object "FeatherHall$Air"
  | 1 => .object "FeatherHall$Squad"
  | 2 => .array .int
  | _ => .array .int
abbrev wsX30 : List Cond := u_ws RX3 TX3 4
theorem nmX3 : ∀ a, a < 4 → ∀ b, b < 4 → a ≠ b → (TX3 a).2.1 ≠ (TX3 b).2.1 := by decide +kernel
theorem tyX3_ok : ∀ k, k < 4 → parseFieldDescriptor (TX3 k).2.2.1 = some (tyX3 k) := by decide +kernel
abbrev cX3_init : ByteArray := prog_5_method_1_code
def yX3_init : MethodName := ⟨RX3, "<init>", "(LFeatherHall$Air;LFeatherHall$Squad;)V"⟩
abbrev cX3_slackFor : ByteArray := prog_5_method_2_code
def yX3_slackFor : MethodName := ⟨RX3, "slackFor", "(IIJ)I"⟩
abbrev cX3_bestStrike : ByteArray := prog_5_method_3_code
def yX3_bestStrike : MethodName := ⟨RX3, "bestStrike", "(III)I"⟩
abbrev cX3_leastSlack : ByteArray := prog_5_method_4_code
def yX3_leastSlack : MethodName := ⟨RX3, "leastSlack", "(III)I"⟩
abbrev cX3_bestStand : ByteArray := prog_5_method_5_code
def yX3_bestStand : MethodName := ⟨RX3, "bestStand", "(II)I"⟩
abbrev cX3_canForce : ByteArray := prog_5_method_6_code
def yX3_canForce : MethodName := ⟨RX3, "canForce", "(IIIII)Z"⟩
abbrev cX3_widenWon : ByteArray := prog_5_method_7_code
def yX3_widenWon : MethodName := ⟨RX3, "widenWon", "(II)Z"⟩
abbrev cX3_missedFrom : ByteArray := prog_5_method_8_code
def yX3_missedFrom : MethodName := ⟨RX3, "missedFrom", "(II)I"⟩
abbrev cX3_heldAgainst : ByteArray := prog_5_method_9_code
def yX3_heldAgainst : MethodName := ⟨RX3, "heldAgainst", "(III)I"⟩
abbrev cX3_forcedFrom : ByteArray := prog_5_method_10_code
def yX3_forcedFrom : MethodName := ⟨RX3, "forcedFrom", "(III)I"⟩
def RX4 : String := "FeatherHall$Evening"
def TX4 : u_T := fun k => match k with
  | 0 => ("FeatherHall$Evening", "there", "[Z", true)
  | 1 => ("FeatherHall$Evening", "grades", "[I", true)
  | 2 => ("FeatherHall$Evening", "waited", "[I", true)
  | 3 => ("FeatherHall$Evening", "games", "[I", true)
  | 4 => ("FeatherHall$Evening", "mates", "[I", true)
  | 5 => ("FeatherHall$Evening", "bestMates", "[I", true)
  | 6 => ("FeatherHall$Evening", "courtsNow", "I", false)
  | 7 => ("FeatherHall$Evening", "present", "I", false)
  | 8 => ("FeatherHall$Evening", "rounds", "I", false)
  | 9 => ("FeatherHall$Evening", "isSought", "Z", false)
  | 10 => ("FeatherHall$Evening", "isFound", "Z", false)
  | 11 => ("FeatherHall$Evening", "bestWaited", "I", false)
  | 12 => ("FeatherHall$Evening", "bestBefore", "I", false)
  | _ => ("FeatherHall$Evening", "bestUneven", "I", false)
def tyX4 : Nat → FieldType := fun k => match k with
  | 0 => .array .boolean
  | 1 => .array .int
  | 2 => .array .int
  | 3 => .array .int
  | 4 => .array .int
  | 5 => .array .int
  | 6 => .int
  | 7 => .int
  | 8 => .int
  | 9 => .boolean
  | 10 => .boolean
  | 11 => .int
  | 12 => .int
  | _ => .int
abbrev wsX40 : List Cond := u_ws RX4 TX4 14
theorem nmX4 : ∀ a, a < 14 → ∀ b, b < 14 → a ≠ b → (TX4 a).2.1 ≠ (TX4 b).2.1 := by decide +kernel
theorem tyX4_ok : ∀ k, k < 14 → parseFieldDescriptor (TX4 k).2.2.1 = some (tyX4 k) := by decide +kernel
abbrev cX4_init : ByteArray := prog_6_method_1_code
def yX4_init : MethodName := ⟨RX4, "<init>", "()V"⟩
abbrev cX4_setCourts : ByteArray := prog_6_method_2_code
def yX4_setCourts : MethodName := ⟨RX4, "setCourts", "(I)I"⟩
abbrev cX4_isThere : ByteArray := prog_6_method_3_code
def yX4_isThere : MethodName := ⟨RX4, "isThere", "(I)Z"⟩
abbrev cX4_enter : ByteArray := prog_6_method_4_code
def yX4_enter : MethodName := ⟨RX4, "enter", "(II)I"⟩
abbrev cX4_exit : ByteArray := prog_6_method_5_code
def yX4_exit : MethodName := ⟨RX4, "exit", "(I)I"⟩
abbrev cX4_mateOf : ByteArray := prog_6_method_6_code
def yX4_mateOf : MethodName := ⟨RX4, "mateOf", "(I)I"⟩
abbrev cX4_readRound : ByteArray := prog_6_method_7_code
def yX4_readRound : MethodName := ⟨RX4, "readRound", "(I)I"⟩
abbrev cX4_playRound : ByteArray := prog_6_method_8_code
def yX4_playRound : MethodName := ⟨RX4, "playRound", "()I"⟩
abbrev cX4_gamesOfBoth : ByteArray := prog_6_method_9_code
def yX4_gamesOfBoth : MethodName := ⟨RX4, "gamesOfBoth", "(II)I"⟩
abbrev cX4_gamesOf : ByteArray := prog_6_method_10_code
def yX4_gamesOf : MethodName := ⟨RX4, "gamesOf", "(I)I"⟩
abbrev cX4_waitedOf : ByteArray := prog_6_method_11_code
def yX4_waitedOf : MethodName := ⟨RX4, "waitedOf", "(I)I"⟩
abbrev cX4_gradeOf : ByteArray := prog_6_method_12_code
def yX4_gradeOf : MethodName := ⟨RX4, "gradeOf", "(I)I"⟩
abbrev cX4_thereNow : ByteArray := prog_6_method_13_code
def yX4_thereNow : MethodName := ⟨RX4, "thereNow", "()I"⟩
abbrev cX4_roundsPlayed : ByteArray := prog_6_method_14_code
def yX4_roundsPlayed : MethodName := ⟨RX4, "roundsPlayed", "()I"⟩
abbrev cX4_gamesAtOnce : ByteArray := prog_6_method_15_code
def yX4_gamesAtOnce : MethodName := ⟨RX4, "gamesAtOnce", "()I"⟩
abbrev cX4_seek : ByteArray := prog_6_method_16_code
def yX4_seek : MethodName := ⟨RX4, "seek", "()V"⟩
abbrev cX4_pairFrom : ByteArray := prog_6_method_17_code
def yX4_pairFrom : MethodName := ⟨RX4, "pairFrom", "(IIIII)V"⟩
abbrev cX4_isFree : ByteArray := prog_6_method_18_code
def yX4_isFree : MethodName := ⟨RX4, "isFree", "(I)Z"⟩
abbrev cX4_keepIfBetter : ByteArray := prog_6_method_19_code
def yX4_keepIfBetter : MethodName := ⟨RX4, "keepIfBetter", "(III)V"⟩
abbrev cX4_isBetter : ByteArray := prog_6_method_20_code
def yX4_isBetter : MethodName := ⟨RX4, "isBetter", "(III)Z"⟩
def RX5 : String := "FeatherHall$Notebook"
def TX5 : u_T := fun k => match k with
  | 0 => ("FeatherHall$Notebook", "both", "[I", true)
  | 1 => ("FeatherHall$Notebook", "withZone", "[I", true)
  | 2 => ("FeatherHall$Notebook", "withKind", "[I", true)
  | 3 => ("FeatherHall$Notebook", "withoutGap", "I", false)
  | _ => ("FeatherHall$Notebook", "notes", "I", false)
def tyX5 : Nat → FieldType := fun k => match k with
  | 0 => .array .int
  | 1 => .array .int
  | 2 => .array .int
  | 3 => .int
  | _ => .int
abbrev wsX50 : List Cond := u_ws RX5 TX5 5
theorem nmX5 : ∀ a, a < 5 → ∀ b, b < 5 → a ≠ b → (TX5 a).2.1 ≠ (TX5 b).2.1 := by decide +kernel
theorem tyX5_ok : ∀ k, k < 5 → parseFieldDescriptor (TX5 k).2.2.1 = some (tyX5 k) := by decide +kernel
abbrev cX5_init : ByteArray := prog_7_method_1_code
def yX5_init : MethodName := ⟨RX5, "<init>", "()V"⟩
abbrev cX5_size : ByteArray := prog_7_method_2_code
def yX5_size : MethodName := ⟨RX5, "size", "()I"⟩
abbrev cX5_add : ByteArray := prog_7_method_3_code
def yX5_add : MethodName := ⟨RX5, "add", "(IIZ)I"⟩
abbrev cX5_read : ByteArray := prog_7_method_4_code
def yX5_read : MethodName := ⟨RX5, "read", "(III)I"⟩
abbrev cX5_triedHabits : ByteArray := prog_7_method_5_code
def yX5_triedHabits : MethodName := ⟨RX5, "triedHabits", "()I"⟩
abbrev cX5_isPastChance : ByteArray := prog_7_method_6_code
def yX5_isPastChance : MethodName := ⟨RX5, "isPastChance", "(II)Z"⟩
abbrev cX5_strongestHabit : ByteArray := prog_7_method_7_code
def yX5_strongestHabit : MethodName := ⟨RX5, "strongestHabit", "()I"⟩
abbrev cX5_aboveZero : ByteArray := prog_7_method_8_code
def yX5_aboveZero : MethodName := ⟨RX5, "aboveZero", "([I)I"⟩
abbrev cX5_ways : ByteArray := prog_7_method_9_code
def yX5_ways : MethodName := ⟨RX5, "ways", "(II)J"⟩
def RX6 : String := "FeatherHall$Squad"
def TX6 : u_T := fun k => match k with
  | 0 => ("FeatherHall$Squad", "paces", "[I", true)
  | 1 => ("FeatherHall$Squad", "reaches", "[I", true)
  | 2 => ("FeatherHall$Squad", "tireds", "[I", true)
  | _ => ("FeatherHall$Squad", "strides", "[I", true)
def tyX6 : Nat → FieldType := fun k => match k with
  | 0 => .array .int
  | 1 => .array .int
  | 2 => .array .int
  | _ => .array .int
abbrev wsX60 : List Cond := u_ws RX6 TX6 4
theorem nmX6 : ∀ a, a < 4 → ∀ b, b < 4 → a ≠ b → (TX6 a).2.1 ≠ (TX6 b).2.1 := by decide +kernel
theorem tyX6_ok : ∀ k, k < 4 → parseFieldDescriptor (TX6 k).2.2.1 = some (tyX6 k) := by decide +kernel
abbrev cX6_init : ByteArray := prog_8_method_1_code
def yX6_init : MethodName := ⟨RX6, "<init>", "()V"⟩
abbrev cX6_setPlayer : ByteArray := prog_8_method_2_code
def yX6_setPlayer : MethodName := ⟨RX6, "setPlayer", "(III)V"⟩
abbrev cX6_tire : ByteArray := prog_8_method_3_code
def yX6_tire : MethodName := ⟨RX6, "tire", "(II)I"⟩
abbrev cX6_tiredOf : ByteArray := prog_8_method_4_code
def yX6_tiredOf : MethodName := ⟨RX6, "tiredOf", "(I)I"⟩
abbrev cX6_reachOf : ByteArray := prog_8_method_5_code
def yX6_reachOf : MethodName := ⟨RX6, "reachOf", "(I)I"⟩
abbrev cX6_strideOf : ByteArray := prog_8_method_6_code
def yX6_strideOf : MethodName := ⟨RX6, "strideOf", "(I)I"⟩
abbrev cX6_comes : ByteArray := prog_8_method_7_code
def yX6_comes : MethodName := ⟨RX6, "comes", "(II)I"⟩
abbrev cX6_meetingCells : ByteArray := prog_8_method_8_code
def yX6_meetingCells : MethodName := ⟨RX6, "meetingCells", "(III)I"⟩
abbrev cX6_setStride : ByteArray := prog_8_method_9_code
def yX6_setStride : MethodName := ⟨RX6, "setStride", "(I)V"⟩
def RX7 : String := "FeatherHall$Trio"
def TX7 : u_T := fun k => match k with
  | 0 => ("FeatherHall$Trio", "scores", "[I", true)
  | _ => ("FeatherHall$Trio", "server", "I", false)
def tyX7 : Nat → FieldType := fun k => match k with
  | 0 => .array .int
  | _ => .int
abbrev wsX70 : List Cond := u_ws RX7 TX7 2
theorem nmX7 : ∀ a, a < 2 → ∀ b, b < 2 → a ≠ b → (TX7 a).2.1 ≠ (TX7 b).2.1 := by decide +kernel
theorem tyX7_ok : ∀ k, k < 2 → parseFieldDescriptor (TX7 k).2.2.1 = some (tyX7 k) := by decide +kernel
abbrev cX7_init : ByteArray := prog_9_method_1_code
def yX7_init : MethodName := ⟨RX7, "<init>", "()V"⟩
abbrev cX7_isOver : ByteArray := prog_9_method_2_code
def yX7_isOver : MethodName := ⟨RX7, "isOver", "()Z"⟩
abbrev cX7_tell : ByteArray := prog_9_method_3_code
def yX7_tell : MethodName := ⟨RX7, "tell", "(I)I"⟩
abbrev cX7_read : ByteArray := prog_9_method_4_code
def yX7_read : MethodName := ⟨RX7, "read", "(I)I"⟩
abbrev cX7_restart : ByteArray := prog_9_method_5_code
def yX7_restart : MethodName := ⟨RX7, "restart", "()I"⟩
abbrev cX7_aloneNow : ByteArray := prog_9_method_6_code
def yX7_aloneNow : MethodName := ⟨RX7, "aloneNow", "()I"⟩
def RX8 : String := "FeatherHall"
def TX8 : u_T := fun k => match k with
  | 0 => ("FeatherHall", "air", "LFeatherHall$Air;", true)
  | 1 => ("FeatherHall", "squad", "LFeatherHall$Squad;", true)
  | 2 => ("FeatherHall", "duel", "LFeatherHall$Duel;", true)
  | 3 => ("FeatherHall", "trio", "LFeatherHall$Trio;", true)
  | 4 => ("FeatherHall", "notebook", "LFeatherHall$Notebook;", true)
  | 5 => ("FeatherHall", "basket", "LFeatherHall$Basket;", true)
  | _ => ("FeatherHall", "evening", "LFeatherHall$Evening;", true)
def tyX8 : Nat → FieldType := fun k => match k with
  | 0 => .object "FeatherHall$Air"
  | 1 => .object "FeatherHall$Squad"
  | 2 => .object "FeatherHall$Duel"
  | 3 => .object "FeatherHall$Trio"
  | 4 => .object "FeatherHall$Notebook"
  | 5 => .object "FeatherHall$Basket"
  | _ => .object "FeatherHall$Evening"
abbrev wsX80 : List Cond := u_ws RX8 TX8 7
theorem nmX8 : ∀ a, a < 7 → ∀ b, b < 7 → a ≠ b → (TX8 a).2.1 ≠ (TX8 b).2.1 := by decide +kernel
theorem tyX8_ok : ∀ k, k < 7 → parseFieldDescriptor (TX8 k).2.2.1 = some (tyX8 k) := by decide +kernel
abbrev cX8_init : ByteArray := prog_1_method_1_code
def yX8_init : MethodName := ⟨RX8, "<init>", "()V"⟩
abbrev cX8_kind : ByteArray := prog_1_method_2_code
def yX8_kind : MethodName := ⟨RX8, "kind", "(IIII)I"⟩
abbrev cX8_broken : ByteArray := prog_1_method_3_code
def yX8_broken : MethodName := ⟨RX8, "broken", "(I)I"⟩
abbrev cX8_flight : ByteArray := prog_1_method_4_code
def yX8_flight : MethodName := ⟨RX8, "flight", "(IIII)I"⟩
abbrev cX8_over : ByteArray := prog_1_method_5_code
def yX8_over : MethodName := ⟨RX8, "over", "(IIII)I"⟩
abbrev cX8_player : ByteArray := prog_1_method_6_code
def yX8_player : MethodName := ⟨RX8, "player", "(III)I"⟩
abbrev cX8_run : ByteArray := prog_1_method_7_code
def yX8_run : MethodName := ⟨RX8, "run", "(II)I"⟩
abbrev cX8_rest : ByteArray := prog_1_method_8_code
def yX8_rest : MethodName := ⟨RX8, "rest", "(II)I"⟩
abbrev cX8_slack : ByteArray := prog_1_method_9_code
def yX8_slack : MethodName := ⟨RX8, "slack", "(IIIII)I"⟩
abbrev cX8_strike : ByteArray := prog_1_method_10_code
def yX8_strike : MethodName := ⟨RX8, "strike", "(IIII)I"⟩
abbrev cX8_stand : ByteArray := prog_1_method_11_code
def yX8_stand : MethodName := ⟨RX8, "stand", "(III)I"⟩
abbrev cX8_wins : ByteArray := prog_1_method_12_code
def yX8_wins : MethodName := ⟨RX8, "wins", "(IIIII)I"⟩
abbrev cX8_rally : ByteArray := prog_1_method_13_code
def yX8_rally : MethodName := ⟨RX8, "rally", "(I)I"⟩
abbrev cX8_three : ByteArray := prog_1_method_14_code
def yX8_three : MethodName := ⟨RX8, "three", "(I)I"⟩
abbrev cX8_again : ByteArray := prog_1_method_15_code
def yX8_again : MethodName := ⟨RX8, "again", "()I"⟩
abbrev cX8_note : ByteArray := prog_1_method_16_code
def yX8_note : MethodName := ⟨RX8, "note", "(IIZ)I"⟩
abbrev cX8_tally : ByteArray := prog_1_method_17_code
def yX8_tally : MethodName := ⟨RX8, "tally", "(III)I"⟩
abbrev cX8_habit : ByteArray := prog_1_method_18_code
def yX8_habit : MethodName := ⟨RX8, "habit", "(II)I"⟩
abbrev cX8_strongest : ByteArray := prog_1_method_19_code
def yX8_strongest : MethodName := ⟨RX8, "strongest", "()I"⟩
abbrev cX8_cost : ByteArray := prog_1_method_20_code
def yX8_cost : MethodName := ⟨RX8, "cost", "(II)I"⟩
abbrev cX8_wear : ByteArray := prog_1_method_21_code
def yX8_wear : MethodName := ⟨RX8, "wear", "(II)I"⟩
abbrev cX8_plan : ByteArray := prog_1_method_22_code
def yX8_plan : MethodName := ⟨RX8, "plan", "(I)I"⟩
abbrev cX8_unplan : ByteArray := prog_1_method_23_code
def yX8_unplan : MethodName := ⟨RX8, "unplan", "()I"⟩
abbrev cX8_costs : ByteArray := prog_1_method_24_code
def yX8_costs : MethodName := ⟨RX8, "costs", "(I)I"⟩
abbrev cX8_change : ByteArray := prog_1_method_25_code
def yX8_change : MethodName := ⟨RX8, "change", "()I"⟩
abbrev cX8_courts : ByteArray := prog_1_method_26_code
def yX8_courts : MethodName := ⟨RX8, "courts", "(I)I"⟩
abbrev cX8_come : ByteArray := prog_1_method_27_code
def yX8_come : MethodName := ⟨RX8, "come", "(II)I"⟩
abbrev cX8_leave : ByteArray := prog_1_method_28_code
def yX8_leave : MethodName := ⟨RX8, "leave", "(I)I"⟩
abbrev cX8_against : ByteArray := prog_1_method_29_code
def yX8_against : MethodName := ⟨RX8, "against", "(I)I"⟩
abbrev cX8_round : ByteArray := prog_1_method_30_code
def yX8_round : MethodName := ⟨RX8, "round", "(I)I"⟩
abbrev cX8_played : ByteArray := prog_1_method_31_code
def yX8_played : MethodName := ⟨RX8, "played", "()I"⟩
abbrev cX8_had : ByteArray := prog_1_method_32_code
def yX8_had : MethodName := ⟨RX8, "had", "(II)I"⟩
abbrev cX8_of : ByteArray := prog_1_method_33_code
def yX8_of : MethodName := ⟨RX8, "of", "(II)I"⟩
abbrev cX8_count : ByteArray := prog_1_method_34_code
def yX8_count : MethodName := ⟨RX8, "count", "(I)I"⟩
abbrev cX8_isWithin : ByteArray := prog_1_method_35_code
def yX8_isWithin : MethodName := ⟨RX8, "isWithin", "(III)Z"⟩
abbrev cX8_isCell : ByteArray := prog_1_method_36_code
def yX8_isCell : MethodName := ⟨RX8, "isCell", "(I)Z"⟩
abbrev cX8_isKind : ByteArray := prog_1_method_37_code
def yX8_isKind : MethodName := ⟨RX8, "isKind", "(I)Z"⟩
abbrev cX8_isZone : ByteArray := prog_1_method_38_code
def yX8_isZone : MethodName := ⟨RX8, "isZone", "(I)Z"⟩
abbrev cX8_isPlayer : ByteArray := prog_1_method_39_code
def yX8_isPlayer : MethodName := ⟨RX8, "isPlayer", "(I)Z"⟩
def RX9 : String := "FeatherHallModel"
def TX9 : u_T := fun k => match k with
  | 0 => ("FeatherHallModel", "speed", "[I", true)
  | 1 => ("FeatherHallModel", "drag", "[I", true)
  | 2 => ("FeatherHallModel", "meet", "[I", true)
  | 3 => ("FeatherHallModel", "broken", "I", false)
  | 4 => ("FeatherHallModel", "pace", "[I", true)
  | 5 => ("FeatherHallModel", "reach", "[I", true)
  | 6 => ("FeatherHallModel", "tired", "[I", true)
  | 7 => ("FeatherHallModel", "overCell", "[I", true)
  | 8 => ("FeatherHallModel", "lands", "I", false)
  | 9 => ("FeatherHallModel", "meetsP", "[I", true)
  | 10 => ("FeatherHallModel", "meetsQ", "[I", true)
  | 11 => ("FeatherHallModel", "wins", "[Z", true)
  | 12 => ("FeatherHallModel", "winsNext", "[Z", true)
  | 13 => ("FeatherHallModel", "holds", "[Z", true)
  | 14 => ("FeatherHallModel", "scores", "[I", true)
  | 15 => ("FeatherHallModel", "serves", "I", false)
  | 16 => ("FeatherHallModel", "notes", "I", false)
  | 17 => ("FeatherHallModel", "noteZone", "[I", true)
  | 18 => ("FeatherHallModel", "noteKind", "[I", true)
  | 19 => ("FeatherHallModel", "ways", "[J", true)
  | 20 => ("FeatherHallModel", "price", "I", false)
  | 21 => ("FeatherHallModel", "loss", "I", false)
  | 22 => ("FeatherHallModel", "wear", "[I", true)
  | 23 => ("FeatherHallModel", "planned", "I", false)
  | 24 => ("FeatherHallModel", "plan", "[I", true)
  | 25 => ("FeatherHallModel", "courts", "I", false)
  | 26 => ("FeatherHallModel", "isThere", "[Z", true)
  | 27 => ("FeatherHallModel", "grade", "[I", true)
  | 28 => ("FeatherHallModel", "waited", "[I", true)
  | 29 => ("FeatherHallModel", "had", "[I", true)
  | 30 => ("FeatherHallModel", "roundsPlayed", "I", false)
  | 31 => ("FeatherHallModel", "option", "[I", true)
  | 32 => ("FeatherHallModel", "mate", "[I", true)
  | 33 => ("FeatherHallModel", "best", "[I", true)
  | 34 => ("FeatherHallModel", "bestGames", "I", false)
  | 35 => ("FeatherHallModel", "bestWaited", "I", false)
  | 36 => ("FeatherHallModel", "bestHad", "I", false)
  | _ => ("FeatherHallModel", "bestGrades", "I", false)
def tyX9 : Nat → FieldType := fun k => match k with
  | 0 => .array .int
  | 1 => .array .int
  | 2 => .array .int
  | 3 => .int
  | 4 => .array .int
  | 5 => .array .int
  | 6 => .array .int
  | 7 => .array .int
  | 8 => .int
  | 9 => .array .int
  | 10 => .array .int
  | 11 => .array .boolean
  | 12 => .array .boolean
  | 13 => .array .boolean
  | 14 => .array .int
  | 15 => .int
  | 16 => .int
  | 17 => .array .int
  | 18 => .array .int
  | 19 => .array .long
  | 20 => .int
  | 21 => .int
  | 22 => .array .int
  | 23 => .int
  | 24 => .array .int
  | 25 => .int
  | 26 => .array .boolean
  | 27 => .array .int
  | 28 => .array .int
  | 29 => .array .int
  | 30 => .int
  | 31 => .array .int
  | 32 => .array .int
  | 33 => .array .int
  | 34 => .int
  | 35 => .int
  | 36 => .int
  | _ => .int
abbrev wsX90 : List Cond := u_ws RX9 TX9 38
theorem nmX9 : ∀ a, a < 38 → ∀ b, b < 38 → a ≠ b → (TX9 a).2.1 ≠ (TX9 b).2.1 := by decide +kernel
theorem tyX9_ok : ∀ k, k < 38 → parseFieldDescriptor (TX9 k).2.2.1 = some (tyX9 k) := by decide +kernel
abbrev cX9_init : ByteArray := prog_11_method_1_code
def yX9_init : MethodName := ⟨RX9, "<init>", "()V"⟩
abbrev cX9_in : ByteArray := prog_11_method_2_code
def yX9_in : MethodName := ⟨RX9, "in", "(III)Z"⟩
abbrev cX9_isCell : ByteArray := prog_11_method_3_code
def yX9_isCell : MethodName := ⟨RX9, "isCell", "(I)Z"⟩
abbrev cX9_isKind : ByteArray := prog_11_method_4_code
def yX9_isKind : MethodName := ⟨RX9, "isKind", "(I)Z"⟩
abbrev cX9_isPlayer : ByteArray := prog_11_method_5_code
def yX9_isPlayer : MethodName := ⟨RX9, "isPlayer", "(I)Z"⟩
abbrev cX9_size : ByteArray := prog_11_method_6_code
def yX9_size : MethodName := ⟨RX9, "size", "(I)I"⟩
abbrev cX9_far : ByteArray := prog_11_method_7_code
def yX9_far : MethodName := ⟨RX9, "far", "(II)I"⟩
abbrev cX9_kind : ByteArray := prog_11_method_8_code
def yX9_kind : MethodName := ⟨RX9, "kind", "(IIII)I"⟩
abbrev cX9_broken : ByteArray := prog_11_method_9_code
def yX9_broken : MethodName := ⟨RX9, "broken", "(I)I"⟩
abbrev cX9_fly : ByteArray := prog_11_method_10_code
def yX9_fly : MethodName := ⟨RX9, "fly", "(III)V"⟩
abbrev cX9_firstMet : ByteArray := prog_11_method_11_code
def yX9_firstMet : MethodName := ⟨RX9, "firstMet", "(I)I"⟩
abbrev cX9_flight : ByteArray := prog_11_method_12_code
def yX9_flight : MethodName := ⟨RX9, "flight", "(IIII)I"⟩
abbrev cX9_over : ByteArray := prog_11_method_13_code
def yX9_over : MethodName := ⟨RX9, "over", "(IIII)I"⟩
abbrev cX9_player : ByteArray := prog_11_method_14_code
def yX9_player : MethodName := ⟨RX9, "player", "(III)I"⟩
abbrev cX9_run : ByteArray := prog_11_method_15_code
def yX9_run : MethodName := ⟨RX9, "run", "(II)I"⟩
abbrev cX9_rest : ByteArray := prog_11_method_16_code
def yX9_rest : MethodName := ⟨RX9, "rest", "(II)I"⟩
abbrev cX9_stride : ByteArray := prog_11_method_17_code
def yX9_stride : MethodName := ⟨RX9, "stride", "(I)I"⟩
abbrev cX9_over0 : ByteArray := prog_11_method_18_code
def yX9_over0 : MethodName := ⟨RX9, "over0", "(III)I"⟩
abbrev cX9_slackOf : ByteArray := prog_11_method_19_code
def yX9_slackOf : MethodName := ⟨RX9, "slackOf", "(III)I"⟩
abbrev cX9_slack : ByteArray := prog_11_method_20_code
def yX9_slack : MethodName := ⟨RX9, "slack", "(IIIII)I"⟩
abbrev cX9_strike : ByteArray := prog_11_method_21_code
def yX9_strike : MethodName := ⟨RX9, "strike", "(IIII)I"⟩
abbrev cX9_leastSlack : ByteArray := prog_11_method_22_code
def yX9_leastSlack : MethodName := ⟨RX9, "leastSlack", "(III)I"⟩
abbrev cX9_stand : ByteArray := prog_11_method_23_code
def yX9_stand : MethodName := ⟨RX9, "stand", "(III)I"⟩
abbrev cX9_meetsOf : ByteArray := prog_11_method_24_code
def yX9_meetsOf : MethodName := ⟨RX9, "meetsOf", "(III)I"⟩
abbrev cX9_findMeetings : ByteArray := prog_11_method_25_code
def yX9_findMeetings : MethodName := ⟨RX9, "findMeetings", "(II)V"⟩
abbrev cX9_winsAll : ByteArray := prog_11_method_26_code
def yX9_winsAll : MethodName := ⟨RX9, "winsAll", "(III)Z"⟩
abbrev cX9_holdsAll : ByteArray := prog_11_method_27_code
def yX9_holdsAll : MethodName := ⟨RX9, "holdsAll", "(III)Z"⟩
abbrev cX9_winsNow : ByteArray := prog_11_method_28_code
def yX9_winsNow : MethodName := ⟨RX9, "winsNow", "(II)Z"⟩
abbrev cX9_winsLater : ByteArray := prog_11_method_29_code
def yX9_winsLater : MethodName := ⟨RX9, "winsLater", "(III)Z"⟩
abbrev cX9_wins : ByteArray := prog_11_method_30_code
def yX9_wins : MethodName := ⟨RX9, "wins", "(IIIII)I"⟩
abbrev cX9_alone : ByteArray := prog_11_method_31_code
def yX9_alone : MethodName := ⟨RX9, "alone", "()I"⟩
abbrev cX9_isOver : ByteArray := prog_11_method_32_code
def yX9_isOver : MethodName := ⟨RX9, "isOver", "()Z"⟩
abbrev cX9_rally : ByteArray := prog_11_method_33_code
def yX9_rally : MethodName := ⟨RX9, "rally", "(I)I"⟩
abbrev cX9_three : ByteArray := prog_11_method_34_code
def yX9_three : MethodName := ⟨RX9, "three", "(I)I"⟩
abbrev cX9_again : ByteArray := prog_11_method_35_code
def yX9_again : MethodName := ⟨RX9, "again", "()I"⟩
abbrev cX9_note : ByteArray := prog_11_method_36_code
def yX9_note : MethodName := ⟨RX9, "note", "(IIZ)I"⟩
abbrev cX9_tallyOf : ByteArray := prog_11_method_37_code
def yX9_tallyOf : MethodName := ⟨RX9, "tallyOf", "(III)I"⟩
abbrev cX9_tally : ByteArray := prog_11_method_38_code
def yX9_tally : MethodName := ⟨RX9, "tally", "(III)I"⟩
abbrev cX9_isTried : ByteArray := prog_11_method_39_code
def yX9_isTried : MethodName := ⟨RX9, "isTried", "(II)Z"⟩
abbrev cX9_triedMany : ByteArray := prog_11_method_40_code
def yX9_triedMany : MethodName := ⟨RX9, "triedMany", "()I"⟩
abbrev cX9_choose : ByteArray := prog_11_method_41_code
def yX9_choose : MethodName := ⟨RX9, "choose", "(II)J"⟩
abbrev cX9_isPast : ByteArray := prog_11_method_42_code
def yX9_isPast : MethodName := ⟨RX9, "isPast", "(II)Z"⟩
abbrev cX9_habit : ByteArray := prog_11_method_43_code
def yX9_habit : MethodName := ⟨RX9, "habit", "(II)I"⟩
abbrev cX9_strongest : ByteArray := prog_11_method_44_code
def yX9_strongest : MethodName := ⟨RX9, "strongest", "()I"⟩
abbrev cX9_cost : ByteArray := prog_11_method_45_code
def yX9_cost : MethodName := ⟨RX9, "cost", "(II)I"⟩
abbrev cX9_wear : ByteArray := prog_11_method_46_code
def yX9_wear : MethodName := ⟨RX9, "wear", "(II)I"⟩
abbrev cX9_plan : ByteArray := prog_11_method_47_code
def yX9_plan : MethodName := ⟨RX9, "plan", "(I)I"⟩
abbrev cX9_unplan : ByteArray := prog_11_method_48_code
def yX9_unplan : MethodName := ⟨RX9, "unplan", "()I"⟩
abbrev cX9_costsOf : ByteArray := prog_11_method_49_code
def yX9_costsOf : MethodName := ⟨RX9, "costsOf", "(I)I"⟩
abbrev cX9_costs : ByteArray := prog_11_method_50_code
def yX9_costs : MethodName := ⟨RX9, "costs", "(I)I"⟩
abbrev cX9_change : ByteArray := prog_11_method_51_code
def yX9_change : MethodName := ⟨RX9, "change", "()I"⟩
abbrev cX9_courts : ByteArray := prog_11_method_52_code
def yX9_courts : MethodName := ⟨RX9, "courts", "(I)I"⟩
abbrev cX9_thereMany : ByteArray := prog_11_method_53_code
def yX9_thereMany : MethodName := ⟨RX9, "thereMany", "()I"⟩
abbrev cX9_come : ByteArray := prog_11_method_54_code
def yX9_come : MethodName := ⟨RX9, "come", "(II)I"⟩
abbrev cX9_leave : ByteArray := prog_11_method_55_code
def yX9_leave : MethodName := ⟨RX9, "leave", "(I)I"⟩
abbrev cX9_lookAtRound : ByteArray := prog_11_method_56_code
def yX9_lookAtRound : MethodName := ⟨RX9, "lookAtRound", "(I)V"⟩
abbrev cX9_findRound : ByteArray := prog_11_method_57_code
def yX9_findRound : MethodName := ⟨RX9, "findRound", "()V"⟩
abbrev cX9_against : ByteArray := prog_11_method_58_code
def yX9_against : MethodName := ⟨RX9, "against", "(I)I"⟩
abbrev cX9_round : ByteArray := prog_11_method_59_code
def yX9_round : MethodName := ⟨RX9, "round", "(I)I"⟩
abbrev cX9_played : ByteArray := prog_11_method_60_code
def yX9_played : MethodName := ⟨RX9, "played", "()I"⟩
abbrev cX9_had : ByteArray := prog_11_method_61_code
def yX9_had : MethodName := ⟨RX9, "had", "(II)I"⟩
abbrev cX9_of : ByteArray := prog_11_method_62_code
def yX9_of : MethodName := ⟨RX9, "of", "(II)I"⟩
abbrev cX9_count : ByteArray := prog_11_method_63_code
def yX9_count : MethodName := ⟨RX9, "count", "(I)I"⟩
def RJ9 : String := "java/lang/Math"
def TJ9 : u_T := fun k => match k with
  | _ => ("", "", "", false)
def tyJ9 : Nat → FieldType := fun k => match k with
  | _ => .int
abbrev wsJ90 : List Cond := u_ws RJ9 TJ9 0
theorem nmJ9 : ∀ a, a < 0 → ∀ b, b < 0 → a ≠ b → (TJ9 a).2.1 ≠ (TJ9 b).2.1 := by decide +kernel
theorem tyJ9_ok : ∀ k, k < 0 → parseFieldDescriptor (TJ9 k).2.2.1 = some (tyJ9 k) := by decide +kernel
abbrev cJ9_abs_0f7a4 : ByteArray := prog_12_method_59_code
def yJ9_abs_0f7a4 : MethodName := ⟨RJ9, "abs", "(I)I"⟩
abbrev cJ9_max_7cf53 : ByteArray := prog_12_method_65_code
def yJ9_max_7cf53 : MethodName := ⟨RJ9, "max", "(II)I"⟩
abbrev cJ9_min_7cf53 : ByteArray := prog_12_method_69_code
def yJ9_min_7cf53 : MethodName := ⟨RJ9, "min", "(II)I"⟩
def RJ10 : String := "java/lang/System"
def TJ10 : u_T := fun k => match k with
  | _ => ("", "", "", false)
def tyJ10 : Nat → FieldType := fun k => match k with
  | _ => .int
abbrev wsJ100 : List Cond := u_ws RJ10 TJ10 0
theorem nmJ10 : ∀ a, a < 0 → ∀ b, b < 0 → a ≠ b → (TJ10 a).2.1 ≠ (TJ10 b).2.1 := by decide +kernel
theorem tyJ10_ok : ∀ k, k < 0 → parseFieldDescriptor (TJ10 k).2.2.1 = some (tyJ10 k) := by decide +kernel
def RJ7 : String := "java/util/Arrays"
def TJ7 : u_T := fun k => match k with
  | _ => ("", "", "", false)
def tyJ7 : Nat → FieldType := fun k => match k with
  | _ => .int
abbrev wsJ70 : List Cond := u_ws RJ7 TJ7 0
theorem nmJ7 : ∀ a, a < 0 → ∀ b, b < 0 → a ≠ b → (TJ7 a).2.1 ≠ (TJ7 b).2.1 := by decide +kernel
theorem tyJ7_ok : ∀ k, k < 0 → parseFieldDescriptor (TJ7 k).2.2.1 = some (tyJ7 k) := by decide +kernel
abbrev cJ7_fill_d0a16 : ByteArray := prog_14_method_101_code
def yJ7_fill_d0a16 : MethodName := ⟨RJ7, "fill", "([JJ)V"⟩
abbrev cJ7_fill_53178 : ByteArray := prog_14_method_103_code
def yJ7_fill_53178 : MethodName := ⟨RJ7, "fill", "([II)V"⟩
def RL : String := "FeatherHallLaw"
abbrev cL_law : ByteArray := code
def yL_law : MethodName := ⟨RL, "law", "([I)Z"⟩
def wsX0_init : List Cond := .code yX0_init cX0_init 1 none :: ([.methodLink RX0 3 objectInit, .instanceMethod objectInit, .code objectInit ⟨#[0xb1]⟩ 1 none, .arrayClass .int, .fieldLink RX0 9 "FeatherHall$Air" "speeds" "[I", .fieldLink RX0 15 "FeatherHall$Air" "drags" "[I", .fieldLink RX0 18 "FeatherHall$Air" "meets" "[I", .arrayClass .long, .fieldLink RX0 21 "FeatherHall$Air" "paths" "[J", .fieldLink RX0 25 "FeatherHall$Air" "brokenOnes" "I"] ++ wsX00)
def wsX0_setKind : List Cond := .code yX0_setKind cX0_setKind 6 none :: ([.fieldLink RX0 9 "FeatherHall$Air" "speeds" "[I", .fieldLink RX0 15 "FeatherHall$Air" "drags" "[I", .fieldLink RX0 18 "FeatherHall$Air" "meets" "[I", .fieldLink RX0 21 "FeatherHall$Air" "paths" "[J"] ++ wsX00)
def wsJ7_fill_d0a16 : List Cond := .code yJ7_fill_d0a16 cJ7_fill_d0a16 5 none :: ([])
def wsX0_setBroken : List Cond := .code yX0_setBroken cX0_setBroken 3 (some .int) :: ([.fieldLink RX0 25 "FeatherHall$Air" "brokenOnes" "I", .fieldLink RX0 21 "FeatherHall$Air" "paths" "[J", .methodLink RX0 29 yJ7_fill_d0a16, .static yJ7_fill_d0a16, .initialized RJ7, .code yJ7_fill_d0a16 cJ7_fill_d0a16 5 none] ++ wsX00)
def wsX0_landingOf : List Cond := .code yX0_landingOf cX0_landingOf 2 (some .int) :: ([.constantLong RX0 35 (63)])
def wsX0_firstMetOf : List Cond := .code yX0_firstMetOf cX0_firstMetOf 2 (some .int) :: ([.constantLong RX0 35 (63)])
def wsX0_isNet : List Cond := .code yX0_isNet cX0_isNet 2 (some .boolean) :: ([.methodLink RX0 37 yX0_firstMetOf, .static yX0_firstMetOf, .initialized RX0, .code yX0_firstMetOf cX0_firstMetOf 2 (some .int), .constantLong RX0 35 (63)])
def wsX0_cellAt : List Cond := .code yX0_cellAt cX0_cellAt 3 (some .int) :: ([.constantLong RX0 44 (15), .methodLink RX0 41 yX0_landingOf, .static yX0_landingOf, .initialized RX0, .code yX0_landingOf cX0_landingOf 2 (some .int), .constantLong RX0 35 (63)])
def wsX2_rowOf : List Cond := .code yX2_rowOf cX2_rowOf 1 (some .int) :: ([])
def wsX2_colOf : List Cond := .code yX2_colOf cX2_colOf 1 (some .int) :: ([])
def wsX0_lengthOf : List Cond := .code yX0_lengthOf cX0_lengthOf 3 (some .int) :: ([.methodLink RX0 86 Lib.Math.abs.name, .static Lib.Math.abs.name, .initialized "java/lang/Math", .code Lib.Math.abs.name Lib.Math.abs.code 1 (some .int), .methodLink RX0 78 yX2_rowOf, .static yX2_rowOf, .initialized RX2, .code yX2_rowOf cX2_rowOf 1 (some .int), .methodLink RX0 83 yX2_colOf, .static yX2_colOf, .code yX2_colOf cX2_colOf 1 (some .int)])
def wsX0_wholeOf : List Cond := .code yX0_wholeOf cX0_wholeOf 2 (some .int) :: ([.fieldLink RX0 25 "FeatherHall$Air" "brokenOnes" "I"] ++ wsX00)
def wsX0_slowed : List Cond := .code yX0_slowed cX0_slowed 3 (some .int) :: ([.fieldLink RX0 15 "FeatherHall$Air" "drags" "[I", .fieldLink RX0 25 "FeatherHall$Air" "brokenOnes" "I", .methodLink RX0 75 Lib.Math.max.name, .static Lib.Math.max.name, .initialized "java/lang/Math", .code Lib.Math.max.name Lib.Math.max.code 2 (some .int)] ++ wsX00)
def wsX0_placeAt : List Cond := .code yX0_placeAt cX0_placeAt 7 (some .int) :: ([.methodLink RX0 78 yX2_rowOf, .static yX2_rowOf, .initialized RX2, .code yX2_rowOf cX2_rowOf 1 (some .int), .methodLink RX0 83 yX2_colOf, .static yX2_colOf, .code yX2_colOf cX2_colOf 1 (some .int)])
def wsX0_workOut_r1 : List Cond := [Cond.fieldLink RX0 9 "FeatherHall$Air" "speeds" "[I", Cond.methodLink RX0 61 Lib.Math.min.name, Cond.static Lib.Math.min.name, Cond.initialized "java/lang/Math", Cond.code Lib.Math.min.name Lib.Math.min.code 2 (some .int), Cond.fieldLink RX0 18 "FeatherHall$Air" "meets" "[I", Cond.constantLong RX0 73 (16777215), Cond.methodLink RX0 53 yX0_lengthOf, Cond.static yX0_lengthOf, Cond.initialized RX0, Cond.code yX0_lengthOf cX0_lengthOf 3 (some .int), Cond.methodLink RX0 86 Lib.Math.abs.name, Cond.static Lib.Math.abs.name, Cond.code Lib.Math.abs.name Lib.Math.abs.code 1 (some .int), Cond.methodLink RX0 78 yX2_rowOf, Cond.static yX2_rowOf, Cond.initialized RX2, Cond.code yX2_rowOf cX2_rowOf 1 (some .int), Cond.methodLink RX0 83 yX2_colOf, Cond.static yX2_colOf, Cond.code yX2_colOf cX2_colOf 1 (some .int), Cond.methodLink RX0 57 yX0_wholeOf, Cond.instanceMethod yX0_wholeOf, Cond.selects RX0 yX0_wholeOf yX0_wholeOf]
def wsX0_workOut_r2 : List Cond := [Cond.code yX0_wholeOf cX0_wholeOf 2 (some .int), Cond.fieldLink RX0 25 "FeatherHall$Air" "brokenOnes" "I", Cond.methodLink RX0 66 yX0_slowed, Cond.instanceMethod yX0_slowed, Cond.selects RX0 yX0_slowed yX0_slowed, Cond.code yX0_slowed cX0_slowed 3 (some .int), Cond.fieldLink RX0 15 "FeatherHall$Air" "drags" "[I", Cond.methodLink RX0 75 Lib.Math.max.name, Cond.static Lib.Math.max.name, Cond.code Lib.Math.max.name Lib.Math.max.code 2 (some .int), Cond.methodLink RX0 69 yX0_placeAt, Cond.static yX0_placeAt, Cond.code yX0_placeAt cX0_placeAt 7 (some .int)]
def wsX0_workOut : List Cond := .code yX0_workOut cX0_workOut 15 (some .long) :: ((wsX0_workOut_r1 ++ wsX0_workOut_r2) ++ wsX00)
def wsX0_pathOf_r1 : List Cond := [Cond.fieldLink RX0 21 "FeatherHall$Air" "paths" "[J", Cond.methodLink RX0 46 yX0_workOut, Cond.instanceMethod yX0_workOut, Cond.selects RX0 yX0_workOut yX0_workOut, Cond.initialized RX0, Cond.code yX0_workOut cX0_workOut 15 (some .long), Cond.fieldLink RX0 9 "FeatherHall$Air" "speeds" "[I", Cond.methodLink RX0 61 Lib.Math.min.name, Cond.static Lib.Math.min.name, Cond.initialized "java/lang/Math", Cond.code Lib.Math.min.name Lib.Math.min.code 2 (some .int), Cond.fieldLink RX0 18 "FeatherHall$Air" "meets" "[I", Cond.constantLong RX0 73 (16777215), Cond.methodLink RX0 53 yX0_lengthOf, Cond.static yX0_lengthOf, Cond.code yX0_lengthOf cX0_lengthOf 3 (some .int), Cond.methodLink RX0 86 Lib.Math.abs.name, Cond.static Lib.Math.abs.name, Cond.code Lib.Math.abs.name Lib.Math.abs.code 1 (some .int), Cond.methodLink RX0 78 yX2_rowOf, Cond.static yX2_rowOf, Cond.initialized RX2, Cond.code yX2_rowOf cX2_rowOf 1 (some .int), Cond.methodLink RX0 83 yX2_colOf]
def wsX0_pathOf_r2 : List Cond := [Cond.static yX2_colOf, Cond.code yX2_colOf cX2_colOf 1 (some .int), Cond.methodLink RX0 57 yX0_wholeOf, Cond.instanceMethod yX0_wholeOf, Cond.selects RX0 yX0_wholeOf yX0_wholeOf, Cond.code yX0_wholeOf cX0_wholeOf 2 (some .int), Cond.fieldLink RX0 25 "FeatherHall$Air" "brokenOnes" "I", Cond.methodLink RX0 66 yX0_slowed, Cond.instanceMethod yX0_slowed, Cond.selects RX0 yX0_slowed yX0_slowed, Cond.code yX0_slowed cX0_slowed 3 (some .int), Cond.fieldLink RX0 15 "FeatherHall$Air" "drags" "[I", Cond.methodLink RX0 75 Lib.Math.max.name, Cond.static Lib.Math.max.name, Cond.code Lib.Math.max.name Lib.Math.max.code 2 (some .int), Cond.methodLink RX0 69 yX0_placeAt, Cond.static yX0_placeAt, Cond.code yX0_placeAt cX0_placeAt 7 (some .int)]
def wsX0_pathOf : List Cond := .code yX0_pathOf cX0_pathOf 5 (some .long) :: ((wsX0_pathOf_r1 ++ wsX0_pathOf_r2) ++ wsX00)
def wsX0_workOutFrom_r1 : List Cond := [Cond.methodLink RX0 50 yX0_pathOf, Cond.instanceMethod yX0_pathOf, Cond.selects RX0 yX0_pathOf yX0_pathOf, Cond.initialized RX0, Cond.code yX0_pathOf cX0_pathOf 5 (some .long), Cond.fieldLink RX0 21 "FeatherHall$Air" "paths" "[J", Cond.methodLink RX0 46 yX0_workOut, Cond.instanceMethod yX0_workOut, Cond.selects RX0 yX0_workOut yX0_workOut, Cond.code yX0_workOut cX0_workOut 15 (some .long), Cond.fieldLink RX0 9 "FeatherHall$Air" "speeds" "[I", Cond.methodLink RX0 61 Lib.Math.min.name, Cond.static Lib.Math.min.name, Cond.initialized "java/lang/Math", Cond.code Lib.Math.min.name Lib.Math.min.code 2 (some .int), Cond.fieldLink RX0 18 "FeatherHall$Air" "meets" "[I", Cond.constantLong RX0 73 (16777215), Cond.methodLink RX0 53 yX0_lengthOf, Cond.static yX0_lengthOf, Cond.code yX0_lengthOf cX0_lengthOf 3 (some .int), Cond.methodLink RX0 86 Lib.Math.abs.name, Cond.static Lib.Math.abs.name, Cond.code Lib.Math.abs.name Lib.Math.abs.code 1 (some .int), Cond.methodLink RX0 78 yX2_rowOf]
def wsX0_workOutFrom_r2 : List Cond := [Cond.static yX2_rowOf, Cond.initialized RX2, Cond.code yX2_rowOf cX2_rowOf 1 (some .int), Cond.methodLink RX0 83 yX2_colOf, Cond.static yX2_colOf, Cond.code yX2_colOf cX2_colOf 1 (some .int), Cond.methodLink RX0 57 yX0_wholeOf, Cond.instanceMethod yX0_wholeOf, Cond.selects RX0 yX0_wholeOf yX0_wholeOf, Cond.code yX0_wholeOf cX0_wholeOf 2 (some .int), Cond.fieldLink RX0 25 "FeatherHall$Air" "brokenOnes" "I", Cond.methodLink RX0 66 yX0_slowed, Cond.instanceMethod yX0_slowed, Cond.selects RX0 yX0_slowed yX0_slowed, Cond.code yX0_slowed cX0_slowed 3 (some .int), Cond.fieldLink RX0 15 "FeatherHall$Air" "drags" "[I", Cond.methodLink RX0 75 Lib.Math.max.name, Cond.static Lib.Math.max.name, Cond.code Lib.Math.max.name Lib.Math.max.code 2 (some .int), Cond.methodLink RX0 69 yX0_placeAt, Cond.static yX0_placeAt, Cond.code yX0_placeAt cX0_placeAt 7 (some .int)]
def wsX0_workOutFrom : List Cond := .code yX0_workOutFrom cX0_workOutFrom 3 none :: ((wsX0_workOutFrom_r1 ++ wsX0_workOutFrom_r2) ++ wsX00)
def wsX0_knownPath : List Cond := .code yX0_knownPath cX0_knownPath 3 (some .long) :: ([.fieldLink RX0 21 "FeatherHall$Air" "paths" "[J"] ++ wsX00)
def wsX0_placeBehind_r1 : List Cond := [Cond.fieldLink RX0 9 "FeatherHall$Air" "speeds" "[I", Cond.methodLink RX0 61 Lib.Math.min.name, Cond.static Lib.Math.min.name, Cond.initialized "java/lang/Math", Cond.code Lib.Math.min.name Lib.Math.min.code 2 (some .int), Cond.methodLink RX0 53 yX0_lengthOf, Cond.static yX0_lengthOf, Cond.initialized RX0, Cond.code yX0_lengthOf cX0_lengthOf 3 (some .int), Cond.methodLink RX0 86 Lib.Math.abs.name, Cond.static Lib.Math.abs.name, Cond.code Lib.Math.abs.name Lib.Math.abs.code 1 (some .int), Cond.methodLink RX0 78 yX2_rowOf, Cond.static yX2_rowOf, Cond.initialized RX2, Cond.code yX2_rowOf cX2_rowOf 1 (some .int), Cond.methodLink RX0 83 yX2_colOf, Cond.static yX2_colOf, Cond.code yX2_colOf cX2_colOf 1 (some .int), Cond.methodLink RX0 57 yX0_wholeOf, Cond.instanceMethod yX0_wholeOf, Cond.selects RX0 yX0_wholeOf yX0_wholeOf, Cond.code yX0_wholeOf cX0_wholeOf 2 (some .int), Cond.fieldLink RX0 25 "FeatherHall$Air" "brokenOnes" "I"]
def wsX0_placeBehind_r2 : List Cond := [Cond.methodLink RX0 66 yX0_slowed, Cond.instanceMethod yX0_slowed, Cond.selects RX0 yX0_slowed yX0_slowed, Cond.code yX0_slowed cX0_slowed 3 (some .int), Cond.fieldLink RX0 15 "FeatherHall$Air" "drags" "[I", Cond.methodLink RX0 75 Lib.Math.max.name, Cond.static Lib.Math.max.name, Cond.code Lib.Math.max.name Lib.Math.max.code 2 (some .int), Cond.methodLink RX0 69 yX0_placeAt, Cond.static yX0_placeAt, Cond.code yX0_placeAt cX0_placeAt 7 (some .int)]
def wsX0_placeBehind : List Cond := .code yX0_placeBehind cX0_placeBehind 10 (some .int) :: ((wsX0_placeBehind_r1 ++ wsX0_placeBehind_r2) ++ wsX00)
def wsX1_init : List Cond := .code yX1_init cX1_init 1 none :: ([.methodLink RX1 3 objectInit, .instanceMethod objectInit, .code objectInit ⟨#[0xb1]⟩ 1 none, .arrayClass .int, .fieldLink RX1 9 "FeatherHall$Basket" "wears" "[I", .fieldLink RX1 15 "FeatherHall$Basket" "planned" "[I", .fieldLink RX1 18 "FeatherHall$Basket" "sums" "[I", .fieldLink RX1 21 "FeatherHall$Basket" "length" "I", .fieldLink RX1 25 "FeatherHall$Basket" "price" "I", .fieldLink RX1 28 "FeatherHall$Basket" "loss" "I"] ++ wsX10)
def wsX1_setPrice : List Cond := .code yX1_setPrice cX1_setPrice 3 (some .int) :: ([.fieldLink RX1 25 "FeatherHall$Basket" "price" "I"] ++ wsX10)
def wsX1_setLoss : List Cond := .code yX1_setLoss cX1_setLoss 3 (some .int) :: ([.fieldLink RX1 28 "FeatherHall$Basket" "loss" "I"] ++ wsX10)
def wsX1_setWear : List Cond := .code yX1_setWear cX1_setWear 4 (some .int) :: ([.fieldLink RX1 9 "FeatherHall$Basket" "wears" "[I"] ++ wsX10)
def wsX1_isEmpty : List Cond := .code yX1_isEmpty cX1_isEmpty 1 (some .boolean) :: ([.fieldLink RX1 21 "FeatherHall$Basket" "length" "I"] ++ wsX10)
def wsX1_size : List Cond := .code yX1_size cX1_size 1 (some .int) :: ([.fieldLink RX1 21 "FeatherHall$Basket" "length" "I"] ++ wsX10)
def wsX1_add : List Cond := .code yX1_add cX1_add 2 (some .int) :: ([.fieldLink RX1 21 "FeatherHall$Basket" "length" "I", .fieldLink RX1 15 "FeatherHall$Basket" "planned" "[I"] ++ wsX10)
def wsX1_clear : List Cond := .code yX1_clear cX1_clear 2 (some .int) :: ([.fieldLink RX1 21 "FeatherHall$Basket" "length" "I"] ++ wsX10)
def wsX1_addUp : List Cond := .code yX1_addUp cX1_addUp 5 none :: ([.fieldLink RX1 18 "FeatherHall$Basket" "sums" "[I", .fieldLink RX1 25 "FeatherHall$Basket" "price" "I", .fieldLink RX1 28 "FeatherHall$Basket" "loss" "I", .methodLink RX1 35 Lib.Math.min.name, .static Lib.Math.min.name, .initialized "java/lang/Math", .code Lib.Math.min.name Lib.Math.min.code 2 (some .int), .fieldLink RX1 9 "FeatherHall$Basket" "wears" "[I", .fieldLink RX1 15 "FeatherHall$Basket" "planned" "[I", .fieldLink RX1 21 "FeatherHall$Basket" "length" "I"] ++ wsX10)
def wsX1_wholeCost : List Cond := .code yX1_wholeCost cX1_wholeCost 2 (some .int) :: ([.fieldLink RX1 18 "FeatherHall$Basket" "sums" "[I", .methodLink RX1 31 yX1_addUp, .instanceMethod yX1_addUp, .selects RX1 yX1_addUp yX1_addUp, .initialized RX1, .code yX1_addUp cX1_addUp 5 none, .fieldLink RX1 25 "FeatherHall$Basket" "price" "I", .fieldLink RX1 28 "FeatherHall$Basket" "loss" "I", .methodLink RX1 35 Lib.Math.min.name, .static Lib.Math.min.name, .initialized "java/lang/Math", .code Lib.Math.min.name Lib.Math.min.code 2 (some .int), .fieldLink RX1 9 "FeatherHall$Basket" "wears" "[I", .fieldLink RX1 15 "FeatherHall$Basket" "planned" "[I", .fieldLink RX1 21 "FeatherHall$Basket" "length" "I"] ++ wsX10)
def wsX1_bestChange : List Cond := .code yX1_bestChange cX1_bestChange 3 (some .int) :: ([.fieldLink RX1 18 "FeatherHall$Basket" "sums" "[I", .methodLink RX1 31 yX1_addUp, .instanceMethod yX1_addUp, .selects RX1 yX1_addUp yX1_addUp, .initialized RX1, .code yX1_addUp cX1_addUp 5 none, .fieldLink RX1 25 "FeatherHall$Basket" "price" "I", .fieldLink RX1 28 "FeatherHall$Basket" "loss" "I", .methodLink RX1 35 Lib.Math.min.name, .static Lib.Math.min.name, .initialized "java/lang/Math", .code Lib.Math.min.name Lib.Math.min.code 2 (some .int), .fieldLink RX1 9 "FeatherHall$Basket" "wears" "[I", .fieldLink RX1 15 "FeatherHall$Basket" "planned" "[I", .fieldLink RX1 21 "FeatherHall$Basket" "length" "I"] ++ wsX10)
def wsX2_far : List Cond := .code yX2_far cX2_far 2 (some .int) :: ([.methodLink RX2 13 Lib.Math.abs.name, .static Lib.Math.abs.name, .initialized "java/lang/Math", .code Lib.Math.abs.name Lib.Math.abs.code 1 (some .int), .methodLink RX2 21 Lib.Math.max.name, .static Lib.Math.max.name, .code Lib.Math.max.name Lib.Math.max.code 2 (some .int), .methodLink RX2 7 yX2_rowOf, .static yX2_rowOf, .initialized RX2, .code yX2_rowOf cX2_rowOf 1 (some .int), .methodLink RX2 18 yX2_colOf, .static yX2_colOf, .code yX2_colOf cX2_colOf 1 (some .int)])
def wsX2_near : List Cond := .code yX2_near cX2_near 8 (some .int) :: ([.constant RX2 25 (65535), .methodLink RX2 21 Lib.Math.max.name, .static Lib.Math.max.name, .initialized "java/lang/Math", .code Lib.Math.max.name Lib.Math.max.code 2 (some .int), .methodLink RX2 26 Lib.Math.min.name, .static Lib.Math.min.name, .code Lib.Math.min.name Lib.Math.min.code 2 (some .int), .methodLink RX2 7 yX2_rowOf, .static yX2_rowOf, .initialized RX2, .code yX2_rowOf cX2_rowOf 1 (some .int), .methodLink RX2 18 yX2_colOf, .static yX2_colOf, .code yX2_colOf cX2_colOf 1 (some .int)])
def wsX2_holds : List Cond := .code yX2_holds cX2_holds 2 (some .boolean) :: ([])
def wsX3_init : List Cond := .code yX3_init cX3_init 3 none :: ([.methodLink RX3 3 objectInit, .instanceMethod objectInit, .code objectInit ⟨#[0xb1]⟩ 1 none, .arrayClass .int, .fieldLink RX3 9 "FeatherHall$Duel" "won" "[I", .fieldLink RX3 15 "FeatherHall$Duel" "held" "[I", .fieldLink RX3 18 "FeatherHall$Duel" "air" "LFeatherHall$Air;", .fieldLink RX3 22 "FeatherHall$Duel" "squad" "LFeatherHall$Squad;"] ++ wsX30)
def wsX6_reachOf : List Cond := .code yX6_reachOf cX6_reachOf 2 (some .int) :: ([.fieldLink RX6 15 "FeatherHall$Squad" "reaches" "[I"] ++ wsX60)
def wsX6_comes : List Cond := .code yX6_comes cX6_comes 3 (some .int) :: ([.fieldLink RX6 21 "FeatherHall$Squad" "strides" "[I"] ++ wsX60)
def wsX3_slackFor_r1 : List Cond := [Cond.fieldLink RX3 22 "FeatherHall$Duel" "squad" "LFeatherHall$Squad;", Cond.methodLink RX3 55 Lib.Math.max.name, Cond.static Lib.Math.max.name, Cond.initialized "java/lang/Math", Cond.code Lib.Math.max.name Lib.Math.max.code 2 (some .int), Cond.methodLink RX3 26 yX0_isNet, Cond.static yX0_isNet, Cond.initialized RX0, Cond.code yX0_isNet cX0_isNet 2 (some .boolean), Cond.methodLink RX0 37 yX0_firstMetOf, Cond.static yX0_firstMetOf, Cond.code yX0_firstMetOf cX0_firstMetOf 2 (some .int), Cond.constantLong RX0 35 (63), Cond.methodLink RX3 32 yX6_reachOf, Cond.instanceMethod yX6_reachOf, Cond.selects RX6 yX6_reachOf yX6_reachOf, Cond.initialized RX6, Cond.code yX6_reachOf cX6_reachOf 2 (some .int), Cond.fieldLink RX6 15 "FeatherHall$Squad" "reaches" "[I", Cond.methodLink RX3 38 yX0_firstMetOf, Cond.methodLink RX3 42 yX0_landingOf, Cond.static yX0_landingOf, Cond.code yX0_landingOf cX0_landingOf 2 (some .int), Cond.methodLink RX3 45 yX0_cellAt]
def wsX3_slackFor_r2 : List Cond := [Cond.static yX0_cellAt, Cond.code yX0_cellAt cX0_cellAt 3 (some .int), Cond.constantLong RX0 44 (15), Cond.methodLink RX0 41 yX0_landingOf, Cond.methodLink RX3 49 yX2_far, Cond.static yX2_far, Cond.initialized RX2, Cond.code yX2_far cX2_far 2 (some .int), Cond.methodLink RX2 13 Lib.Math.abs.name, Cond.static Lib.Math.abs.name, Cond.code Lib.Math.abs.name Lib.Math.abs.code 1 (some .int), Cond.methodLink RX2 21 Lib.Math.max.name, Cond.methodLink RX2 7 yX2_rowOf, Cond.static yX2_rowOf, Cond.code yX2_rowOf cX2_rowOf 1 (some .int), Cond.methodLink RX2 18 yX2_colOf, Cond.static yX2_colOf, Cond.code yX2_colOf cX2_colOf 1 (some .int), Cond.methodLink RX3 60 yX6_comes, Cond.instanceMethod yX6_comes, Cond.selects RX6 yX6_comes yX6_comes, Cond.code yX6_comes cX6_comes 3 (some .int), Cond.fieldLink RX6 21 "FeatherHall$Squad" "strides" "[I"]
def wsX3_slackFor : List Cond := .code yX3_slackFor cX3_slackFor 9 (some .int) :: ((wsX3_slackFor_r1 ++ wsX3_slackFor_r2) ++ wsX30 ++ wsX60)
def wsX3_bestStrike_r1 : List Cond := [Cond.fieldLink RX3 18 "FeatherHall$Duel" "air" "LFeatherHall$Air;", Cond.methodLink RX3 63 yX0_knownPath, Cond.instanceMethod yX0_knownPath, Cond.selects RX0 yX0_knownPath yX0_knownPath, Cond.initialized RX0, Cond.code yX0_knownPath cX0_knownPath 3 (some .long), Cond.fieldLink RX0 21 "FeatherHall$Air" "paths" "[J", Cond.methodLink RX3 26 yX0_isNet, Cond.static yX0_isNet, Cond.code yX0_isNet cX0_isNet 2 (some .boolean), Cond.methodLink RX0 37 yX0_firstMetOf, Cond.static yX0_firstMetOf, Cond.code yX0_firstMetOf cX0_firstMetOf 2 (some .int), Cond.constantLong RX0 35 (63), Cond.methodLink RX3 67 yX3_slackFor, Cond.instanceMethod yX3_slackFor, Cond.selects RX3 yX3_slackFor yX3_slackFor, Cond.initialized RX3, Cond.code yX3_slackFor cX3_slackFor 9 (some .int), Cond.fieldLink RX3 22 "FeatherHall$Duel" "squad" "LFeatherHall$Squad;", Cond.methodLink RX3 55 Lib.Math.max.name, Cond.static Lib.Math.max.name, Cond.initialized "java/lang/Math", Cond.code Lib.Math.max.name Lib.Math.max.code 2 (some .int)]
def wsX3_bestStrike_r2 : List Cond := [Cond.methodLink RX3 32 yX6_reachOf, Cond.instanceMethod yX6_reachOf, Cond.selects RX6 yX6_reachOf yX6_reachOf, Cond.initialized RX6, Cond.code yX6_reachOf cX6_reachOf 2 (some .int), Cond.fieldLink RX6 15 "FeatherHall$Squad" "reaches" "[I", Cond.methodLink RX3 38 yX0_firstMetOf, Cond.methodLink RX3 42 yX0_landingOf, Cond.static yX0_landingOf, Cond.code yX0_landingOf cX0_landingOf 2 (some .int), Cond.methodLink RX3 45 yX0_cellAt, Cond.static yX0_cellAt, Cond.code yX0_cellAt cX0_cellAt 3 (some .int), Cond.constantLong RX0 44 (15), Cond.methodLink RX0 41 yX0_landingOf, Cond.methodLink RX3 49 yX2_far, Cond.static yX2_far, Cond.initialized RX2, Cond.code yX2_far cX2_far 2 (some .int), Cond.methodLink RX2 13 Lib.Math.abs.name, Cond.static Lib.Math.abs.name, Cond.code Lib.Math.abs.name Lib.Math.abs.code 1 (some .int), Cond.methodLink RX2 21 Lib.Math.max.name, Cond.methodLink RX2 7 yX2_rowOf]
def wsX3_bestStrike_r3 : List Cond := [Cond.static yX2_rowOf, Cond.code yX2_rowOf cX2_rowOf 1 (some .int), Cond.methodLink RX2 18 yX2_colOf, Cond.static yX2_colOf, Cond.code yX2_colOf cX2_colOf 1 (some .int), Cond.methodLink RX3 60 yX6_comes, Cond.instanceMethod yX6_comes, Cond.selects RX6 yX6_comes yX6_comes, Cond.code yX6_comes cX6_comes 3 (some .int), Cond.fieldLink RX6 21 "FeatherHall$Squad" "strides" "[I"]
def wsX3_bestStrike : List Cond := .code yX3_bestStrike cX3_bestStrike 10 (some .int) :: ((wsX3_bestStrike_r1 ++ (wsX3_bestStrike_r2 ++ wsX3_bestStrike_r3)) ++ wsX30 ++ wsX00 ++ wsX60)
def wsX3_leastSlack_r1 : List Cond := [Cond.fieldLink RX3 18 "FeatherHall$Duel" "air" "LFeatherHall$Air;", Cond.methodLink RX3 71 yX3_bestStrike, Cond.instanceMethod yX3_bestStrike, Cond.selects RX3 yX3_bestStrike yX3_bestStrike, Cond.initialized RX3, Cond.code yX3_bestStrike cX3_bestStrike 10 (some .int), Cond.methodLink RX3 63 yX0_knownPath, Cond.instanceMethod yX0_knownPath, Cond.selects RX0 yX0_knownPath yX0_knownPath, Cond.initialized RX0, Cond.code yX0_knownPath cX0_knownPath 3 (some .long), Cond.fieldLink RX0 21 "FeatherHall$Air" "paths" "[J", Cond.methodLink RX3 26 yX0_isNet, Cond.static yX0_isNet, Cond.code yX0_isNet cX0_isNet 2 (some .boolean), Cond.methodLink RX0 37 yX0_firstMetOf, Cond.static yX0_firstMetOf, Cond.code yX0_firstMetOf cX0_firstMetOf 2 (some .int), Cond.constantLong RX0 35 (63), Cond.methodLink RX3 67 yX3_slackFor, Cond.instanceMethod yX3_slackFor, Cond.selects RX3 yX3_slackFor yX3_slackFor, Cond.code yX3_slackFor cX3_slackFor 9 (some .int), Cond.fieldLink RX3 22 "FeatherHall$Duel" "squad" "LFeatherHall$Squad;"]
def wsX3_leastSlack_r2 : List Cond := [Cond.methodLink RX3 55 Lib.Math.max.name, Cond.static Lib.Math.max.name, Cond.initialized "java/lang/Math", Cond.code Lib.Math.max.name Lib.Math.max.code 2 (some .int), Cond.methodLink RX3 32 yX6_reachOf, Cond.instanceMethod yX6_reachOf, Cond.selects RX6 yX6_reachOf yX6_reachOf, Cond.initialized RX6, Cond.code yX6_reachOf cX6_reachOf 2 (some .int), Cond.fieldLink RX6 15 "FeatherHall$Squad" "reaches" "[I", Cond.methodLink RX3 38 yX0_firstMetOf, Cond.methodLink RX3 42 yX0_landingOf, Cond.static yX0_landingOf, Cond.code yX0_landingOf cX0_landingOf 2 (some .int), Cond.methodLink RX3 45 yX0_cellAt, Cond.static yX0_cellAt, Cond.code yX0_cellAt cX0_cellAt 3 (some .int), Cond.constantLong RX0 44 (15), Cond.methodLink RX0 41 yX0_landingOf, Cond.methodLink RX3 49 yX2_far, Cond.static yX2_far, Cond.initialized RX2, Cond.code yX2_far cX2_far 2 (some .int), Cond.methodLink RX2 13 Lib.Math.abs.name]
def wsX3_leastSlack_r3 : List Cond := [Cond.static Lib.Math.abs.name, Cond.code Lib.Math.abs.name Lib.Math.abs.code 1 (some .int), Cond.methodLink RX2 21 Lib.Math.max.name, Cond.methodLink RX2 7 yX2_rowOf, Cond.static yX2_rowOf, Cond.code yX2_rowOf cX2_rowOf 1 (some .int), Cond.methodLink RX2 18 yX2_colOf, Cond.static yX2_colOf, Cond.code yX2_colOf cX2_colOf 1 (some .int), Cond.methodLink RX3 60 yX6_comes, Cond.instanceMethod yX6_comes, Cond.selects RX6 yX6_comes yX6_comes, Cond.code yX6_comes cX6_comes 3 (some .int), Cond.fieldLink RX6 21 "FeatherHall$Squad" "strides" "[I"]
def wsX3_leastSlack : List Cond := .code yX3_leastSlack cX3_leastSlack 5 (some .int) :: ((wsX3_leastSlack_r1 ++ (wsX3_leastSlack_r2 ++ wsX3_leastSlack_r3)) ++ wsX30 ++ wsX00 ++ wsX60)
def wsX3_bestStand_r1 : List Cond := [Cond.methodLink RX3 75 yX3_leastSlack, Cond.instanceMethod yX3_leastSlack, Cond.selects RX3 yX3_leastSlack yX3_leastSlack, Cond.initialized RX3, Cond.code yX3_leastSlack cX3_leastSlack 5 (some .int), Cond.fieldLink RX3 18 "FeatherHall$Duel" "air" "LFeatherHall$Air;", Cond.methodLink RX3 71 yX3_bestStrike, Cond.instanceMethod yX3_bestStrike, Cond.selects RX3 yX3_bestStrike yX3_bestStrike, Cond.code yX3_bestStrike cX3_bestStrike 10 (some .int), Cond.methodLink RX3 63 yX0_knownPath, Cond.instanceMethod yX0_knownPath, Cond.selects RX0 yX0_knownPath yX0_knownPath, Cond.initialized RX0, Cond.code yX0_knownPath cX0_knownPath 3 (some .long), Cond.fieldLink RX0 21 "FeatherHall$Air" "paths" "[J", Cond.methodLink RX3 26 yX0_isNet, Cond.static yX0_isNet, Cond.code yX0_isNet cX0_isNet 2 (some .boolean), Cond.methodLink RX0 37 yX0_firstMetOf, Cond.static yX0_firstMetOf, Cond.code yX0_firstMetOf cX0_firstMetOf 2 (some .int), Cond.constantLong RX0 35 (63), Cond.methodLink RX3 67 yX3_slackFor]
def wsX3_bestStand_r2 : List Cond := [Cond.instanceMethod yX3_slackFor, Cond.selects RX3 yX3_slackFor yX3_slackFor, Cond.code yX3_slackFor cX3_slackFor 9 (some .int), Cond.fieldLink RX3 22 "FeatherHall$Duel" "squad" "LFeatherHall$Squad;", Cond.methodLink RX3 55 Lib.Math.max.name, Cond.static Lib.Math.max.name, Cond.initialized "java/lang/Math", Cond.code Lib.Math.max.name Lib.Math.max.code 2 (some .int), Cond.methodLink RX3 32 yX6_reachOf, Cond.instanceMethod yX6_reachOf, Cond.selects RX6 yX6_reachOf yX6_reachOf, Cond.initialized RX6, Cond.code yX6_reachOf cX6_reachOf 2 (some .int), Cond.fieldLink RX6 15 "FeatherHall$Squad" "reaches" "[I", Cond.methodLink RX3 38 yX0_firstMetOf, Cond.methodLink RX3 42 yX0_landingOf, Cond.static yX0_landingOf, Cond.code yX0_landingOf cX0_landingOf 2 (some .int), Cond.methodLink RX3 45 yX0_cellAt, Cond.static yX0_cellAt, Cond.code yX0_cellAt cX0_cellAt 3 (some .int), Cond.constantLong RX0 44 (15), Cond.methodLink RX0 41 yX0_landingOf, Cond.methodLink RX3 49 yX2_far]
def wsX3_bestStand_r3 : List Cond := [Cond.static yX2_far, Cond.initialized RX2, Cond.code yX2_far cX2_far 2 (some .int), Cond.methodLink RX2 13 Lib.Math.abs.name, Cond.static Lib.Math.abs.name, Cond.code Lib.Math.abs.name Lib.Math.abs.code 1 (some .int), Cond.methodLink RX2 21 Lib.Math.max.name, Cond.methodLink RX2 7 yX2_rowOf, Cond.static yX2_rowOf, Cond.code yX2_rowOf cX2_rowOf 1 (some .int), Cond.methodLink RX2 18 yX2_colOf, Cond.static yX2_colOf, Cond.code yX2_colOf cX2_colOf 1 (some .int), Cond.methodLink RX3 60 yX6_comes, Cond.instanceMethod yX6_comes, Cond.selects RX6 yX6_comes yX6_comes, Cond.code yX6_comes cX6_comes 3 (some .int), Cond.fieldLink RX6 21 "FeatherHall$Squad" "strides" "[I"]
def wsX3_bestStand : List Cond := .code yX3_bestStand cX3_bestStand 7 (some .int) :: ((wsX3_bestStand_r1 ++ (wsX3_bestStand_r2 ++ wsX3_bestStand_r3)) ++ wsX30 ++ wsX00 ++ wsX60)
def wsX6_meetingCells_r1 : List Cond := [Cond.fieldLink RX6 15 "FeatherHall$Squad" "reaches" "[I", Cond.methodLink RX6 43 yX6_comes, Cond.instanceMethod yX6_comes, Cond.selects RX6 yX6_comes yX6_comes, Cond.initialized RX6, Cond.code yX6_comes cX6_comes 3 (some .int), Cond.fieldLink RX6 21 "FeatherHall$Squad" "strides" "[I", Cond.methodLink RX6 46 yX2_near, Cond.static yX2_near, Cond.initialized RX2, Cond.code yX2_near cX2_near 8 (some .int), Cond.constant RX2 25 (65535), Cond.methodLink RX2 21 Lib.Math.max.name, Cond.static Lib.Math.max.name, Cond.initialized "java/lang/Math", Cond.code Lib.Math.max.name Lib.Math.max.code 2 (some .int), Cond.methodLink RX2 26 Lib.Math.min.name, Cond.static Lib.Math.min.name, Cond.code Lib.Math.min.name Lib.Math.min.code 2 (some .int), Cond.methodLink RX2 7 yX2_rowOf, Cond.static yX2_rowOf, Cond.code yX2_rowOf cX2_rowOf 1 (some .int), Cond.methodLink RX2 18 yX2_colOf, Cond.static yX2_colOf]
def wsX6_meetingCells_r2 : List Cond := [Cond.code yX2_colOf cX2_colOf 1 (some .int)]
def wsX6_meetingCells : List Cond := .code yX6_meetingCells cX6_meetingCells 4 (some .int) :: ((wsX6_meetingCells_r1 ++ wsX6_meetingCells_r2) ++ wsX60)
def wsX3_missedFrom_r1 : List Cond := [Cond.fieldLink RX3 18 "FeatherHall$Duel" "air" "LFeatherHall$Air;", Cond.fieldLink RX3 22 "FeatherHall$Duel" "squad" "LFeatherHall$Squad;", Cond.constant RX3 101 (65535), Cond.methodLink RX3 63 yX0_knownPath, Cond.instanceMethod yX0_knownPath, Cond.selects RX0 yX0_knownPath yX0_knownPath, Cond.initialized RX0, Cond.code yX0_knownPath cX0_knownPath 3 (some .long), Cond.fieldLink RX0 21 "FeatherHall$Air" "paths" "[J", Cond.methodLink RX3 26 yX0_isNet, Cond.static yX0_isNet, Cond.code yX0_isNet cX0_isNet 2 (some .boolean), Cond.methodLink RX0 37 yX0_firstMetOf, Cond.static yX0_firstMetOf, Cond.code yX0_firstMetOf cX0_firstMetOf 2 (some .int), Cond.constantLong RX0 35 (63), Cond.methodLink RX3 38 yX0_firstMetOf, Cond.methodLink RX3 42 yX0_landingOf, Cond.static yX0_landingOf, Cond.code yX0_landingOf cX0_landingOf 2 (some .int), Cond.methodLink RX3 45 yX0_cellAt, Cond.static yX0_cellAt, Cond.code yX0_cellAt cX0_cellAt 3 (some .int), Cond.constantLong RX0 44 (15)]
def wsX3_missedFrom_r2 : List Cond := [Cond.methodLink RX0 41 yX0_landingOf, Cond.methodLink RX3 98 yX6_meetingCells, Cond.instanceMethod yX6_meetingCells, Cond.selects RX6 yX6_meetingCells yX6_meetingCells, Cond.initialized RX6, Cond.code yX6_meetingCells cX6_meetingCells 4 (some .int), Cond.fieldLink RX6 15 "FeatherHall$Squad" "reaches" "[I", Cond.methodLink RX6 43 yX6_comes, Cond.instanceMethod yX6_comes, Cond.selects RX6 yX6_comes yX6_comes, Cond.code yX6_comes cX6_comes 3 (some .int), Cond.fieldLink RX6 21 "FeatherHall$Squad" "strides" "[I", Cond.methodLink RX6 46 yX2_near, Cond.static yX2_near, Cond.initialized RX2, Cond.code yX2_near cX2_near 8 (some .int), Cond.constant RX2 25 (65535), Cond.methodLink RX2 21 Lib.Math.max.name, Cond.static Lib.Math.max.name, Cond.initialized "java/lang/Math", Cond.code Lib.Math.max.name Lib.Math.max.code 2 (some .int), Cond.methodLink RX2 26 Lib.Math.min.name, Cond.static Lib.Math.min.name, Cond.code Lib.Math.min.name Lib.Math.min.code 2 (some .int)]
def wsX3_missedFrom_r3 : List Cond := [Cond.methodLink RX2 7 yX2_rowOf, Cond.static yX2_rowOf, Cond.code yX2_rowOf cX2_rowOf 1 (some .int), Cond.methodLink RX2 18 yX2_colOf, Cond.static yX2_colOf, Cond.code yX2_colOf cX2_colOf 1 (some .int)]
def wsX3_missedFrom : List Cond := .code yX3_missedFrom cX3_missedFrom 9 (some .int) :: ((wsX3_missedFrom_r1 ++ (wsX3_missedFrom_r2 ++ wsX3_missedFrom_r3)) ++ wsX30 ++ wsX00 ++ wsX60)
def wsX3_heldAgainst_r1 : List Cond := [Cond.constant RX3 101 (65535), Cond.fieldLink RX3 18 "FeatherHall$Duel" "air" "LFeatherHall$Air;", Cond.fieldLink RX3 22 "FeatherHall$Duel" "squad" "LFeatherHall$Squad;", Cond.fieldLink RX3 9 "FeatherHall$Duel" "won" "[I", Cond.methodLink RX3 63 yX0_knownPath, Cond.instanceMethod yX0_knownPath, Cond.selects RX0 yX0_knownPath yX0_knownPath, Cond.initialized RX0, Cond.code yX0_knownPath cX0_knownPath 3 (some .long), Cond.fieldLink RX0 21 "FeatherHall$Air" "paths" "[J", Cond.methodLink RX3 26 yX0_isNet, Cond.static yX0_isNet, Cond.code yX0_isNet cX0_isNet 2 (some .boolean), Cond.methodLink RX0 37 yX0_firstMetOf, Cond.static yX0_firstMetOf, Cond.code yX0_firstMetOf cX0_firstMetOf 2 (some .int), Cond.constantLong RX0 35 (63), Cond.methodLink RX3 38 yX0_firstMetOf, Cond.methodLink RX3 42 yX0_landingOf, Cond.static yX0_landingOf, Cond.code yX0_landingOf cX0_landingOf 2 (some .int), Cond.methodLink RX3 45 yX0_cellAt, Cond.static yX0_cellAt, Cond.code yX0_cellAt cX0_cellAt 3 (some .int)]
def wsX3_heldAgainst_r2 : List Cond := [Cond.constantLong RX0 44 (15), Cond.methodLink RX0 41 yX0_landingOf, Cond.methodLink RX3 98 yX6_meetingCells, Cond.instanceMethod yX6_meetingCells, Cond.selects RX6 yX6_meetingCells yX6_meetingCells, Cond.initialized RX6, Cond.code yX6_meetingCells cX6_meetingCells 4 (some .int), Cond.fieldLink RX6 15 "FeatherHall$Squad" "reaches" "[I", Cond.methodLink RX6 43 yX6_comes, Cond.instanceMethod yX6_comes, Cond.selects RX6 yX6_comes yX6_comes, Cond.code yX6_comes cX6_comes 3 (some .int), Cond.fieldLink RX6 21 "FeatherHall$Squad" "strides" "[I", Cond.methodLink RX6 46 yX2_near, Cond.static yX2_near, Cond.initialized RX2, Cond.code yX2_near cX2_near 8 (some .int), Cond.constant RX2 25 (65535), Cond.methodLink RX2 21 Lib.Math.max.name, Cond.static Lib.Math.max.name, Cond.initialized "java/lang/Math", Cond.code Lib.Math.max.name Lib.Math.max.code 2 (some .int), Cond.methodLink RX2 26 Lib.Math.min.name, Cond.static Lib.Math.min.name]
def wsX3_heldAgainst_r3 : List Cond := [Cond.code Lib.Math.min.name Lib.Math.min.code 2 (some .int), Cond.methodLink RX2 7 yX2_rowOf, Cond.static yX2_rowOf, Cond.code yX2_rowOf cX2_rowOf 1 (some .int), Cond.methodLink RX2 18 yX2_colOf, Cond.static yX2_colOf, Cond.code yX2_colOf cX2_colOf 1 (some .int), Cond.methodLink RX3 60 yX6_comes, Cond.methodLink RX3 102 yX2_near]
def wsX3_heldAgainst : List Cond := .code yX3_heldAgainst cX3_heldAgainst 13 (some .int) :: ((wsX3_heldAgainst_r1 ++ (wsX3_heldAgainst_r2 ++ wsX3_heldAgainst_r3)) ++ wsX30 ++ wsX00 ++ wsX60)
def wsX3_forcedFrom_r1 : List Cond := [Cond.fieldLink RX3 18 "FeatherHall$Duel" "air" "LFeatherHall$Air;", Cond.fieldLink RX3 22 "FeatherHall$Duel" "squad" "LFeatherHall$Squad;", Cond.fieldLink RX3 15 "FeatherHall$Duel" "held" "[I", Cond.methodLink RX3 63 yX0_knownPath, Cond.instanceMethod yX0_knownPath, Cond.selects RX0 yX0_knownPath yX0_knownPath, Cond.initialized RX0, Cond.code yX0_knownPath cX0_knownPath 3 (some .long), Cond.fieldLink RX0 21 "FeatherHall$Air" "paths" "[J", Cond.methodLink RX3 26 yX0_isNet, Cond.static yX0_isNet, Cond.code yX0_isNet cX0_isNet 2 (some .boolean), Cond.methodLink RX0 37 yX0_firstMetOf, Cond.static yX0_firstMetOf, Cond.code yX0_firstMetOf cX0_firstMetOf 2 (some .int), Cond.constantLong RX0 35 (63), Cond.methodLink RX3 38 yX0_firstMetOf, Cond.methodLink RX3 42 yX0_landingOf, Cond.static yX0_landingOf, Cond.code yX0_landingOf cX0_landingOf 2 (some .int), Cond.methodLink RX3 45 yX0_cellAt, Cond.static yX0_cellAt, Cond.code yX0_cellAt cX0_cellAt 3 (some .int), Cond.constantLong RX0 44 (15)]
def wsX3_forcedFrom_r2 : List Cond := [Cond.methodLink RX0 41 yX0_landingOf, Cond.methodLink RX3 98 yX6_meetingCells, Cond.instanceMethod yX6_meetingCells, Cond.selects RX6 yX6_meetingCells yX6_meetingCells, Cond.initialized RX6, Cond.code yX6_meetingCells cX6_meetingCells 4 (some .int), Cond.fieldLink RX6 15 "FeatherHall$Squad" "reaches" "[I", Cond.methodLink RX6 43 yX6_comes, Cond.instanceMethod yX6_comes, Cond.selects RX6 yX6_comes yX6_comes, Cond.code yX6_comes cX6_comes 3 (some .int), Cond.fieldLink RX6 21 "FeatherHall$Squad" "strides" "[I", Cond.methodLink RX6 46 yX2_near, Cond.static yX2_near, Cond.initialized RX2, Cond.code yX2_near cX2_near 8 (some .int), Cond.constant RX2 25 (65535), Cond.methodLink RX2 21 Lib.Math.max.name, Cond.static Lib.Math.max.name, Cond.initialized "java/lang/Math", Cond.code Lib.Math.max.name Lib.Math.max.code 2 (some .int), Cond.methodLink RX2 26 Lib.Math.min.name, Cond.static Lib.Math.min.name, Cond.code Lib.Math.min.name Lib.Math.min.code 2 (some .int)]
def wsX3_forcedFrom_r3 : List Cond := [Cond.methodLink RX2 7 yX2_rowOf, Cond.static yX2_rowOf, Cond.code yX2_rowOf cX2_rowOf 1 (some .int), Cond.methodLink RX2 18 yX2_colOf, Cond.static yX2_colOf, Cond.code yX2_colOf cX2_colOf 1 (some .int), Cond.methodLink RX3 60 yX6_comes, Cond.methodLink RX3 102 yX2_near]
def wsX3_forcedFrom : List Cond := .code yX3_forcedFrom cX3_forcedFrom 12 (some .int) :: ((wsX3_forcedFrom_r1 ++ (wsX3_forcedFrom_r2 ++ wsX3_forcedFrom_r3)) ++ wsX30 ++ wsX00 ++ wsX60)
def wsX3_widenWon_r1 : List Cond := [Cond.fieldLink RX3 15 "FeatherHall$Duel" "held" "[I", Cond.fieldLink RX3 9 "FeatherHall$Duel" "won" "[I", Cond.methodLink RX3 92 yX3_heldAgainst, Cond.instanceMethod yX3_heldAgainst, Cond.selects RX3 yX3_heldAgainst yX3_heldAgainst, Cond.initialized RX3, Cond.code yX3_heldAgainst cX3_heldAgainst 13 (some .int), Cond.constant RX3 101 (65535), Cond.fieldLink RX3 18 "FeatherHall$Duel" "air" "LFeatherHall$Air;", Cond.fieldLink RX3 22 "FeatherHall$Duel" "squad" "LFeatherHall$Squad;", Cond.methodLink RX3 63 yX0_knownPath, Cond.instanceMethod yX0_knownPath, Cond.selects RX0 yX0_knownPath yX0_knownPath, Cond.initialized RX0, Cond.code yX0_knownPath cX0_knownPath 3 (some .long), Cond.fieldLink RX0 21 "FeatherHall$Air" "paths" "[J", Cond.methodLink RX3 26 yX0_isNet, Cond.static yX0_isNet, Cond.code yX0_isNet cX0_isNet 2 (some .boolean), Cond.methodLink RX0 37 yX0_firstMetOf, Cond.static yX0_firstMetOf, Cond.code yX0_firstMetOf cX0_firstMetOf 2 (some .int), Cond.constantLong RX0 35 (63), Cond.methodLink RX3 38 yX0_firstMetOf]
def wsX3_widenWon_r2 : List Cond := [Cond.methodLink RX3 42 yX0_landingOf, Cond.static yX0_landingOf, Cond.code yX0_landingOf cX0_landingOf 2 (some .int), Cond.methodLink RX3 45 yX0_cellAt, Cond.static yX0_cellAt, Cond.code yX0_cellAt cX0_cellAt 3 (some .int), Cond.constantLong RX0 44 (15), Cond.methodLink RX0 41 yX0_landingOf, Cond.methodLink RX3 98 yX6_meetingCells, Cond.instanceMethod yX6_meetingCells, Cond.selects RX6 yX6_meetingCells yX6_meetingCells, Cond.initialized RX6, Cond.code yX6_meetingCells cX6_meetingCells 4 (some .int), Cond.fieldLink RX6 15 "FeatherHall$Squad" "reaches" "[I", Cond.methodLink RX6 43 yX6_comes, Cond.instanceMethod yX6_comes, Cond.selects RX6 yX6_comes yX6_comes, Cond.code yX6_comes cX6_comes 3 (some .int), Cond.fieldLink RX6 21 "FeatherHall$Squad" "strides" "[I", Cond.methodLink RX6 46 yX2_near, Cond.static yX2_near, Cond.initialized RX2, Cond.code yX2_near cX2_near 8 (some .int), Cond.constant RX2 25 (65535)]
def wsX3_widenWon_r3 : List Cond := [Cond.methodLink RX2 21 Lib.Math.max.name, Cond.static Lib.Math.max.name, Cond.initialized "java/lang/Math", Cond.code Lib.Math.max.name Lib.Math.max.code 2 (some .int), Cond.methodLink RX2 26 Lib.Math.min.name, Cond.static Lib.Math.min.name, Cond.code Lib.Math.min.name Lib.Math.min.code 2 (some .int), Cond.methodLink RX2 7 yX2_rowOf, Cond.static yX2_rowOf, Cond.code yX2_rowOf cX2_rowOf 1 (some .int), Cond.methodLink RX2 18 yX2_colOf, Cond.static yX2_colOf, Cond.code yX2_colOf cX2_colOf 1 (some .int), Cond.methodLink RX3 60 yX6_comes, Cond.methodLink RX3 102 yX2_near, Cond.methodLink RX3 95 yX3_forcedFrom, Cond.instanceMethod yX3_forcedFrom, Cond.selects RX3 yX3_forcedFrom yX3_forcedFrom, Cond.code yX3_forcedFrom cX3_forcedFrom 12 (some .int)]
def wsX3_widenWon : List Cond := .code yX3_widenWon cX3_widenWon 6 (some .boolean) :: ((wsX3_widenWon_r1 ++ (wsX3_widenWon_r2 ++ wsX3_widenWon_r3)) ++ wsX30 ++ wsX00 ++ wsX60)
def wsX3_canForce_r1 : List Cond := [Cond.fieldLink RX3 18 "FeatherHall$Duel" "air" "LFeatherHall$Air;", Cond.fieldLink RX3 9 "FeatherHall$Duel" "won" "[I", Cond.methodLink RX3 78 yX0_workOutFrom, Cond.instanceMethod yX0_workOutFrom, Cond.selects RX0 yX0_workOutFrom yX0_workOutFrom, Cond.initialized RX0, Cond.code yX0_workOutFrom cX0_workOutFrom 3 none, Cond.methodLink RX0 50 yX0_pathOf, Cond.instanceMethod yX0_pathOf, Cond.selects RX0 yX0_pathOf yX0_pathOf, Cond.code yX0_pathOf cX0_pathOf 5 (some .long), Cond.fieldLink RX0 21 "FeatherHall$Air" "paths" "[J", Cond.methodLink RX0 46 yX0_workOut, Cond.instanceMethod yX0_workOut, Cond.selects RX0 yX0_workOut yX0_workOut, Cond.code yX0_workOut cX0_workOut 15 (some .long), Cond.fieldLink RX0 9 "FeatherHall$Air" "speeds" "[I", Cond.methodLink RX0 61 Lib.Math.min.name, Cond.static Lib.Math.min.name, Cond.initialized "java/lang/Math", Cond.code Lib.Math.min.name Lib.Math.min.code 2 (some .int), Cond.fieldLink RX0 18 "FeatherHall$Air" "meets" "[I", Cond.constantLong RX0 73 (16777215), Cond.methodLink RX0 53 yX0_lengthOf]
def wsX3_canForce_r2 : List Cond := [Cond.static yX0_lengthOf, Cond.code yX0_lengthOf cX0_lengthOf 3 (some .int), Cond.methodLink RX0 86 Lib.Math.abs.name, Cond.static Lib.Math.abs.name, Cond.code Lib.Math.abs.name Lib.Math.abs.code 1 (some .int), Cond.methodLink RX0 78 yX2_rowOf, Cond.static yX2_rowOf, Cond.initialized RX2, Cond.code yX2_rowOf cX2_rowOf 1 (some .int), Cond.methodLink RX0 83 yX2_colOf, Cond.static yX2_colOf, Cond.code yX2_colOf cX2_colOf 1 (some .int), Cond.methodLink RX0 57 yX0_wholeOf, Cond.instanceMethod yX0_wholeOf, Cond.selects RX0 yX0_wholeOf yX0_wholeOf, Cond.code yX0_wholeOf cX0_wholeOf 2 (some .int), Cond.fieldLink RX0 25 "FeatherHall$Air" "brokenOnes" "I", Cond.methodLink RX0 66 yX0_slowed, Cond.instanceMethod yX0_slowed, Cond.selects RX0 yX0_slowed yX0_slowed, Cond.code yX0_slowed cX0_slowed 3 (some .int), Cond.fieldLink RX0 15 "FeatherHall$Air" "drags" "[I", Cond.methodLink RX0 75 Lib.Math.max.name, Cond.static Lib.Math.max.name]
def wsX3_canForce_r3 : List Cond := [Cond.code Lib.Math.max.name Lib.Math.max.code 2 (some .int), Cond.methodLink RX0 69 yX0_placeAt, Cond.static yX0_placeAt, Cond.code yX0_placeAt cX0_placeAt 7 (some .int), Cond.methodLink RX3 82 yX3_missedFrom, Cond.instanceMethod yX3_missedFrom, Cond.selects RX3 yX3_missedFrom yX3_missedFrom, Cond.initialized RX3, Cond.code yX3_missedFrom cX3_missedFrom 9 (some .int), Cond.fieldLink RX3 22 "FeatherHall$Duel" "squad" "LFeatherHall$Squad;", Cond.constant RX3 101 (65535), Cond.methodLink RX3 63 yX0_knownPath, Cond.instanceMethod yX0_knownPath, Cond.selects RX0 yX0_knownPath yX0_knownPath, Cond.code yX0_knownPath cX0_knownPath 3 (some .long), Cond.methodLink RX3 26 yX0_isNet, Cond.static yX0_isNet, Cond.code yX0_isNet cX0_isNet 2 (some .boolean), Cond.methodLink RX0 37 yX0_firstMetOf, Cond.static yX0_firstMetOf, Cond.code yX0_firstMetOf cX0_firstMetOf 2 (some .int), Cond.constantLong RX0 35 (63), Cond.methodLink RX3 38 yX0_firstMetOf, Cond.methodLink RX3 42 yX0_landingOf]
def wsX3_canForce_r4 : List Cond := [Cond.static yX0_landingOf, Cond.code yX0_landingOf cX0_landingOf 2 (some .int), Cond.methodLink RX3 45 yX0_cellAt, Cond.static yX0_cellAt, Cond.code yX0_cellAt cX0_cellAt 3 (some .int), Cond.constantLong RX0 44 (15), Cond.methodLink RX0 41 yX0_landingOf, Cond.methodLink RX3 98 yX6_meetingCells, Cond.instanceMethod yX6_meetingCells, Cond.selects RX6 yX6_meetingCells yX6_meetingCells, Cond.initialized RX6, Cond.code yX6_meetingCells cX6_meetingCells 4 (some .int), Cond.fieldLink RX6 15 "FeatherHall$Squad" "reaches" "[I", Cond.methodLink RX6 43 yX6_comes, Cond.instanceMethod yX6_comes, Cond.selects RX6 yX6_comes yX6_comes, Cond.code yX6_comes cX6_comes 3 (some .int), Cond.fieldLink RX6 21 "FeatherHall$Squad" "strides" "[I", Cond.methodLink RX6 46 yX2_near, Cond.static yX2_near, Cond.code yX2_near cX2_near 8 (some .int), Cond.constant RX2 25 (65535), Cond.methodLink RX2 21 Lib.Math.max.name, Cond.methodLink RX2 26 Lib.Math.min.name]
def wsX3_canForce_r5 : List Cond := [Cond.methodLink RX2 7 yX2_rowOf, Cond.methodLink RX2 18 yX2_colOf, Cond.methodLink RX3 85 yX2_holds, Cond.static yX2_holds, Cond.code yX2_holds cX2_holds 2 (some .boolean), Cond.methodLink RX3 89 yX3_widenWon, Cond.instanceMethod yX3_widenWon, Cond.selects RX3 yX3_widenWon yX3_widenWon, Cond.code yX3_widenWon cX3_widenWon 6 (some .boolean), Cond.fieldLink RX3 15 "FeatherHall$Duel" "held" "[I", Cond.methodLink RX3 92 yX3_heldAgainst, Cond.instanceMethod yX3_heldAgainst, Cond.selects RX3 yX3_heldAgainst yX3_heldAgainst, Cond.code yX3_heldAgainst cX3_heldAgainst 13 (some .int), Cond.methodLink RX3 60 yX6_comes, Cond.methodLink RX3 102 yX2_near, Cond.methodLink RX3 95 yX3_forcedFrom, Cond.instanceMethod yX3_forcedFrom, Cond.selects RX3 yX3_forcedFrom yX3_forcedFrom, Cond.code yX3_forcedFrom cX3_forcedFrom 12 (some .int)]
def wsX3_canForce : List Cond := .code yX3_canForce cX3_canForce 8 (some .boolean) :: ((wsX3_canForce_r1 ++ (wsX3_canForce_r2 ++ (wsX3_canForce_r3 ++ (wsX3_canForce_r4 ++ wsX3_canForce_r5)))) ++ wsX30 ++ wsX00 ++ wsX60)
def wsX4_init : List Cond := .code yX4_init cX4_init 1 none :: ([.methodLink RX4 3 objectInit, .instanceMethod objectInit, .code objectInit ⟨#[0xb1]⟩ 1 none, .arrayClass .boolean, .fieldLink RX4 9 "FeatherHall$Evening" "there" "[Z", .arrayClass .int, .fieldLink RX4 15 "FeatherHall$Evening" "grades" "[I", .fieldLink RX4 19 "FeatherHall$Evening" "waited" "[I", .fieldLink RX4 22 "FeatherHall$Evening" "games" "[I", .fieldLink RX4 25 "FeatherHall$Evening" "mates" "[I", .fieldLink RX4 28 "FeatherHall$Evening" "bestMates" "[I", .fieldLink RX4 31 "FeatherHall$Evening" "courtsNow" "I", .fieldLink RX4 35 "FeatherHall$Evening" "present" "I", .fieldLink RX4 38 "FeatherHall$Evening" "rounds" "I", .fieldLink RX4 41 "FeatherHall$Evening" "isSought" "Z", .fieldLink RX4 45 "FeatherHall$Evening" "isFound" "Z", .fieldLink RX4 48 "FeatherHall$Evening" "bestWaited" "I", .fieldLink RX4 51 "FeatherHall$Evening" "bestBefore" "I", .fieldLink RX4 54 "FeatherHall$Evening" "bestUneven" "I"] ++ wsX40)
def wsX4_setCourts : List Cond := .code yX4_setCourts cX4_setCourts 3 (some .int) :: ([.fieldLink RX4 31 "FeatherHall$Evening" "courtsNow" "I", .fieldLink RX4 41 "FeatherHall$Evening" "isSought" "Z"] ++ wsX40)
def wsX4_isThere : List Cond := .code yX4_isThere cX4_isThere 2 (some .boolean) :: ([.fieldLink RX4 9 "FeatherHall$Evening" "there" "[Z"] ++ wsX40)
def wsX4_enter : List Cond := .code yX4_enter cX4_enter 3 (some .int) :: ([.fieldLink RX4 9 "FeatherHall$Evening" "there" "[Z", .fieldLink RX4 15 "FeatherHall$Evening" "grades" "[I", .fieldLink RX4 19 "FeatherHall$Evening" "waited" "[I", .fieldLink RX4 35 "FeatherHall$Evening" "present" "I", .fieldLink RX4 41 "FeatherHall$Evening" "isSought" "Z"] ++ wsX40)
def wsX4_exit : List Cond := .code yX4_exit cX4_exit 2 (some .int) :: ([.fieldLink RX4 9 "FeatherHall$Evening" "there" "[Z", .fieldLink RX4 35 "FeatherHall$Evening" "present" "I", .fieldLink RX4 41 "FeatherHall$Evening" "isSought" "Z"] ++ wsX40)
def wsJ7_fill_53178 : List Cond := .code yJ7_fill_53178 cJ7_fill_53178 4 none :: ([])
def wsX4_gamesAtOnce : List Cond := .code yX4_gamesAtOnce cX4_gamesAtOnce 1 (some .int) :: ([.fieldLink RX4 31 "FeatherHall$Evening" "courtsNow" "I", .fieldLink RX4 35 "FeatherHall$Evening" "present" "I", .methodLink RX4 64 Lib.Math.min.name, .static Lib.Math.min.name, .initialized "java/lang/Math", .code Lib.Math.min.name Lib.Math.min.code 2 (some .int)] ++ wsX40)
def wsX4_isBetter : List Cond := .code yX4_isBetter cX4_isBetter 4 (some .boolean) :: ([.fieldLink RX4 48 "FeatherHall$Evening" "bestWaited" "I", .fieldLink RX4 51 "FeatherHall$Evening" "bestBefore" "I", .fieldLink RX4 54 "FeatherHall$Evening" "bestUneven" "I"] ++ wsX40)
def wsX4_keepIfBetter : List Cond := .code yX4_keepIfBetter cX4_keepIfBetter 4 none :: ([.fieldLink RX4 45 "FeatherHall$Evening" "isFound" "Z", .fieldLink RX4 48 "FeatherHall$Evening" "bestWaited" "I", .fieldLink RX4 51 "FeatherHall$Evening" "bestBefore" "I", .fieldLink RX4 54 "FeatherHall$Evening" "bestUneven" "I", .fieldLink RX4 25 "FeatherHall$Evening" "mates" "[I", .fieldLink RX4 28 "FeatherHall$Evening" "bestMates" "[I", .methodLink RX4 96 arraycopyName, .native arraycopyName, .static arraycopyName, .initialized "java/lang/System", .methodLink RX4 92 yX4_isBetter, .instanceMethod yX4_isBetter, .selects RX4 yX4_isBetter yX4_isBetter, .initialized RX4, .code yX4_isBetter cX4_isBetter 4 (some .boolean)] ++ wsX40)
def wsX4_isFree : List Cond := .code yX4_isFree cX4_isFree 2 (some .boolean) :: ([.fieldLink RX4 9 "FeatherHall$Evening" "there" "[Z", .fieldLink RX4 25 "FeatherHall$Evening" "mates" "[I"] ++ wsX40)
def wsX4_pairFrom_r1 : List Cond := [Cond.fieldLink RX4 25 "FeatherHall$Evening" "mates" "[I", Cond.fieldLink RX4 19 "FeatherHall$Evening" "waited" "[I", Cond.fieldLink RX4 22 "FeatherHall$Evening" "games" "[I", Cond.fieldLink RX4 15 "FeatherHall$Evening" "grades" "[I", Cond.methodLink RX4 88 Lib.Math.abs.name, Cond.static Lib.Math.abs.name, Cond.initialized "java/lang/Math", Cond.code Lib.Math.abs.name Lib.Math.abs.code 1 (some .int), Cond.methodLink RX4 80 yX4_keepIfBetter, Cond.instanceMethod yX4_keepIfBetter, Cond.selects RX4 yX4_keepIfBetter yX4_keepIfBetter, Cond.initialized RX4, Cond.code yX4_keepIfBetter cX4_keepIfBetter 4 none, Cond.fieldLink RX4 45 "FeatherHall$Evening" "isFound" "Z", Cond.fieldLink RX4 48 "FeatherHall$Evening" "bestWaited" "I", Cond.fieldLink RX4 51 "FeatherHall$Evening" "bestBefore" "I", Cond.fieldLink RX4 54 "FeatherHall$Evening" "bestUneven" "I", Cond.fieldLink RX4 28 "FeatherHall$Evening" "bestMates" "[I", Cond.methodLink RX4 96 arraycopyName, Cond.native arraycopyName, Cond.static arraycopyName, Cond.initialized "java/lang/System", Cond.methodLink RX4 92 yX4_isBetter, Cond.instanceMethod yX4_isBetter]
def wsX4_pairFrom_r2 : List Cond := [Cond.selects RX4 yX4_isBetter yX4_isBetter, Cond.code yX4_isBetter cX4_isBetter 4 (some .boolean), Cond.methodLink RX4 84 yX4_isFree, Cond.instanceMethod yX4_isFree, Cond.selects RX4 yX4_isFree yX4_isFree, Cond.code yX4_isFree cX4_isFree 2 (some .boolean), Cond.fieldLink RX4 9 "FeatherHall$Evening" "there" "[Z", Cond.methodLink RX4 76 yX4_pairFrom, Cond.instanceMethod yX4_pairFrom, Cond.selects RX4 yX4_pairFrom yX4_pairFrom]
def wsX4_pairFrom : List Cond := .code yX4_pairFrom cX4_pairFrom 7 none :: ((wsX4_pairFrom_r1 ++ wsX4_pairFrom_r2) ++ wsX40)
def wsX4_seek_r1 : List Cond := [Cond.fieldLink RX4 41 "FeatherHall$Evening" "isSought" "Z", Cond.fieldLink RX4 45 "FeatherHall$Evening" "isFound" "Z", Cond.fieldLink RX4 25 "FeatherHall$Evening" "mates" "[I", Cond.methodLink RX4 70 yJ7_fill_53178, Cond.static yJ7_fill_53178, Cond.initialized RJ7, Cond.code yJ7_fill_53178 cJ7_fill_53178 4 none, Cond.methodLink RX4 60 yX4_gamesAtOnce, Cond.instanceMethod yX4_gamesAtOnce, Cond.selects RX4 yX4_gamesAtOnce yX4_gamesAtOnce, Cond.initialized RX4, Cond.code yX4_gamesAtOnce cX4_gamesAtOnce 1 (some .int), Cond.fieldLink RX4 31 "FeatherHall$Evening" "courtsNow" "I", Cond.fieldLink RX4 35 "FeatherHall$Evening" "present" "I", Cond.methodLink RX4 64 Lib.Math.min.name, Cond.static Lib.Math.min.name, Cond.initialized "java/lang/Math", Cond.code Lib.Math.min.name Lib.Math.min.code 2 (some .int), Cond.methodLink RX4 76 yX4_pairFrom, Cond.instanceMethod yX4_pairFrom, Cond.selects RX4 yX4_pairFrom yX4_pairFrom, Cond.code yX4_pairFrom cX4_pairFrom 7 none, Cond.fieldLink RX4 19 "FeatherHall$Evening" "waited" "[I", Cond.fieldLink RX4 22 "FeatherHall$Evening" "games" "[I"]
def wsX4_seek_r2 : List Cond := [Cond.fieldLink RX4 15 "FeatherHall$Evening" "grades" "[I", Cond.methodLink RX4 88 Lib.Math.abs.name, Cond.static Lib.Math.abs.name, Cond.code Lib.Math.abs.name Lib.Math.abs.code 1 (some .int), Cond.methodLink RX4 80 yX4_keepIfBetter, Cond.instanceMethod yX4_keepIfBetter, Cond.selects RX4 yX4_keepIfBetter yX4_keepIfBetter, Cond.code yX4_keepIfBetter cX4_keepIfBetter 4 none, Cond.fieldLink RX4 48 "FeatherHall$Evening" "bestWaited" "I", Cond.fieldLink RX4 51 "FeatherHall$Evening" "bestBefore" "I", Cond.fieldLink RX4 54 "FeatherHall$Evening" "bestUneven" "I", Cond.fieldLink RX4 28 "FeatherHall$Evening" "bestMates" "[I", Cond.methodLink RX4 96 arraycopyName, Cond.native arraycopyName, Cond.static arraycopyName, Cond.initialized "java/lang/System", Cond.methodLink RX4 92 yX4_isBetter, Cond.instanceMethod yX4_isBetter, Cond.selects RX4 yX4_isBetter yX4_isBetter, Cond.code yX4_isBetter cX4_isBetter 4 (some .boolean), Cond.methodLink RX4 84 yX4_isFree, Cond.instanceMethod yX4_isFree, Cond.selects RX4 yX4_isFree yX4_isFree, Cond.code yX4_isFree cX4_isFree 2 (some .boolean)]
def wsX4_seek_r3 : List Cond := [Cond.fieldLink RX4 9 "FeatherHall$Evening" "there" "[Z"]
def wsX4_seek : List Cond := .code yX4_seek cX4_seek 1 none :: ((wsX4_seek_r1 ++ (wsX4_seek_r2 ++ wsX4_seek_r3)) ++ wsX40)
def wsX4_mateOf_r1 : List Cond := [Cond.fieldLink RX4 28 "FeatherHall$Evening" "bestMates" "[I", Cond.methodLink RX4 57 yX4_seek, Cond.instanceMethod yX4_seek, Cond.selects RX4 yX4_seek yX4_seek, Cond.initialized RX4, Cond.code yX4_seek cX4_seek 1 none, Cond.fieldLink RX4 41 "FeatherHall$Evening" "isSought" "Z", Cond.fieldLink RX4 45 "FeatherHall$Evening" "isFound" "Z", Cond.fieldLink RX4 25 "FeatherHall$Evening" "mates" "[I", Cond.methodLink RX4 70 yJ7_fill_53178, Cond.static yJ7_fill_53178, Cond.initialized RJ7, Cond.code yJ7_fill_53178 cJ7_fill_53178 4 none, Cond.methodLink RX4 60 yX4_gamesAtOnce, Cond.instanceMethod yX4_gamesAtOnce, Cond.selects RX4 yX4_gamesAtOnce yX4_gamesAtOnce, Cond.code yX4_gamesAtOnce cX4_gamesAtOnce 1 (some .int), Cond.fieldLink RX4 31 "FeatherHall$Evening" "courtsNow" "I", Cond.fieldLink RX4 35 "FeatherHall$Evening" "present" "I", Cond.methodLink RX4 64 Lib.Math.min.name, Cond.static Lib.Math.min.name, Cond.initialized "java/lang/Math", Cond.code Lib.Math.min.name Lib.Math.min.code 2 (some .int), Cond.methodLink RX4 76 yX4_pairFrom]
def wsX4_mateOf_r2 : List Cond := [Cond.instanceMethod yX4_pairFrom, Cond.selects RX4 yX4_pairFrom yX4_pairFrom, Cond.code yX4_pairFrom cX4_pairFrom 7 none, Cond.fieldLink RX4 19 "FeatherHall$Evening" "waited" "[I", Cond.fieldLink RX4 22 "FeatherHall$Evening" "games" "[I", Cond.fieldLink RX4 15 "FeatherHall$Evening" "grades" "[I", Cond.methodLink RX4 88 Lib.Math.abs.name, Cond.static Lib.Math.abs.name, Cond.code Lib.Math.abs.name Lib.Math.abs.code 1 (some .int), Cond.methodLink RX4 80 yX4_keepIfBetter, Cond.instanceMethod yX4_keepIfBetter, Cond.selects RX4 yX4_keepIfBetter yX4_keepIfBetter, Cond.code yX4_keepIfBetter cX4_keepIfBetter 4 none, Cond.fieldLink RX4 48 "FeatherHall$Evening" "bestWaited" "I", Cond.fieldLink RX4 51 "FeatherHall$Evening" "bestBefore" "I", Cond.fieldLink RX4 54 "FeatherHall$Evening" "bestUneven" "I", Cond.methodLink RX4 96 arraycopyName, Cond.native arraycopyName, Cond.static arraycopyName, Cond.initialized "java/lang/System", Cond.methodLink RX4 92 yX4_isBetter, Cond.instanceMethod yX4_isBetter, Cond.selects RX4 yX4_isBetter yX4_isBetter, Cond.code yX4_isBetter cX4_isBetter 4 (some .boolean)]
def wsX4_mateOf_r3 : List Cond := [Cond.methodLink RX4 84 yX4_isFree, Cond.instanceMethod yX4_isFree, Cond.selects RX4 yX4_isFree yX4_isFree, Cond.code yX4_isFree cX4_isFree 2 (some .boolean), Cond.fieldLink RX4 9 "FeatherHall$Evening" "there" "[Z"]
def wsX4_mateOf : List Cond := .code yX4_mateOf cX4_mateOf 2 (some .int) :: ((wsX4_mateOf_r1 ++ (wsX4_mateOf_r2 ++ wsX4_mateOf_r3)) ++ wsX40)
def wsX4_readRound_r1 : List Cond := [Cond.fieldLink RX4 48 "FeatherHall$Evening" "bestWaited" "I", Cond.fieldLink RX4 51 "FeatherHall$Evening" "bestBefore" "I", Cond.fieldLink RX4 54 "FeatherHall$Evening" "bestUneven" "I", Cond.methodLink RX4 57 yX4_seek, Cond.instanceMethod yX4_seek, Cond.selects RX4 yX4_seek yX4_seek, Cond.initialized RX4, Cond.code yX4_seek cX4_seek 1 none, Cond.fieldLink RX4 41 "FeatherHall$Evening" "isSought" "Z", Cond.fieldLink RX4 45 "FeatherHall$Evening" "isFound" "Z", Cond.fieldLink RX4 25 "FeatherHall$Evening" "mates" "[I", Cond.methodLink RX4 70 yJ7_fill_53178, Cond.static yJ7_fill_53178, Cond.initialized RJ7, Cond.code yJ7_fill_53178 cJ7_fill_53178 4 none, Cond.methodLink RX4 60 yX4_gamesAtOnce, Cond.instanceMethod yX4_gamesAtOnce, Cond.selects RX4 yX4_gamesAtOnce yX4_gamesAtOnce, Cond.code yX4_gamesAtOnce cX4_gamesAtOnce 1 (some .int), Cond.fieldLink RX4 31 "FeatherHall$Evening" "courtsNow" "I", Cond.fieldLink RX4 35 "FeatherHall$Evening" "present" "I", Cond.methodLink RX4 64 Lib.Math.min.name, Cond.static Lib.Math.min.name, Cond.initialized "java/lang/Math"]
def wsX4_readRound_r2 : List Cond := [Cond.code Lib.Math.min.name Lib.Math.min.code 2 (some .int), Cond.methodLink RX4 76 yX4_pairFrom, Cond.instanceMethod yX4_pairFrom, Cond.selects RX4 yX4_pairFrom yX4_pairFrom, Cond.code yX4_pairFrom cX4_pairFrom 7 none, Cond.fieldLink RX4 19 "FeatherHall$Evening" "waited" "[I", Cond.fieldLink RX4 22 "FeatherHall$Evening" "games" "[I", Cond.fieldLink RX4 15 "FeatherHall$Evening" "grades" "[I", Cond.methodLink RX4 88 Lib.Math.abs.name, Cond.static Lib.Math.abs.name, Cond.code Lib.Math.abs.name Lib.Math.abs.code 1 (some .int), Cond.methodLink RX4 80 yX4_keepIfBetter, Cond.instanceMethod yX4_keepIfBetter, Cond.selects RX4 yX4_keepIfBetter yX4_keepIfBetter, Cond.code yX4_keepIfBetter cX4_keepIfBetter 4 none, Cond.fieldLink RX4 28 "FeatherHall$Evening" "bestMates" "[I", Cond.methodLink RX4 96 arraycopyName, Cond.native arraycopyName, Cond.static arraycopyName, Cond.initialized "java/lang/System", Cond.methodLink RX4 92 yX4_isBetter, Cond.instanceMethod yX4_isBetter, Cond.selects RX4 yX4_isBetter yX4_isBetter, Cond.code yX4_isBetter cX4_isBetter 4 (some .boolean)]
def wsX4_readRound_r3 : List Cond := [Cond.methodLink RX4 84 yX4_isFree, Cond.instanceMethod yX4_isFree, Cond.selects RX4 yX4_isFree yX4_isFree, Cond.code yX4_isFree cX4_isFree 2 (some .boolean), Cond.fieldLink RX4 9 "FeatherHall$Evening" "there" "[Z"]
def wsX4_readRound : List Cond := .code yX4_readRound cX4_readRound 2 (some .int) :: ((wsX4_readRound_r1 ++ (wsX4_readRound_r2 ++ wsX4_readRound_r3)) ++ wsX40)
def wsX4_playRound_r1 : List Cond := [Cond.fieldLink RX4 28 "FeatherHall$Evening" "bestMates" "[I", Cond.fieldLink RX4 19 "FeatherHall$Evening" "waited" "[I", Cond.fieldLink RX4 22 "FeatherHall$Evening" "games" "[I", Cond.fieldLink RX4 9 "FeatherHall$Evening" "there" "[Z", Cond.fieldLink RX4 38 "FeatherHall$Evening" "rounds" "I", Cond.fieldLink RX4 41 "FeatherHall$Evening" "isSought" "Z", Cond.methodLink RX4 57 yX4_seek, Cond.instanceMethod yX4_seek, Cond.selects RX4 yX4_seek yX4_seek, Cond.initialized RX4, Cond.code yX4_seek cX4_seek 1 none, Cond.fieldLink RX4 45 "FeatherHall$Evening" "isFound" "Z", Cond.fieldLink RX4 25 "FeatherHall$Evening" "mates" "[I", Cond.methodLink RX4 70 yJ7_fill_53178, Cond.static yJ7_fill_53178, Cond.initialized RJ7, Cond.code yJ7_fill_53178 cJ7_fill_53178 4 none, Cond.methodLink RX4 60 yX4_gamesAtOnce, Cond.instanceMethod yX4_gamesAtOnce, Cond.selects RX4 yX4_gamesAtOnce yX4_gamesAtOnce, Cond.code yX4_gamesAtOnce cX4_gamesAtOnce 1 (some .int), Cond.fieldLink RX4 31 "FeatherHall$Evening" "courtsNow" "I", Cond.fieldLink RX4 35 "FeatherHall$Evening" "present" "I", Cond.methodLink RX4 64 Lib.Math.min.name]
def wsX4_playRound_r2 : List Cond := [Cond.static Lib.Math.min.name, Cond.initialized "java/lang/Math", Cond.code Lib.Math.min.name Lib.Math.min.code 2 (some .int), Cond.methodLink RX4 76 yX4_pairFrom, Cond.instanceMethod yX4_pairFrom, Cond.selects RX4 yX4_pairFrom yX4_pairFrom, Cond.code yX4_pairFrom cX4_pairFrom 7 none, Cond.fieldLink RX4 15 "FeatherHall$Evening" "grades" "[I", Cond.methodLink RX4 88 Lib.Math.abs.name, Cond.static Lib.Math.abs.name, Cond.code Lib.Math.abs.name Lib.Math.abs.code 1 (some .int), Cond.methodLink RX4 80 yX4_keepIfBetter, Cond.instanceMethod yX4_keepIfBetter, Cond.selects RX4 yX4_keepIfBetter yX4_keepIfBetter, Cond.code yX4_keepIfBetter cX4_keepIfBetter 4 none, Cond.fieldLink RX4 48 "FeatherHall$Evening" "bestWaited" "I", Cond.fieldLink RX4 51 "FeatherHall$Evening" "bestBefore" "I", Cond.fieldLink RX4 54 "FeatherHall$Evening" "bestUneven" "I", Cond.methodLink RX4 96 arraycopyName, Cond.native arraycopyName, Cond.static arraycopyName, Cond.initialized "java/lang/System", Cond.methodLink RX4 92 yX4_isBetter, Cond.instanceMethod yX4_isBetter]
def wsX4_playRound_r3 : List Cond := [Cond.selects RX4 yX4_isBetter yX4_isBetter, Cond.code yX4_isBetter cX4_isBetter 4 (some .boolean), Cond.methodLink RX4 84 yX4_isFree, Cond.instanceMethod yX4_isFree, Cond.selects RX4 yX4_isFree yX4_isFree, Cond.code yX4_isFree cX4_isFree 2 (some .boolean)]
def wsX4_playRound : List Cond := .code yX4_playRound cX4_playRound 3 (some .int) :: ((wsX4_playRound_r1 ++ (wsX4_playRound_r2 ++ wsX4_playRound_r3)) ++ wsX40)
def wsX4_gamesOfBoth : List Cond := .code yX4_gamesOfBoth cX4_gamesOfBoth 3 (some .int) :: ([.fieldLink RX4 22 "FeatherHall$Evening" "games" "[I"] ++ wsX40)
def wsX4_gamesOf : List Cond := .code yX4_gamesOf cX4_gamesOf 4 (some .int) :: ([.fieldLink RX4 22 "FeatherHall$Evening" "games" "[I"] ++ wsX40)
def wsX4_waitedOf : List Cond := .code yX4_waitedOf cX4_waitedOf 2 (some .int) :: ([.fieldLink RX4 9 "FeatherHall$Evening" "there" "[Z", .fieldLink RX4 19 "FeatherHall$Evening" "waited" "[I"] ++ wsX40)
def wsX4_gradeOf : List Cond := .code yX4_gradeOf cX4_gradeOf 2 (some .int) :: ([.fieldLink RX4 9 "FeatherHall$Evening" "there" "[Z", .fieldLink RX4 15 "FeatherHall$Evening" "grades" "[I"] ++ wsX40)
def wsX4_thereNow : List Cond := .code yX4_thereNow cX4_thereNow 1 (some .int) :: ([.fieldLink RX4 35 "FeatherHall$Evening" "present" "I"] ++ wsX40)
def wsX4_roundsPlayed : List Cond := .code yX4_roundsPlayed cX4_roundsPlayed 1 (some .int) :: ([.fieldLink RX4 38 "FeatherHall$Evening" "rounds" "I"] ++ wsX40)
def wsX5_init : List Cond := .code yX5_init cX5_init 1 none :: ([.methodLink RX5 3 objectInit, .instanceMethod objectInit, .code objectInit ⟨#[0xb1]⟩ 1 none, .arrayClass .int, .fieldLink RX5 9 "FeatherHall$Notebook" "both" "[I", .fieldLink RX5 15 "FeatherHall$Notebook" "withZone" "[I", .fieldLink RX5 18 "FeatherHall$Notebook" "withKind" "[I", .fieldLink RX5 21 "FeatherHall$Notebook" "withoutGap" "I", .fieldLink RX5 25 "FeatherHall$Notebook" "notes" "I"] ++ wsX50)
def wsX5_size : List Cond := .code yX5_size cX5_size 1 (some .int) :: ([.fieldLink RX5 25 "FeatherHall$Notebook" "notes" "I"] ++ wsX50)
def wsX5_add : List Cond := .code yX5_add cX5_add 5 (some .int) :: ([.fieldLink RX5 25 "FeatherHall$Notebook" "notes" "I", .fieldLink RX5 9 "FeatherHall$Notebook" "both" "[I", .fieldLink RX5 15 "FeatherHall$Notebook" "withZone" "[I", .fieldLink RX5 18 "FeatherHall$Notebook" "withKind" "[I", .fieldLink RX5 21 "FeatherHall$Notebook" "withoutGap" "I"] ++ wsX50)
def wsX5_read : List Cond := .code yX5_read cX5_read 4 (some .int) :: ([.fieldLink RX5 9 "FeatherHall$Notebook" "both" "[I", .fieldLink RX5 15 "FeatherHall$Notebook" "withZone" "[I", .fieldLink RX5 18 "FeatherHall$Notebook" "withKind" "[I", .fieldLink RX5 21 "FeatherHall$Notebook" "withoutGap" "I"] ++ wsX50)
def wsX5_aboveZero : List Cond := .code yX5_aboveZero cX5_aboveZero 6 (some .int) :: ([])
def wsX5_triedHabits : List Cond := .code yX5_triedHabits cX5_triedHabits 1 (some .int) :: ([.fieldLink RX5 15 "FeatherHall$Notebook" "withZone" "[I", .fieldLink RX5 18 "FeatherHall$Notebook" "withKind" "[I", .methodLink RX5 28 yX5_aboveZero, .static yX5_aboveZero, .initialized RX5, .code yX5_aboveZero cX5_aboveZero 6 (some .int)] ++ wsX50)
def wsX5_ways : List Cond := .code yX5_ways cX5_ways 6 (some .long) :: ([.methodLink RX5 42 Lib.Math.min.name, .static Lib.Math.min.name, .initialized "java/lang/Math", .code Lib.Math.min.name Lib.Math.min.code 2 (some .int)])
def wsX5_isPastChance : List Cond := .code yX5_isPastChance cX5_isPastChance 11 (some .boolean) :: ([.fieldLink RX5 15 "FeatherHall$Notebook" "withZone" "[I", .fieldLink RX5 18 "FeatherHall$Notebook" "withKind" "[I", .fieldLink RX5 21 "FeatherHall$Notebook" "withoutGap" "I", .constantLong RX5 40 (20), .methodLink RX5 42 Lib.Math.min.name, .static Lib.Math.min.name, .initialized "java/lang/Math", .code Lib.Math.min.name Lib.Math.min.code 2 (some .int), .fieldLink RX5 9 "FeatherHall$Notebook" "both" "[I", .methodLink RX5 32 yX5_triedHabits, .instanceMethod yX5_triedHabits, .selects RX5 yX5_triedHabits yX5_triedHabits, .initialized RX5, .code yX5_triedHabits cX5_triedHabits 1 (some .int), .methodLink RX5 28 yX5_aboveZero, .static yX5_aboveZero, .code yX5_aboveZero cX5_aboveZero 6 (some .int), .methodLink RX5 36 yX5_ways, .static yX5_ways, .code yX5_ways cX5_ways 6 (some .long)] ++ wsX50)
def wsX5_strongestHabit : List Cond := .code yX5_strongestHabit cX5_strongestHabit 7 (some .int) :: ([.fieldLink RX5 9 "FeatherHall$Notebook" "both" "[I", .fieldLink RX5 15 "FeatherHall$Notebook" "withZone" "[I", .methodLink RX5 48 yX5_isPastChance, .instanceMethod yX5_isPastChance, .selects RX5 yX5_isPastChance yX5_isPastChance, .initialized RX5, .code yX5_isPastChance cX5_isPastChance 11 (some .boolean), .fieldLink RX5 18 "FeatherHall$Notebook" "withKind" "[I", .fieldLink RX5 21 "FeatherHall$Notebook" "withoutGap" "I", .constantLong RX5 40 (20), .methodLink RX5 42 Lib.Math.min.name, .static Lib.Math.min.name, .initialized "java/lang/Math", .code Lib.Math.min.name Lib.Math.min.code 2 (some .int), .methodLink RX5 32 yX5_triedHabits, .instanceMethod yX5_triedHabits, .selects RX5 yX5_triedHabits yX5_triedHabits, .code yX5_triedHabits cX5_triedHabits 1 (some .int), .methodLink RX5 28 yX5_aboveZero, .static yX5_aboveZero, .code yX5_aboveZero cX5_aboveZero 6 (some .int), .methodLink RX5 36 yX5_ways, .static yX5_ways, .code yX5_ways cX5_ways 6 (some .long)] ++ wsX50)
def wsX6_init : List Cond := .code yX6_init cX6_init 1 none :: ([.methodLink RX6 3 objectInit, .instanceMethod objectInit, .code objectInit ⟨#[0xb1]⟩ 1 none, .arrayClass .int, .fieldLink RX6 9 "FeatherHall$Squad" "paces" "[I", .fieldLink RX6 15 "FeatherHall$Squad" "reaches" "[I", .fieldLink RX6 18 "FeatherHall$Squad" "tireds" "[I", .fieldLink RX6 21 "FeatherHall$Squad" "strides" "[I", .methodLink RX6 24 yJ7_fill_53178, .static yJ7_fill_53178, .initialized RJ7, .code yJ7_fill_53178 cJ7_fill_53178 4 none] ++ wsX60)
def wsX6_setStride : List Cond := .code yX6_setStride cX6_setStride 2 none :: ([.fieldLink RX6 21 "FeatherHall$Squad" "strides" "[I", .fieldLink RX6 9 "FeatherHall$Squad" "paces" "[I", .fieldLink RX6 18 "FeatherHall$Squad" "tireds" "[I", .methodLink RX6 40 Lib.Math.max.name, .static Lib.Math.max.name, .initialized "java/lang/Math", .code Lib.Math.max.name Lib.Math.max.code 2 (some .int)] ++ wsX60)
def wsX6_setPlayer : List Cond := .code yX6_setPlayer cX6_setPlayer 4 none :: ([.fieldLink RX6 9 "FeatherHall$Squad" "paces" "[I", .fieldLink RX6 15 "FeatherHall$Squad" "reaches" "[I", .methodLink RX6 30 yX6_setStride, .instanceMethod yX6_setStride, .selects RX6 yX6_setStride yX6_setStride, .initialized RX6, .code yX6_setStride cX6_setStride 2 none, .fieldLink RX6 21 "FeatherHall$Squad" "strides" "[I", .fieldLink RX6 18 "FeatherHall$Squad" "tireds" "[I", .methodLink RX6 40 Lib.Math.max.name, .static Lib.Math.max.name, .initialized "java/lang/Math", .code Lib.Math.max.name Lib.Math.max.code 2 (some .int)] ++ wsX60)
def wsX6_tire : List Cond := .code yX6_tire cX6_tire 3 (some .int) :: ([.fieldLink RX6 18 "FeatherHall$Squad" "tireds" "[I", .methodLink RX6 34 Lib.Math.min.name, .static Lib.Math.min.name, .initialized "java/lang/Math", .code Lib.Math.min.name Lib.Math.min.code 2 (some .int), .methodLink RX6 40 Lib.Math.max.name, .static Lib.Math.max.name, .code Lib.Math.max.name Lib.Math.max.code 2 (some .int), .methodLink RX6 30 yX6_setStride, .instanceMethod yX6_setStride, .selects RX6 yX6_setStride yX6_setStride, .initialized RX6, .code yX6_setStride cX6_setStride 2 none, .fieldLink RX6 21 "FeatherHall$Squad" "strides" "[I", .fieldLink RX6 9 "FeatherHall$Squad" "paces" "[I"] ++ wsX60)
def wsX6_tiredOf : List Cond := .code yX6_tiredOf cX6_tiredOf 2 (some .int) :: ([.fieldLink RX6 18 "FeatherHall$Squad" "tireds" "[I"] ++ wsX60)
def wsX6_strideOf : List Cond := .code yX6_strideOf cX6_strideOf 2 (some .int) :: ([.fieldLink RX6 21 "FeatherHall$Squad" "strides" "[I"] ++ wsX60)
def wsX7_init : List Cond := .code yX7_init cX7_init 1 none :: ([.methodLink RX7 3 objectInit, .instanceMethod objectInit, .code objectInit ⟨#[0xb1]⟩ 1 none, .arrayClass .int, .fieldLink RX7 11 "FeatherHall$Trio" "scores" "[I", .fieldLink RX7 15 "FeatherHall$Trio" "server" "I"] ++ wsX70)
def wsX7_aloneNow : List Cond := .code yX7_aloneNow cX7_aloneNow 3 (some .int) :: ([.fieldLink RX7 11 "FeatherHall$Trio" "scores" "[I"] ++ wsX70)
def wsX7_isOver : List Cond := .code yX7_isOver cX7_isOver 1 (some .boolean) :: ([.fieldLink RX7 11 "FeatherHall$Trio" "scores" "[I", .methodLink RX7 19 yX7_aloneNow, .instanceMethod yX7_aloneNow, .selects RX7 yX7_aloneNow yX7_aloneNow, .initialized RX7, .code yX7_aloneNow cX7_aloneNow 3 (some .int)] ++ wsX70)
def wsX7_tell : List Cond := .code yX7_tell cX7_tell 5 (some .int) :: ([.fieldLink RX7 11 "FeatherHall$Trio" "scores" "[I", .fieldLink RX7 15 "FeatherHall$Trio" "server" "I", .methodLink RX7 19 yX7_aloneNow, .instanceMethod yX7_aloneNow, .selects RX7 yX7_aloneNow yX7_aloneNow, .initialized RX7, .code yX7_aloneNow cX7_aloneNow 3 (some .int)] ++ wsX70)
def wsX7_read : List Cond := .code yX7_read cX7_read 2 (some .int) :: ([.fieldLink RX7 15 "FeatherHall$Trio" "server" "I", .fieldLink RX7 11 "FeatherHall$Trio" "scores" "[I", .methodLink RX7 19 yX7_aloneNow, .instanceMethod yX7_aloneNow, .selects RX7 yX7_aloneNow yX7_aloneNow, .initialized RX7, .code yX7_aloneNow cX7_aloneNow 3 (some .int), .methodLink RX7 23 yX7_isOver, .instanceMethod yX7_isOver, .selects RX7 yX7_isOver yX7_isOver, .code yX7_isOver cX7_isOver 1 (some .boolean)] ++ wsX70)
def wsX7_restart : List Cond := .code yX7_restart cX7_restart 3 (some .int) :: ([.fieldLink RX7 11 "FeatherHall$Trio" "scores" "[I", .fieldLink RX7 15 "FeatherHall$Trio" "server" "I"] ++ wsX70)
def wsX8_init_r1 : List Cond := [Cond.methodLink RX8 1 objectInit, Cond.instanceMethod objectInit, Cond.code objectInit ⟨#[0xb1]⟩ 1 none, Cond.classLink RX8 7 RX0, Cond.instantiable RX0 5, Cond.initialized RX0, Cond.fieldLink RX8 10 "FeatherHall" "air" "LFeatherHall$Air;", Cond.classLink RX8 16 RX6, Cond.instantiable RX6 4, Cond.initialized RX6, Cond.fieldLink RX8 19 "FeatherHall" "squad" "LFeatherHall$Squad;", Cond.classLink RX8 23 RX3, Cond.instantiable RX3 4, Cond.initialized RX3, Cond.fieldLink RX8 28 "FeatherHall" "duel" "LFeatherHall$Duel;", Cond.classLink RX8 32 RX7, Cond.instantiable RX7 2, Cond.initialized RX7, Cond.fieldLink RX8 35 "FeatherHall" "trio" "LFeatherHall$Trio;", Cond.classLink RX8 39 RX5, Cond.instantiable RX5 5, Cond.initialized RX5, Cond.fieldLink RX8 42 "FeatherHall" "notebook" "LFeatherHall$Notebook;", Cond.classLink RX8 46 RX1]
def wsX8_init_r2 : List Cond := [Cond.instantiable RX1 6, Cond.initialized RX1, Cond.fieldLink RX8 49 "FeatherHall" "basket" "LFeatherHall$Basket;", Cond.classLink RX8 53 RX4, Cond.instantiable RX4 14, Cond.initialized RX4, Cond.fieldLink RX8 56 "FeatherHall" "evening" "LFeatherHall$Evening;", Cond.instanceMethod yX0_init, Cond.code yX0_init cX0_init 1 none, Cond.methodLink RX0 3 objectInit, Cond.arrayClass .int, Cond.fieldLink RX0 9 "FeatherHall$Air" "speeds" "[I", Cond.fieldLink RX0 15 "FeatherHall$Air" "drags" "[I", Cond.fieldLink RX0 18 "FeatherHall$Air" "meets" "[I", Cond.arrayClass .long, Cond.fieldLink RX0 21 "FeatherHall$Air" "paths" "[J", Cond.fieldLink RX0 25 "FeatherHall$Air" "brokenOnes" "I", Cond.methodLink RX8 18 yX6_init, Cond.instanceMethod yX6_init, Cond.code yX6_init cX6_init 1 none, Cond.methodLink RX6 3 objectInit, Cond.fieldLink RX6 9 "FeatherHall$Squad" "paces" "[I", Cond.fieldLink RX6 15 "FeatherHall$Squad" "reaches" "[I", Cond.fieldLink RX6 18 "FeatherHall$Squad" "tireds" "[I"]
def wsX8_init_r3 : List Cond := [Cond.fieldLink RX6 21 "FeatherHall$Squad" "strides" "[I", Cond.methodLink RX6 24 yJ7_fill_53178, Cond.static yJ7_fill_53178, Cond.initialized RJ7, Cond.code yJ7_fill_53178 cJ7_fill_53178 4 none, Cond.methodLink RX8 25 yX3_init, Cond.instanceMethod yX3_init, Cond.code yX3_init cX3_init 3 none, Cond.methodLink RX3 3 objectInit, Cond.fieldLink RX3 9 "FeatherHall$Duel" "won" "[I", Cond.fieldLink RX3 15 "FeatherHall$Duel" "held" "[I", Cond.fieldLink RX3 18 "FeatherHall$Duel" "air" "LFeatherHall$Air;", Cond.fieldLink RX3 22 "FeatherHall$Duel" "squad" "LFeatherHall$Squad;", Cond.instanceMethod yX7_init, Cond.code yX7_init cX7_init 1 none, Cond.methodLink RX7 3 objectInit, Cond.fieldLink RX7 11 "FeatherHall$Trio" "scores" "[I", Cond.fieldLink RX7 15 "FeatherHall$Trio" "server" "I", Cond.instanceMethod yX5_init, Cond.code yX5_init cX5_init 1 none, Cond.methodLink RX5 3 objectInit, Cond.fieldLink RX5 9 "FeatherHall$Notebook" "both" "[I", Cond.fieldLink RX5 15 "FeatherHall$Notebook" "withZone" "[I", Cond.fieldLink RX5 18 "FeatherHall$Notebook" "withKind" "[I"]
def wsX8_init_r4 : List Cond := [Cond.fieldLink RX5 21 "FeatherHall$Notebook" "withoutGap" "I", Cond.fieldLink RX5 25 "FeatherHall$Notebook" "notes" "I", Cond.instanceMethod yX1_init, Cond.code yX1_init cX1_init 1 none, Cond.methodLink RX1 3 objectInit, Cond.fieldLink RX1 9 "FeatherHall$Basket" "wears" "[I", Cond.fieldLink RX1 15 "FeatherHall$Basket" "planned" "[I", Cond.fieldLink RX1 18 "FeatherHall$Basket" "sums" "[I", Cond.fieldLink RX1 21 "FeatherHall$Basket" "length" "I", Cond.fieldLink RX1 25 "FeatherHall$Basket" "price" "I", Cond.fieldLink RX1 28 "FeatherHall$Basket" "loss" "I", Cond.instanceMethod yX4_init, Cond.code yX4_init cX4_init 1 none, Cond.methodLink RX4 3 objectInit, Cond.arrayClass .boolean, Cond.fieldLink RX4 9 "FeatherHall$Evening" "there" "[Z", Cond.fieldLink RX4 15 "FeatherHall$Evening" "grades" "[I", Cond.fieldLink RX4 19 "FeatherHall$Evening" "waited" "[I", Cond.fieldLink RX4 22 "FeatherHall$Evening" "games" "[I", Cond.fieldLink RX4 25 "FeatherHall$Evening" "mates" "[I", Cond.fieldLink RX4 28 "FeatherHall$Evening" "bestMates" "[I", Cond.fieldLink RX4 31 "FeatherHall$Evening" "courtsNow" "I", Cond.fieldLink RX4 35 "FeatherHall$Evening" "present" "I", Cond.fieldLink RX4 38 "FeatherHall$Evening" "rounds" "I"]
def wsX8_init_r5 : List Cond := [Cond.fieldLink RX4 41 "FeatherHall$Evening" "isSought" "Z", Cond.fieldLink RX4 45 "FeatherHall$Evening" "isFound" "Z", Cond.fieldLink RX4 48 "FeatherHall$Evening" "bestWaited" "I", Cond.fieldLink RX4 51 "FeatherHall$Evening" "bestBefore" "I", Cond.fieldLink RX4 54 "FeatherHall$Evening" "bestUneven" "I"]
def wsX8_init : List Cond := .code yX8_init cX8_init 1 none :: ((wsX8_init_r1 ++ (wsX8_init_r2 ++ (wsX8_init_r3 ++ (wsX8_init_r4 ++ wsX8_init_r5)))) ++ wsX00 ++ wsX80 ++ wsX60 ++ wsX30 ++ wsX70 ++ wsX50 ++ wsX10 ++ wsX40)
def wsX8_isWithin : List Cond := .code yX8_isWithin cX8_isWithin 3 (some .boolean) :: ([])
def wsX8_isKind : List Cond := .code yX8_isKind cX8_isKind 1 (some .boolean) :: ([.methodLink RX8 64 yX8_isWithin, .static yX8_isWithin, .initialized RX8, .code yX8_isWithin cX8_isWithin 3 (some .boolean)])
def wsX8_kind : List Cond := .code yX8_kind cX8_kind 5 (some .int) :: ([.fieldLink RX8 10 "FeatherHall" "air" "LFeatherHall$Air;", .methodLink RX8 60 yX8_isKind, .static yX8_isKind, .initialized RX8, .code yX8_isKind cX8_isKind 1 (some .boolean), .methodLink RX8 64 yX8_isWithin, .static yX8_isWithin, .code yX8_isWithin cX8_isWithin 3 (some .boolean), .methodLink RX8 68 yX0_setKind, .instanceMethod yX0_setKind, .selects RX0 yX0_setKind yX0_setKind, .initialized RX0, .code yX0_setKind cX0_setKind 6 none, .fieldLink RX0 9 "FeatherHall$Air" "speeds" "[I", .fieldLink RX0 15 "FeatherHall$Air" "drags" "[I", .fieldLink RX0 18 "FeatherHall$Air" "meets" "[I", .fieldLink RX0 21 "FeatherHall$Air" "paths" "[J"] ++ wsX80 ++ wsX00)
def wsX8_broken : List Cond := .code yX8_broken cX8_broken 2 (some .int) :: ([.fieldLink RX8 10 "FeatherHall" "air" "LFeatherHall$Air;", .methodLink RX8 64 yX8_isWithin, .static yX8_isWithin, .initialized RX8, .code yX8_isWithin cX8_isWithin 3 (some .boolean), .methodLink RX8 72 yX0_setBroken, .instanceMethod yX0_setBroken, .selects RX0 yX0_setBroken yX0_setBroken, .initialized RX0, .code yX0_setBroken cX0_setBroken 3 (some .int), .fieldLink RX0 25 "FeatherHall$Air" "brokenOnes" "I", .fieldLink RX0 21 "FeatherHall$Air" "paths" "[J", .methodLink RX0 29 yJ7_fill_d0a16, .static yJ7_fill_d0a16, .initialized RJ7, .code yJ7_fill_d0a16 cJ7_fill_d0a16 5 none] ++ wsX80 ++ wsX00)
def wsX8_isCell : List Cond := .code yX8_isCell cX8_isCell 1 (some .boolean) :: ([.methodLink RX8 64 yX8_isWithin, .static yX8_isWithin, .initialized RX8, .code yX8_isWithin cX8_isWithin 3 (some .boolean)])
def wsX8_flight_r1 : List Cond := [Cond.fieldLink RX8 10 "FeatherHall" "air" "LFeatherHall$Air;", Cond.methodLink RX8 60 yX8_isKind, Cond.static yX8_isKind, Cond.initialized RX8, Cond.code yX8_isKind cX8_isKind 1 (some .boolean), Cond.methodLink RX8 64 yX8_isWithin, Cond.static yX8_isWithin, Cond.code yX8_isWithin cX8_isWithin 3 (some .boolean), Cond.methodLink RX8 76 yX8_isCell, Cond.static yX8_isCell, Cond.code yX8_isCell cX8_isCell 1 (some .boolean), Cond.methodLink RX8 79 yX0_pathOf, Cond.instanceMethod yX0_pathOf, Cond.selects RX0 yX0_pathOf yX0_pathOf, Cond.initialized RX0, Cond.code yX0_pathOf cX0_pathOf 5 (some .long), Cond.fieldLink RX0 21 "FeatherHall$Air" "paths" "[J", Cond.methodLink RX0 46 yX0_workOut, Cond.instanceMethod yX0_workOut, Cond.selects RX0 yX0_workOut yX0_workOut, Cond.code yX0_workOut cX0_workOut 15 (some .long), Cond.fieldLink RX0 9 "FeatherHall$Air" "speeds" "[I", Cond.methodLink RX0 61 Lib.Math.min.name, Cond.static Lib.Math.min.name]
def wsX8_flight_r2 : List Cond := [Cond.initialized "java/lang/Math", Cond.code Lib.Math.min.name Lib.Math.min.code 2 (some .int), Cond.fieldLink RX0 18 "FeatherHall$Air" "meets" "[I", Cond.constantLong RX0 73 (16777215), Cond.methodLink RX0 53 yX0_lengthOf, Cond.static yX0_lengthOf, Cond.code yX0_lengthOf cX0_lengthOf 3 (some .int), Cond.methodLink RX0 86 Lib.Math.abs.name, Cond.static Lib.Math.abs.name, Cond.code Lib.Math.abs.name Lib.Math.abs.code 1 (some .int), Cond.methodLink RX0 78 yX2_rowOf, Cond.static yX2_rowOf, Cond.initialized RX2, Cond.code yX2_rowOf cX2_rowOf 1 (some .int), Cond.methodLink RX0 83 yX2_colOf, Cond.static yX2_colOf, Cond.code yX2_colOf cX2_colOf 1 (some .int), Cond.methodLink RX0 57 yX0_wholeOf, Cond.instanceMethod yX0_wholeOf, Cond.selects RX0 yX0_wholeOf yX0_wholeOf, Cond.code yX0_wholeOf cX0_wholeOf 2 (some .int), Cond.fieldLink RX0 25 "FeatherHall$Air" "brokenOnes" "I", Cond.methodLink RX0 66 yX0_slowed, Cond.instanceMethod yX0_slowed]
def wsX8_flight_r3 : List Cond := [Cond.selects RX0 yX0_slowed yX0_slowed, Cond.code yX0_slowed cX0_slowed 3 (some .int), Cond.fieldLink RX0 15 "FeatherHall$Air" "drags" "[I", Cond.methodLink RX0 75 Lib.Math.max.name, Cond.static Lib.Math.max.name, Cond.code Lib.Math.max.name Lib.Math.max.code 2 (some .int), Cond.methodLink RX0 69 yX0_placeAt, Cond.static yX0_placeAt, Cond.code yX0_placeAt cX0_placeAt 7 (some .int), Cond.methodLink RX8 83 yX0_landingOf, Cond.static yX0_landingOf, Cond.code yX0_landingOf cX0_landingOf 2 (some .int), Cond.constantLong RX0 35 (63), Cond.methodLink RX8 87 yX0_isNet, Cond.static yX0_isNet, Cond.code yX0_isNet cX0_isNet 2 (some .boolean), Cond.methodLink RX0 37 yX0_firstMetOf, Cond.static yX0_firstMetOf, Cond.code yX0_firstMetOf cX0_firstMetOf 2 (some .int), Cond.methodLink RX8 91 yX0_cellAt, Cond.static yX0_cellAt, Cond.code yX0_cellAt cX0_cellAt 3 (some .int), Cond.constantLong RX0 44 (15), Cond.methodLink RX0 41 yX0_landingOf]
def wsX8_flight_r4 : List Cond := [Cond.methodLink RX8 95 yX0_firstMetOf]
def wsX8_flight : List Cond := .code yX8_flight cX8_flight 8 (some .int) :: ((wsX8_flight_r1 ++ (wsX8_flight_r2 ++ (wsX8_flight_r3 ++ wsX8_flight_r4))) ++ wsX80 ++ wsX00)
def wsX8_over_r1 : List Cond := [Cond.fieldLink RX8 10 "FeatherHall" "air" "LFeatherHall$Air;", Cond.methodLink RX8 60 yX8_isKind, Cond.static yX8_isKind, Cond.initialized RX8, Cond.code yX8_isKind cX8_isKind 1 (some .boolean), Cond.methodLink RX8 64 yX8_isWithin, Cond.static yX8_isWithin, Cond.code yX8_isWithin cX8_isWithin 3 (some .boolean), Cond.methodLink RX8 76 yX8_isCell, Cond.static yX8_isCell, Cond.code yX8_isCell cX8_isCell 1 (some .boolean), Cond.methodLink RX8 98 yX0_placeBehind, Cond.instanceMethod yX0_placeBehind, Cond.selects RX0 yX0_placeBehind yX0_placeBehind, Cond.initialized RX0, Cond.code yX0_placeBehind cX0_placeBehind 10 (some .int), Cond.fieldLink RX0 9 "FeatherHall$Air" "speeds" "[I", Cond.methodLink RX0 61 Lib.Math.min.name, Cond.static Lib.Math.min.name, Cond.initialized "java/lang/Math", Cond.code Lib.Math.min.name Lib.Math.min.code 2 (some .int), Cond.methodLink RX0 53 yX0_lengthOf, Cond.static yX0_lengthOf, Cond.code yX0_lengthOf cX0_lengthOf 3 (some .int)]
def wsX8_over_r2 : List Cond := [Cond.methodLink RX0 86 Lib.Math.abs.name, Cond.static Lib.Math.abs.name, Cond.code Lib.Math.abs.name Lib.Math.abs.code 1 (some .int), Cond.methodLink RX0 78 yX2_rowOf, Cond.static yX2_rowOf, Cond.initialized RX2, Cond.code yX2_rowOf cX2_rowOf 1 (some .int), Cond.methodLink RX0 83 yX2_colOf, Cond.static yX2_colOf, Cond.code yX2_colOf cX2_colOf 1 (some .int), Cond.methodLink RX0 57 yX0_wholeOf, Cond.instanceMethod yX0_wholeOf, Cond.selects RX0 yX0_wholeOf yX0_wholeOf, Cond.code yX0_wholeOf cX0_wholeOf 2 (some .int), Cond.fieldLink RX0 25 "FeatherHall$Air" "brokenOnes" "I", Cond.methodLink RX0 66 yX0_slowed, Cond.instanceMethod yX0_slowed, Cond.selects RX0 yX0_slowed yX0_slowed, Cond.code yX0_slowed cX0_slowed 3 (some .int), Cond.fieldLink RX0 15 "FeatherHall$Air" "drags" "[I", Cond.methodLink RX0 75 Lib.Math.max.name, Cond.static Lib.Math.max.name, Cond.code Lib.Math.max.name Lib.Math.max.code 2 (some .int), Cond.methodLink RX0 69 yX0_placeAt]
def wsX8_over_r3 : List Cond := [Cond.static yX0_placeAt, Cond.code yX0_placeAt cX0_placeAt 7 (some .int)]
def wsX8_over : List Cond := .code yX8_over cX8_over 5 (some .int) :: ((wsX8_over_r1 ++ (wsX8_over_r2 ++ wsX8_over_r3)) ++ wsX80 ++ wsX00)
def wsX8_isPlayer : List Cond := .code yX8_isPlayer cX8_isPlayer 1 (some .boolean) :: ([.methodLink RX8 64 yX8_isWithin, .static yX8_isWithin, .initialized RX8, .code yX8_isWithin cX8_isWithin 3 (some .boolean)])
def wsX8_player_r1 : List Cond := [Cond.fieldLink RX8 19 "FeatherHall" "squad" "LFeatherHall$Squad;", Cond.methodLink RX8 102 yX8_isPlayer, Cond.static yX8_isPlayer, Cond.initialized RX8, Cond.code yX8_isPlayer cX8_isPlayer 1 (some .boolean), Cond.methodLink RX8 64 yX8_isWithin, Cond.static yX8_isWithin, Cond.code yX8_isWithin cX8_isWithin 3 (some .boolean), Cond.methodLink RX8 105 yX6_setPlayer, Cond.instanceMethod yX6_setPlayer, Cond.selects RX6 yX6_setPlayer yX6_setPlayer, Cond.initialized RX6, Cond.code yX6_setPlayer cX6_setPlayer 4 none, Cond.fieldLink RX6 9 "FeatherHall$Squad" "paces" "[I", Cond.fieldLink RX6 15 "FeatherHall$Squad" "reaches" "[I", Cond.methodLink RX6 30 yX6_setStride, Cond.instanceMethod yX6_setStride, Cond.selects RX6 yX6_setStride yX6_setStride, Cond.code yX6_setStride cX6_setStride 2 none, Cond.fieldLink RX6 21 "FeatherHall$Squad" "strides" "[I", Cond.fieldLink RX6 18 "FeatherHall$Squad" "tireds" "[I", Cond.methodLink RX6 40 Lib.Math.max.name, Cond.static Lib.Math.max.name, Cond.initialized "java/lang/Math"]
def wsX8_player_r2 : List Cond := [Cond.code Lib.Math.max.name Lib.Math.max.code 2 (some .int)]
def wsX8_player : List Cond := .code yX8_player cX8_player 4 (some .int) :: ((wsX8_player_r1 ++ wsX8_player_r2) ++ wsX80 ++ wsX60)
def wsX8_run_r1 : List Cond := [Cond.fieldLink RX8 19 "FeatherHall" "squad" "LFeatherHall$Squad;", Cond.methodLink RX8 102 yX8_isPlayer, Cond.static yX8_isPlayer, Cond.initialized RX8, Cond.code yX8_isPlayer cX8_isPlayer 1 (some .boolean), Cond.methodLink RX8 64 yX8_isWithin, Cond.static yX8_isWithin, Cond.code yX8_isWithin cX8_isWithin 3 (some .boolean), Cond.methodLink RX8 109 yX6_tire, Cond.instanceMethod yX6_tire, Cond.selects RX6 yX6_tire yX6_tire, Cond.initialized RX6, Cond.code yX6_tire cX6_tire 3 (some .int), Cond.fieldLink RX6 18 "FeatherHall$Squad" "tireds" "[I", Cond.methodLink RX6 34 Lib.Math.min.name, Cond.static Lib.Math.min.name, Cond.initialized "java/lang/Math", Cond.code Lib.Math.min.name Lib.Math.min.code 2 (some .int), Cond.methodLink RX6 40 Lib.Math.max.name, Cond.static Lib.Math.max.name, Cond.code Lib.Math.max.name Lib.Math.max.code 2 (some .int), Cond.methodLink RX6 30 yX6_setStride, Cond.instanceMethod yX6_setStride, Cond.selects RX6 yX6_setStride yX6_setStride]
def wsX8_run_r2 : List Cond := [Cond.code yX6_setStride cX6_setStride 2 none, Cond.fieldLink RX6 21 "FeatherHall$Squad" "strides" "[I", Cond.fieldLink RX6 9 "FeatherHall$Squad" "paces" "[I"]
def wsX8_run : List Cond := .code yX8_run cX8_run 3 (some .int) :: ((wsX8_run_r1 ++ wsX8_run_r2) ++ wsX80 ++ wsX60)
def wsX8_rest_r1 : List Cond := [Cond.fieldLink RX8 19 "FeatherHall" "squad" "LFeatherHall$Squad;", Cond.methodLink RX8 102 yX8_isPlayer, Cond.static yX8_isPlayer, Cond.initialized RX8, Cond.code yX8_isPlayer cX8_isPlayer 1 (some .boolean), Cond.methodLink RX8 64 yX8_isWithin, Cond.static yX8_isWithin, Cond.code yX8_isWithin cX8_isWithin 3 (some .boolean), Cond.methodLink RX8 109 yX6_tire, Cond.instanceMethod yX6_tire, Cond.selects RX6 yX6_tire yX6_tire, Cond.initialized RX6, Cond.code yX6_tire cX6_tire 3 (some .int), Cond.fieldLink RX6 18 "FeatherHall$Squad" "tireds" "[I", Cond.methodLink RX6 34 Lib.Math.min.name, Cond.static Lib.Math.min.name, Cond.initialized "java/lang/Math", Cond.code Lib.Math.min.name Lib.Math.min.code 2 (some .int), Cond.methodLink RX6 40 Lib.Math.max.name, Cond.static Lib.Math.max.name, Cond.code Lib.Math.max.name Lib.Math.max.code 2 (some .int), Cond.methodLink RX6 30 yX6_setStride, Cond.instanceMethod yX6_setStride, Cond.selects RX6 yX6_setStride yX6_setStride]
def wsX8_rest_r2 : List Cond := [Cond.code yX6_setStride cX6_setStride 2 none, Cond.fieldLink RX6 21 "FeatherHall$Squad" "strides" "[I", Cond.fieldLink RX6 9 "FeatherHall$Squad" "paces" "[I"]
def wsX8_rest : List Cond := .code yX8_rest cX8_rest 3 (some .int) :: ((wsX8_rest_r1 ++ wsX8_rest_r2) ++ wsX80 ++ wsX60)
def wsX8_slack_r1 : List Cond := [Cond.fieldLink RX8 28 "FeatherHall" "duel" "LFeatherHall$Duel;", Cond.fieldLink RX8 10 "FeatherHall" "air" "LFeatherHall$Air;", Cond.methodLink RX8 102 yX8_isPlayer, Cond.static yX8_isPlayer, Cond.initialized RX8, Cond.code yX8_isPlayer cX8_isPlayer 1 (some .boolean), Cond.methodLink RX8 64 yX8_isWithin, Cond.static yX8_isWithin, Cond.code yX8_isWithin cX8_isWithin 3 (some .boolean), Cond.methodLink RX8 76 yX8_isCell, Cond.static yX8_isCell, Cond.code yX8_isCell cX8_isCell 1 (some .boolean), Cond.methodLink RX8 60 yX8_isKind, Cond.static yX8_isKind, Cond.code yX8_isKind cX8_isKind 1 (some .boolean), Cond.methodLink RX8 79 yX0_pathOf, Cond.instanceMethod yX0_pathOf, Cond.selects RX0 yX0_pathOf yX0_pathOf, Cond.initialized RX0, Cond.code yX0_pathOf cX0_pathOf 5 (some .long), Cond.fieldLink RX0 21 "FeatherHall$Air" "paths" "[J", Cond.methodLink RX0 46 yX0_workOut, Cond.instanceMethod yX0_workOut, Cond.selects RX0 yX0_workOut yX0_workOut]
def wsX8_slack_r2 : List Cond := [Cond.code yX0_workOut cX0_workOut 15 (some .long), Cond.fieldLink RX0 9 "FeatherHall$Air" "speeds" "[I", Cond.methodLink RX0 61 Lib.Math.min.name, Cond.static Lib.Math.min.name, Cond.initialized "java/lang/Math", Cond.code Lib.Math.min.name Lib.Math.min.code 2 (some .int), Cond.fieldLink RX0 18 "FeatherHall$Air" "meets" "[I", Cond.constantLong RX0 73 (16777215), Cond.methodLink RX0 53 yX0_lengthOf, Cond.static yX0_lengthOf, Cond.code yX0_lengthOf cX0_lengthOf 3 (some .int), Cond.methodLink RX0 86 Lib.Math.abs.name, Cond.static Lib.Math.abs.name, Cond.code Lib.Math.abs.name Lib.Math.abs.code 1 (some .int), Cond.methodLink RX0 78 yX2_rowOf, Cond.static yX2_rowOf, Cond.initialized RX2, Cond.code yX2_rowOf cX2_rowOf 1 (some .int), Cond.methodLink RX0 83 yX2_colOf, Cond.static yX2_colOf, Cond.code yX2_colOf cX2_colOf 1 (some .int), Cond.methodLink RX0 57 yX0_wholeOf, Cond.instanceMethod yX0_wholeOf, Cond.selects RX0 yX0_wholeOf yX0_wholeOf]
def wsX8_slack_r3 : List Cond := [Cond.code yX0_wholeOf cX0_wholeOf 2 (some .int), Cond.fieldLink RX0 25 "FeatherHall$Air" "brokenOnes" "I", Cond.methodLink RX0 66 yX0_slowed, Cond.instanceMethod yX0_slowed, Cond.selects RX0 yX0_slowed yX0_slowed, Cond.code yX0_slowed cX0_slowed 3 (some .int), Cond.fieldLink RX0 15 "FeatherHall$Air" "drags" "[I", Cond.methodLink RX0 75 Lib.Math.max.name, Cond.static Lib.Math.max.name, Cond.code Lib.Math.max.name Lib.Math.max.code 2 (some .int), Cond.methodLink RX0 69 yX0_placeAt, Cond.static yX0_placeAt, Cond.code yX0_placeAt cX0_placeAt 7 (some .int), Cond.methodLink RX8 113 yX3_slackFor, Cond.instanceMethod yX3_slackFor, Cond.selects RX3 yX3_slackFor yX3_slackFor, Cond.initialized RX3, Cond.code yX3_slackFor cX3_slackFor 9 (some .int), Cond.fieldLink RX3 22 "FeatherHall$Duel" "squad" "LFeatherHall$Squad;", Cond.methodLink RX3 55 Lib.Math.max.name, Cond.methodLink RX3 26 yX0_isNet, Cond.static yX0_isNet, Cond.code yX0_isNet cX0_isNet 2 (some .boolean), Cond.methodLink RX0 37 yX0_firstMetOf]
def wsX8_slack_r4 : List Cond := [Cond.static yX0_firstMetOf, Cond.code yX0_firstMetOf cX0_firstMetOf 2 (some .int), Cond.constantLong RX0 35 (63), Cond.methodLink RX3 32 yX6_reachOf, Cond.instanceMethod yX6_reachOf, Cond.selects RX6 yX6_reachOf yX6_reachOf, Cond.initialized RX6, Cond.code yX6_reachOf cX6_reachOf 2 (some .int), Cond.fieldLink RX6 15 "FeatherHall$Squad" "reaches" "[I", Cond.methodLink RX3 38 yX0_firstMetOf, Cond.methodLink RX3 42 yX0_landingOf, Cond.static yX0_landingOf, Cond.code yX0_landingOf cX0_landingOf 2 (some .int), Cond.methodLink RX3 45 yX0_cellAt, Cond.static yX0_cellAt, Cond.code yX0_cellAt cX0_cellAt 3 (some .int), Cond.constantLong RX0 44 (15), Cond.methodLink RX0 41 yX0_landingOf, Cond.methodLink RX3 49 yX2_far, Cond.static yX2_far, Cond.code yX2_far cX2_far 2 (some .int), Cond.methodLink RX2 13 Lib.Math.abs.name, Cond.methodLink RX2 21 Lib.Math.max.name, Cond.methodLink RX2 7 yX2_rowOf]
def wsX8_slack_r5 : List Cond := [Cond.methodLink RX2 18 yX2_colOf, Cond.methodLink RX3 60 yX6_comes, Cond.instanceMethod yX6_comes, Cond.selects RX6 yX6_comes yX6_comes, Cond.code yX6_comes cX6_comes 3 (some .int), Cond.fieldLink RX6 21 "FeatherHall$Squad" "strides" "[I"]
def wsX8_slack : List Cond := .code yX8_slack cX8_slack 6 (some .int) :: ((wsX8_slack_r1 ++ (wsX8_slack_r2 ++ (wsX8_slack_r3 ++ (wsX8_slack_r4 ++ wsX8_slack_r5)))) ++ wsX80 ++ wsX00 ++ wsX30 ++ wsX60)
def wsX8_strike_r1 : List Cond := [Cond.fieldLink RX8 10 "FeatherHall" "air" "LFeatherHall$Air;", Cond.fieldLink RX8 28 "FeatherHall" "duel" "LFeatherHall$Duel;", Cond.methodLink RX8 76 yX8_isCell, Cond.static yX8_isCell, Cond.initialized RX8, Cond.code yX8_isCell cX8_isCell 1 (some .boolean), Cond.methodLink RX8 64 yX8_isWithin, Cond.static yX8_isWithin, Cond.code yX8_isWithin cX8_isWithin 3 (some .boolean), Cond.methodLink RX8 102 yX8_isPlayer, Cond.static yX8_isPlayer, Cond.code yX8_isPlayer cX8_isPlayer 1 (some .boolean), Cond.methodLink RX8 117 yX0_workOutFrom, Cond.instanceMethod yX0_workOutFrom, Cond.selects RX0 yX0_workOutFrom yX0_workOutFrom, Cond.initialized RX0, Cond.code yX0_workOutFrom cX0_workOutFrom 3 none, Cond.methodLink RX0 50 yX0_pathOf, Cond.instanceMethod yX0_pathOf, Cond.selects RX0 yX0_pathOf yX0_pathOf, Cond.code yX0_pathOf cX0_pathOf 5 (some .long), Cond.fieldLink RX0 21 "FeatherHall$Air" "paths" "[J", Cond.methodLink RX0 46 yX0_workOut, Cond.instanceMethod yX0_workOut]
def wsX8_strike_r2 : List Cond := [Cond.selects RX0 yX0_workOut yX0_workOut, Cond.code yX0_workOut cX0_workOut 15 (some .long), Cond.fieldLink RX0 9 "FeatherHall$Air" "speeds" "[I", Cond.methodLink RX0 61 Lib.Math.min.name, Cond.static Lib.Math.min.name, Cond.initialized "java/lang/Math", Cond.code Lib.Math.min.name Lib.Math.min.code 2 (some .int), Cond.fieldLink RX0 18 "FeatherHall$Air" "meets" "[I", Cond.constantLong RX0 73 (16777215), Cond.methodLink RX0 53 yX0_lengthOf, Cond.static yX0_lengthOf, Cond.code yX0_lengthOf cX0_lengthOf 3 (some .int), Cond.methodLink RX0 86 Lib.Math.abs.name, Cond.static Lib.Math.abs.name, Cond.code Lib.Math.abs.name Lib.Math.abs.code 1 (some .int), Cond.methodLink RX0 78 yX2_rowOf, Cond.static yX2_rowOf, Cond.initialized RX2, Cond.code yX2_rowOf cX2_rowOf 1 (some .int), Cond.methodLink RX0 83 yX2_colOf, Cond.static yX2_colOf, Cond.code yX2_colOf cX2_colOf 1 (some .int), Cond.methodLink RX0 57 yX0_wholeOf, Cond.instanceMethod yX0_wholeOf]
def wsX8_strike_r3 : List Cond := [Cond.selects RX0 yX0_wholeOf yX0_wholeOf, Cond.code yX0_wholeOf cX0_wholeOf 2 (some .int), Cond.fieldLink RX0 25 "FeatherHall$Air" "brokenOnes" "I", Cond.methodLink RX0 66 yX0_slowed, Cond.instanceMethod yX0_slowed, Cond.selects RX0 yX0_slowed yX0_slowed, Cond.code yX0_slowed cX0_slowed 3 (some .int), Cond.fieldLink RX0 15 "FeatherHall$Air" "drags" "[I", Cond.methodLink RX0 75 Lib.Math.max.name, Cond.static Lib.Math.max.name, Cond.code Lib.Math.max.name Lib.Math.max.code 2 (some .int), Cond.methodLink RX0 69 yX0_placeAt, Cond.static yX0_placeAt, Cond.code yX0_placeAt cX0_placeAt 7 (some .int), Cond.methodLink RX8 121 yX3_bestStrike, Cond.instanceMethod yX3_bestStrike, Cond.selects RX3 yX3_bestStrike yX3_bestStrike, Cond.initialized RX3, Cond.code yX3_bestStrike cX3_bestStrike 10 (some .int), Cond.fieldLink RX3 18 "FeatherHall$Duel" "air" "LFeatherHall$Air;", Cond.methodLink RX3 63 yX0_knownPath, Cond.instanceMethod yX0_knownPath, Cond.selects RX0 yX0_knownPath yX0_knownPath, Cond.code yX0_knownPath cX0_knownPath 3 (some .long)]
def wsX8_strike_r4 : List Cond := [Cond.methodLink RX3 26 yX0_isNet, Cond.static yX0_isNet, Cond.code yX0_isNet cX0_isNet 2 (some .boolean), Cond.methodLink RX0 37 yX0_firstMetOf, Cond.static yX0_firstMetOf, Cond.code yX0_firstMetOf cX0_firstMetOf 2 (some .int), Cond.constantLong RX0 35 (63), Cond.methodLink RX3 67 yX3_slackFor, Cond.instanceMethod yX3_slackFor, Cond.selects RX3 yX3_slackFor yX3_slackFor, Cond.code yX3_slackFor cX3_slackFor 9 (some .int), Cond.fieldLink RX3 22 "FeatherHall$Duel" "squad" "LFeatherHall$Squad;", Cond.methodLink RX3 55 Lib.Math.max.name, Cond.methodLink RX3 32 yX6_reachOf, Cond.instanceMethod yX6_reachOf, Cond.selects RX6 yX6_reachOf yX6_reachOf, Cond.initialized RX6, Cond.code yX6_reachOf cX6_reachOf 2 (some .int), Cond.fieldLink RX6 15 "FeatherHall$Squad" "reaches" "[I", Cond.methodLink RX3 38 yX0_firstMetOf, Cond.methodLink RX3 42 yX0_landingOf, Cond.static yX0_landingOf, Cond.code yX0_landingOf cX0_landingOf 2 (some .int), Cond.methodLink RX3 45 yX0_cellAt]
def wsX8_strike_r5 : List Cond := [Cond.static yX0_cellAt, Cond.code yX0_cellAt cX0_cellAt 3 (some .int), Cond.constantLong RX0 44 (15), Cond.methodLink RX0 41 yX0_landingOf, Cond.methodLink RX3 49 yX2_far, Cond.static yX2_far, Cond.code yX2_far cX2_far 2 (some .int), Cond.methodLink RX2 13 Lib.Math.abs.name, Cond.methodLink RX2 21 Lib.Math.max.name, Cond.methodLink RX2 7 yX2_rowOf, Cond.methodLink RX2 18 yX2_colOf, Cond.methodLink RX3 60 yX6_comes, Cond.instanceMethod yX6_comes, Cond.selects RX6 yX6_comes yX6_comes, Cond.code yX6_comes cX6_comes 3 (some .int), Cond.fieldLink RX6 21 "FeatherHall$Squad" "strides" "[I", Cond.methodLink RX8 125 yX3_leastSlack, Cond.instanceMethod yX3_leastSlack, Cond.selects RX3 yX3_leastSlack yX3_leastSlack, Cond.code yX3_leastSlack cX3_leastSlack 5 (some .int), Cond.methodLink RX3 71 yX3_bestStrike]
def wsX8_strike : List Cond := .code yX8_strike cX8_strike 5 (some .int) :: ((wsX8_strike_r1 ++ (wsX8_strike_r2 ++ (wsX8_strike_r3 ++ (wsX8_strike_r4 ++ wsX8_strike_r5)))) ++ wsX80 ++ wsX00 ++ wsX30 ++ wsX60)
def wsX8_stand_r1 : List Cond := [Cond.fieldLink RX8 10 "FeatherHall" "air" "LFeatherHall$Air;", Cond.fieldLink RX8 28 "FeatherHall" "duel" "LFeatherHall$Duel;", Cond.methodLink RX8 102 yX8_isPlayer, Cond.static yX8_isPlayer, Cond.initialized RX8, Cond.code yX8_isPlayer cX8_isPlayer 1 (some .boolean), Cond.methodLink RX8 64 yX8_isWithin, Cond.static yX8_isWithin, Cond.code yX8_isWithin cX8_isWithin 3 (some .boolean), Cond.methodLink RX8 76 yX8_isCell, Cond.static yX8_isCell, Cond.code yX8_isCell cX8_isCell 1 (some .boolean), Cond.methodLink RX8 117 yX0_workOutFrom, Cond.instanceMethod yX0_workOutFrom, Cond.selects RX0 yX0_workOutFrom yX0_workOutFrom, Cond.initialized RX0, Cond.code yX0_workOutFrom cX0_workOutFrom 3 none, Cond.methodLink RX0 50 yX0_pathOf, Cond.instanceMethod yX0_pathOf, Cond.selects RX0 yX0_pathOf yX0_pathOf, Cond.code yX0_pathOf cX0_pathOf 5 (some .long), Cond.fieldLink RX0 21 "FeatherHall$Air" "paths" "[J", Cond.methodLink RX0 46 yX0_workOut, Cond.instanceMethod yX0_workOut]
def wsX8_stand_r2 : List Cond := [Cond.selects RX0 yX0_workOut yX0_workOut, Cond.code yX0_workOut cX0_workOut 15 (some .long), Cond.fieldLink RX0 9 "FeatherHall$Air" "speeds" "[I", Cond.methodLink RX0 61 Lib.Math.min.name, Cond.static Lib.Math.min.name, Cond.initialized "java/lang/Math", Cond.code Lib.Math.min.name Lib.Math.min.code 2 (some .int), Cond.fieldLink RX0 18 "FeatherHall$Air" "meets" "[I", Cond.constantLong RX0 73 (16777215), Cond.methodLink RX0 53 yX0_lengthOf, Cond.static yX0_lengthOf, Cond.code yX0_lengthOf cX0_lengthOf 3 (some .int), Cond.methodLink RX0 86 Lib.Math.abs.name, Cond.static Lib.Math.abs.name, Cond.code Lib.Math.abs.name Lib.Math.abs.code 1 (some .int), Cond.methodLink RX0 78 yX2_rowOf, Cond.static yX2_rowOf, Cond.initialized RX2, Cond.code yX2_rowOf cX2_rowOf 1 (some .int), Cond.methodLink RX0 83 yX2_colOf, Cond.static yX2_colOf, Cond.code yX2_colOf cX2_colOf 1 (some .int), Cond.methodLink RX0 57 yX0_wholeOf, Cond.instanceMethod yX0_wholeOf]
def wsX8_stand_r3 : List Cond := [Cond.selects RX0 yX0_wholeOf yX0_wholeOf, Cond.code yX0_wholeOf cX0_wholeOf 2 (some .int), Cond.fieldLink RX0 25 "FeatherHall$Air" "brokenOnes" "I", Cond.methodLink RX0 66 yX0_slowed, Cond.instanceMethod yX0_slowed, Cond.selects RX0 yX0_slowed yX0_slowed, Cond.code yX0_slowed cX0_slowed 3 (some .int), Cond.fieldLink RX0 15 "FeatherHall$Air" "drags" "[I", Cond.methodLink RX0 75 Lib.Math.max.name, Cond.static Lib.Math.max.name, Cond.code Lib.Math.max.name Lib.Math.max.code 2 (some .int), Cond.methodLink RX0 69 yX0_placeAt, Cond.static yX0_placeAt, Cond.code yX0_placeAt cX0_placeAt 7 (some .int), Cond.methodLink RX8 128 yX3_bestStand, Cond.instanceMethod yX3_bestStand, Cond.selects RX3 yX3_bestStand yX3_bestStand, Cond.initialized RX3, Cond.code yX3_bestStand cX3_bestStand 7 (some .int), Cond.methodLink RX3 75 yX3_leastSlack, Cond.instanceMethod yX3_leastSlack, Cond.selects RX3 yX3_leastSlack yX3_leastSlack, Cond.code yX3_leastSlack cX3_leastSlack 5 (some .int), Cond.fieldLink RX3 18 "FeatherHall$Duel" "air" "LFeatherHall$Air;"]
def wsX8_stand_r4 : List Cond := [Cond.methodLink RX3 71 yX3_bestStrike, Cond.instanceMethod yX3_bestStrike, Cond.selects RX3 yX3_bestStrike yX3_bestStrike, Cond.code yX3_bestStrike cX3_bestStrike 10 (some .int), Cond.methodLink RX3 63 yX0_knownPath, Cond.instanceMethod yX0_knownPath, Cond.selects RX0 yX0_knownPath yX0_knownPath, Cond.code yX0_knownPath cX0_knownPath 3 (some .long), Cond.methodLink RX3 26 yX0_isNet, Cond.static yX0_isNet, Cond.code yX0_isNet cX0_isNet 2 (some .boolean), Cond.methodLink RX0 37 yX0_firstMetOf, Cond.static yX0_firstMetOf, Cond.code yX0_firstMetOf cX0_firstMetOf 2 (some .int), Cond.constantLong RX0 35 (63), Cond.methodLink RX3 67 yX3_slackFor, Cond.instanceMethod yX3_slackFor, Cond.selects RX3 yX3_slackFor yX3_slackFor, Cond.code yX3_slackFor cX3_slackFor 9 (some .int), Cond.fieldLink RX3 22 "FeatherHall$Duel" "squad" "LFeatherHall$Squad;", Cond.methodLink RX3 55 Lib.Math.max.name, Cond.methodLink RX3 32 yX6_reachOf, Cond.instanceMethod yX6_reachOf, Cond.selects RX6 yX6_reachOf yX6_reachOf]
def wsX8_stand_r5 : List Cond := [Cond.initialized RX6, Cond.code yX6_reachOf cX6_reachOf 2 (some .int), Cond.fieldLink RX6 15 "FeatherHall$Squad" "reaches" "[I", Cond.methodLink RX3 38 yX0_firstMetOf, Cond.methodLink RX3 42 yX0_landingOf, Cond.static yX0_landingOf, Cond.code yX0_landingOf cX0_landingOf 2 (some .int), Cond.methodLink RX3 45 yX0_cellAt, Cond.static yX0_cellAt, Cond.code yX0_cellAt cX0_cellAt 3 (some .int), Cond.constantLong RX0 44 (15), Cond.methodLink RX0 41 yX0_landingOf, Cond.methodLink RX3 49 yX2_far, Cond.static yX2_far, Cond.code yX2_far cX2_far 2 (some .int), Cond.methodLink RX2 13 Lib.Math.abs.name, Cond.methodLink RX2 21 Lib.Math.max.name, Cond.methodLink RX2 7 yX2_rowOf, Cond.methodLink RX2 18 yX2_colOf, Cond.methodLink RX3 60 yX6_comes, Cond.instanceMethod yX6_comes, Cond.selects RX6 yX6_comes yX6_comes, Cond.code yX6_comes cX6_comes 3 (some .int), Cond.fieldLink RX6 21 "FeatherHall$Squad" "strides" "[I"]
def wsX8_stand_r6 : List Cond := [Cond.methodLink RX8 125 yX3_leastSlack]
def wsX8_stand : List Cond := .code yX8_stand cX8_stand 5 (some .int) :: ((wsX8_stand_r1 ++ (wsX8_stand_r2 ++ (wsX8_stand_r3 ++ (wsX8_stand_r4 ++ (wsX8_stand_r5 ++ wsX8_stand_r6))))) ++ wsX80 ++ wsX00 ++ wsX30 ++ wsX60)
def wsX8_wins_r1 : List Cond := [Cond.fieldLink RX8 28 "FeatherHall" "duel" "LFeatherHall$Duel;", Cond.methodLink RX8 102 yX8_isPlayer, Cond.static yX8_isPlayer, Cond.initialized RX8, Cond.code yX8_isPlayer cX8_isPlayer 1 (some .boolean), Cond.methodLink RX8 64 yX8_isWithin, Cond.static yX8_isWithin, Cond.code yX8_isWithin cX8_isWithin 3 (some .boolean), Cond.methodLink RX8 76 yX8_isCell, Cond.static yX8_isCell, Cond.code yX8_isCell cX8_isCell 1 (some .boolean), Cond.methodLink RX8 131 yX3_canForce, Cond.instanceMethod yX3_canForce, Cond.selects RX3 yX3_canForce yX3_canForce, Cond.initialized RX3, Cond.code yX3_canForce cX3_canForce 8 (some .boolean), Cond.fieldLink RX3 18 "FeatherHall$Duel" "air" "LFeatherHall$Air;", Cond.fieldLink RX3 9 "FeatherHall$Duel" "won" "[I", Cond.methodLink RX3 78 yX0_workOutFrom, Cond.instanceMethod yX0_workOutFrom, Cond.selects RX0 yX0_workOutFrom yX0_workOutFrom, Cond.initialized RX0, Cond.code yX0_workOutFrom cX0_workOutFrom 3 none, Cond.methodLink RX0 50 yX0_pathOf]
def wsX8_wins_r2 : List Cond := [Cond.instanceMethod yX0_pathOf, Cond.selects RX0 yX0_pathOf yX0_pathOf, Cond.code yX0_pathOf cX0_pathOf 5 (some .long), Cond.fieldLink RX0 21 "FeatherHall$Air" "paths" "[J", Cond.methodLink RX0 46 yX0_workOut, Cond.instanceMethod yX0_workOut, Cond.selects RX0 yX0_workOut yX0_workOut, Cond.code yX0_workOut cX0_workOut 15 (some .long), Cond.fieldLink RX0 9 "FeatherHall$Air" "speeds" "[I", Cond.methodLink RX0 61 Lib.Math.min.name, Cond.static Lib.Math.min.name, Cond.initialized "java/lang/Math", Cond.code Lib.Math.min.name Lib.Math.min.code 2 (some .int), Cond.fieldLink RX0 18 "FeatherHall$Air" "meets" "[I", Cond.constantLong RX0 73 (16777215), Cond.methodLink RX0 53 yX0_lengthOf, Cond.static yX0_lengthOf, Cond.code yX0_lengthOf cX0_lengthOf 3 (some .int), Cond.methodLink RX0 86 Lib.Math.abs.name, Cond.static Lib.Math.abs.name, Cond.code Lib.Math.abs.name Lib.Math.abs.code 1 (some .int), Cond.methodLink RX0 78 yX2_rowOf, Cond.static yX2_rowOf, Cond.initialized RX2]
def wsX8_wins_r3 : List Cond := [Cond.code yX2_rowOf cX2_rowOf 1 (some .int), Cond.methodLink RX0 83 yX2_colOf, Cond.static yX2_colOf, Cond.code yX2_colOf cX2_colOf 1 (some .int), Cond.methodLink RX0 57 yX0_wholeOf, Cond.instanceMethod yX0_wholeOf, Cond.selects RX0 yX0_wholeOf yX0_wholeOf, Cond.code yX0_wholeOf cX0_wholeOf 2 (some .int), Cond.fieldLink RX0 25 "FeatherHall$Air" "brokenOnes" "I", Cond.methodLink RX0 66 yX0_slowed, Cond.instanceMethod yX0_slowed, Cond.selects RX0 yX0_slowed yX0_slowed, Cond.code yX0_slowed cX0_slowed 3 (some .int), Cond.fieldLink RX0 15 "FeatherHall$Air" "drags" "[I", Cond.methodLink RX0 75 Lib.Math.max.name, Cond.static Lib.Math.max.name, Cond.code Lib.Math.max.name Lib.Math.max.code 2 (some .int), Cond.methodLink RX0 69 yX0_placeAt, Cond.static yX0_placeAt, Cond.code yX0_placeAt cX0_placeAt 7 (some .int), Cond.methodLink RX3 82 yX3_missedFrom, Cond.instanceMethod yX3_missedFrom, Cond.selects RX3 yX3_missedFrom yX3_missedFrom, Cond.code yX3_missedFrom cX3_missedFrom 9 (some .int)]
def wsX8_wins_r4 : List Cond := [Cond.fieldLink RX3 22 "FeatherHall$Duel" "squad" "LFeatherHall$Squad;", Cond.constant RX3 101 (65535), Cond.methodLink RX3 63 yX0_knownPath, Cond.instanceMethod yX0_knownPath, Cond.selects RX0 yX0_knownPath yX0_knownPath, Cond.code yX0_knownPath cX0_knownPath 3 (some .long), Cond.methodLink RX3 26 yX0_isNet, Cond.static yX0_isNet, Cond.code yX0_isNet cX0_isNet 2 (some .boolean), Cond.methodLink RX0 37 yX0_firstMetOf, Cond.static yX0_firstMetOf, Cond.code yX0_firstMetOf cX0_firstMetOf 2 (some .int), Cond.constantLong RX0 35 (63), Cond.methodLink RX3 38 yX0_firstMetOf, Cond.methodLink RX3 42 yX0_landingOf, Cond.static yX0_landingOf, Cond.code yX0_landingOf cX0_landingOf 2 (some .int), Cond.methodLink RX3 45 yX0_cellAt, Cond.static yX0_cellAt, Cond.code yX0_cellAt cX0_cellAt 3 (some .int), Cond.constantLong RX0 44 (15), Cond.methodLink RX0 41 yX0_landingOf, Cond.methodLink RX3 98 yX6_meetingCells, Cond.instanceMethod yX6_meetingCells]
def wsX8_wins_r5 : List Cond := [Cond.selects RX6 yX6_meetingCells yX6_meetingCells, Cond.initialized RX6, Cond.code yX6_meetingCells cX6_meetingCells 4 (some .int), Cond.fieldLink RX6 15 "FeatherHall$Squad" "reaches" "[I", Cond.methodLink RX6 43 yX6_comes, Cond.instanceMethod yX6_comes, Cond.selects RX6 yX6_comes yX6_comes, Cond.code yX6_comes cX6_comes 3 (some .int), Cond.fieldLink RX6 21 "FeatherHall$Squad" "strides" "[I", Cond.methodLink RX6 46 yX2_near, Cond.static yX2_near, Cond.code yX2_near cX2_near 8 (some .int), Cond.constant RX2 25 (65535), Cond.methodLink RX2 21 Lib.Math.max.name, Cond.methodLink RX2 26 Lib.Math.min.name, Cond.methodLink RX2 7 yX2_rowOf, Cond.methodLink RX2 18 yX2_colOf, Cond.methodLink RX3 85 yX2_holds, Cond.static yX2_holds, Cond.code yX2_holds cX2_holds 2 (some .boolean), Cond.methodLink RX3 89 yX3_widenWon, Cond.instanceMethod yX3_widenWon, Cond.selects RX3 yX3_widenWon yX3_widenWon, Cond.code yX3_widenWon cX3_widenWon 6 (some .boolean)]
def wsX8_wins_r6 : List Cond := [Cond.fieldLink RX3 15 "FeatherHall$Duel" "held" "[I", Cond.methodLink RX3 92 yX3_heldAgainst, Cond.instanceMethod yX3_heldAgainst, Cond.selects RX3 yX3_heldAgainst yX3_heldAgainst, Cond.code yX3_heldAgainst cX3_heldAgainst 13 (some .int), Cond.methodLink RX3 60 yX6_comes, Cond.methodLink RX3 102 yX2_near, Cond.methodLink RX3 95 yX3_forcedFrom, Cond.instanceMethod yX3_forcedFrom, Cond.selects RX3 yX3_forcedFrom yX3_forcedFrom, Cond.code yX3_forcedFrom cX3_forcedFrom 12 (some .int)]
def wsX8_wins : List Cond := .code yX8_wins cX8_wins 6 (some .int) :: ((wsX8_wins_r1 ++ (wsX8_wins_r2 ++ (wsX8_wins_r3 ++ (wsX8_wins_r4 ++ (wsX8_wins_r5 ++ wsX8_wins_r6))))) ++ wsX80 ++ wsX30 ++ wsX00 ++ wsX60)
def wsX8_rally : List Cond := .code yX8_rally cX8_rally 2 (some .int) :: ([.fieldLink RX8 35 "FeatherHall" "trio" "LFeatherHall$Trio;", .methodLink RX8 64 yX8_isWithin, .static yX8_isWithin, .initialized RX8, .code yX8_isWithin cX8_isWithin 3 (some .boolean), .methodLink RX8 135 yX7_isOver, .instanceMethod yX7_isOver, .selects RX7 yX7_isOver yX7_isOver, .initialized RX7, .code yX7_isOver cX7_isOver 1 (some .boolean), .fieldLink RX7 11 "FeatherHall$Trio" "scores" "[I", .methodLink RX7 19 yX7_aloneNow, .instanceMethod yX7_aloneNow, .selects RX7 yX7_aloneNow yX7_aloneNow, .code yX7_aloneNow cX7_aloneNow 3 (some .int), .methodLink RX8 139 yX7_tell, .instanceMethod yX7_tell, .selects RX7 yX7_tell yX7_tell, .code yX7_tell cX7_tell 5 (some .int), .fieldLink RX7 15 "FeatherHall$Trio" "server" "I"] ++ wsX80 ++ wsX70)
def wsX8_three : List Cond := .code yX8_three cX8_three 2 (some .int) :: ([.fieldLink RX8 35 "FeatherHall" "trio" "LFeatherHall$Trio;", .methodLink RX8 64 yX8_isWithin, .static yX8_isWithin, .initialized RX8, .code yX8_isWithin cX8_isWithin 3 (some .boolean), .methodLink RX8 142 yX7_read, .instanceMethod yX7_read, .selects RX7 yX7_read yX7_read, .initialized RX7, .code yX7_read cX7_read 2 (some .int), .fieldLink RX7 15 "FeatherHall$Trio" "server" "I", .fieldLink RX7 11 "FeatherHall$Trio" "scores" "[I", .methodLink RX7 19 yX7_aloneNow, .instanceMethod yX7_aloneNow, .selects RX7 yX7_aloneNow yX7_aloneNow, .code yX7_aloneNow cX7_aloneNow 3 (some .int), .methodLink RX7 23 yX7_isOver, .instanceMethod yX7_isOver, .selects RX7 yX7_isOver yX7_isOver, .code yX7_isOver cX7_isOver 1 (some .boolean)] ++ wsX80 ++ wsX70)
def wsX8_again : List Cond := .code yX8_again cX8_again 1 (some .int) :: ([.fieldLink RX8 35 "FeatherHall" "trio" "LFeatherHall$Trio;", .methodLink RX8 145 yX7_restart, .instanceMethod yX7_restart, .selects RX7 yX7_restart yX7_restart, .initialized RX7, .code yX7_restart cX7_restart 3 (some .int), .fieldLink RX7 11 "FeatherHall$Trio" "scores" "[I", .fieldLink RX7 15 "FeatherHall$Trio" "server" "I"] ++ wsX80 ++ wsX70)
def wsX8_note : List Cond := .code yX8_note cX8_note 4 (some .int) :: ([.fieldLink RX8 42 "FeatherHall" "notebook" "LFeatherHall$Notebook;", .methodLink RX8 64 yX8_isWithin, .static yX8_isWithin, .initialized RX8, .code yX8_isWithin cX8_isWithin 3 (some .boolean), .methodLink RX8 149 yX5_add, .instanceMethod yX5_add, .selects RX5 yX5_add yX5_add, .initialized RX5, .code yX5_add cX5_add 5 (some .int), .fieldLink RX5 25 "FeatherHall$Notebook" "notes" "I", .fieldLink RX5 9 "FeatherHall$Notebook" "both" "[I", .fieldLink RX5 15 "FeatherHall$Notebook" "withZone" "[I", .fieldLink RX5 18 "FeatherHall$Notebook" "withKind" "[I", .fieldLink RX5 21 "FeatherHall$Notebook" "withoutGap" "I"] ++ wsX80 ++ wsX50)
def wsX8_isZone : List Cond := .code yX8_isZone cX8_isZone 1 (some .boolean) :: ([.methodLink RX8 64 yX8_isWithin, .static yX8_isWithin, .initialized RX8, .code yX8_isWithin cX8_isWithin 3 (some .boolean)])
def wsX8_tally : List Cond := .code yX8_tally cX8_tally 4 (some .int) :: ([.fieldLink RX8 42 "FeatherHall" "notebook" "LFeatherHall$Notebook;", .methodLink RX8 153 yX8_isZone, .static yX8_isZone, .initialized RX8, .code yX8_isZone cX8_isZone 1 (some .boolean), .methodLink RX8 64 yX8_isWithin, .static yX8_isWithin, .code yX8_isWithin cX8_isWithin 3 (some .boolean), .methodLink RX8 60 yX8_isKind, .static yX8_isKind, .code yX8_isKind cX8_isKind 1 (some .boolean), .methodLink RX8 156 yX5_read, .instanceMethod yX5_read, .selects RX5 yX5_read yX5_read, .initialized RX5, .code yX5_read cX5_read 4 (some .int), .fieldLink RX5 9 "FeatherHall$Notebook" "both" "[I", .fieldLink RX5 15 "FeatherHall$Notebook" "withZone" "[I", .fieldLink RX5 18 "FeatherHall$Notebook" "withKind" "[I", .fieldLink RX5 21 "FeatherHall$Notebook" "withoutGap" "I"] ++ wsX80 ++ wsX50)
def wsX8_habit_r1 : List Cond := [Cond.fieldLink RX8 42 "FeatherHall" "notebook" "LFeatherHall$Notebook;", Cond.methodLink RX8 153 yX8_isZone, Cond.static yX8_isZone, Cond.initialized RX8, Cond.code yX8_isZone cX8_isZone 1 (some .boolean), Cond.methodLink RX8 64 yX8_isWithin, Cond.static yX8_isWithin, Cond.code yX8_isWithin cX8_isWithin 3 (some .boolean), Cond.methodLink RX8 60 yX8_isKind, Cond.static yX8_isKind, Cond.code yX8_isKind cX8_isKind 1 (some .boolean), Cond.methodLink RX8 158 yX5_isPastChance, Cond.instanceMethod yX5_isPastChance, Cond.selects RX5 yX5_isPastChance yX5_isPastChance, Cond.initialized RX5, Cond.code yX5_isPastChance cX5_isPastChance 11 (some .boolean), Cond.fieldLink RX5 15 "FeatherHall$Notebook" "withZone" "[I", Cond.fieldLink RX5 18 "FeatherHall$Notebook" "withKind" "[I", Cond.fieldLink RX5 21 "FeatherHall$Notebook" "withoutGap" "I", Cond.constantLong RX5 40 (20), Cond.methodLink RX5 42 Lib.Math.min.name, Cond.static Lib.Math.min.name, Cond.initialized "java/lang/Math", Cond.code Lib.Math.min.name Lib.Math.min.code 2 (some .int)]
def wsX8_habit_r2 : List Cond := [Cond.fieldLink RX5 9 "FeatherHall$Notebook" "both" "[I", Cond.methodLink RX5 32 yX5_triedHabits, Cond.instanceMethod yX5_triedHabits, Cond.selects RX5 yX5_triedHabits yX5_triedHabits, Cond.code yX5_triedHabits cX5_triedHabits 1 (some .int), Cond.methodLink RX5 28 yX5_aboveZero, Cond.static yX5_aboveZero, Cond.code yX5_aboveZero cX5_aboveZero 6 (some .int), Cond.methodLink RX5 36 yX5_ways, Cond.static yX5_ways, Cond.code yX5_ways cX5_ways 6 (some .long)]
def wsX8_habit : List Cond := .code yX8_habit cX8_habit 3 (some .int) :: ((wsX8_habit_r1 ++ wsX8_habit_r2) ++ wsX80 ++ wsX50)
def wsX8_strongest_r1 : List Cond := [Cond.fieldLink RX8 42 "FeatherHall" "notebook" "LFeatherHall$Notebook;", Cond.methodLink RX8 162 yX5_strongestHabit, Cond.instanceMethod yX5_strongestHabit, Cond.selects RX5 yX5_strongestHabit yX5_strongestHabit, Cond.initialized RX5, Cond.code yX5_strongestHabit cX5_strongestHabit 7 (some .int), Cond.fieldLink RX5 9 "FeatherHall$Notebook" "both" "[I", Cond.fieldLink RX5 15 "FeatherHall$Notebook" "withZone" "[I", Cond.methodLink RX5 48 yX5_isPastChance, Cond.instanceMethod yX5_isPastChance, Cond.selects RX5 yX5_isPastChance yX5_isPastChance, Cond.code yX5_isPastChance cX5_isPastChance 11 (some .boolean), Cond.fieldLink RX5 18 "FeatherHall$Notebook" "withKind" "[I", Cond.fieldLink RX5 21 "FeatherHall$Notebook" "withoutGap" "I", Cond.constantLong RX5 40 (20), Cond.methodLink RX5 42 Lib.Math.min.name, Cond.static Lib.Math.min.name, Cond.initialized "java/lang/Math", Cond.code Lib.Math.min.name Lib.Math.min.code 2 (some .int), Cond.methodLink RX5 32 yX5_triedHabits, Cond.instanceMethod yX5_triedHabits, Cond.selects RX5 yX5_triedHabits yX5_triedHabits, Cond.code yX5_triedHabits cX5_triedHabits 1 (some .int), Cond.methodLink RX5 28 yX5_aboveZero]
def wsX8_strongest_r2 : List Cond := [Cond.static yX5_aboveZero, Cond.code yX5_aboveZero cX5_aboveZero 6 (some .int), Cond.methodLink RX5 36 yX5_ways, Cond.static yX5_ways, Cond.code yX5_ways cX5_ways 6 (some .long)]
def wsX8_strongest : List Cond := .code yX8_strongest cX8_strongest 1 (some .int) :: ((wsX8_strongest_r1 ++ wsX8_strongest_r2) ++ wsX80 ++ wsX50)
def wsX8_cost : List Cond := .code yX8_cost cX8_cost 3 (some .int) :: ([.fieldLink RX8 49 "FeatherHall" "basket" "LFeatherHall$Basket;", .methodLink RX8 64 yX8_isWithin, .static yX8_isWithin, .initialized RX8, .code yX8_isWithin cX8_isWithin 3 (some .boolean), .methodLink RX8 165 yX1_setPrice, .instanceMethod yX1_setPrice, .selects RX1 yX1_setPrice yX1_setPrice, .initialized RX1, .code yX1_setPrice cX1_setPrice 3 (some .int), .fieldLink RX1 25 "FeatherHall$Basket" "price" "I", .methodLink RX8 168 yX1_setLoss, .instanceMethod yX1_setLoss, .selects RX1 yX1_setLoss yX1_setLoss, .code yX1_setLoss cX1_setLoss 3 (some .int), .fieldLink RX1 28 "FeatherHall$Basket" "loss" "I"] ++ wsX80 ++ wsX10)
def wsX8_wear : List Cond := .code yX8_wear cX8_wear 3 (some .int) :: ([.fieldLink RX8 49 "FeatherHall" "basket" "LFeatherHall$Basket;", .methodLink RX8 60 yX8_isKind, .static yX8_isKind, .initialized RX8, .code yX8_isKind cX8_isKind 1 (some .boolean), .methodLink RX8 64 yX8_isWithin, .static yX8_isWithin, .code yX8_isWithin cX8_isWithin 3 (some .boolean), .methodLink RX8 171 yX1_setWear, .instanceMethod yX1_setWear, .selects RX1 yX1_setWear yX1_setWear, .initialized RX1, .code yX1_setWear cX1_setWear 4 (some .int), .fieldLink RX1 9 "FeatherHall$Basket" "wears" "[I"] ++ wsX80 ++ wsX10)
def wsX8_plan : List Cond := .code yX8_plan cX8_plan 2 (some .int) :: ([.fieldLink RX8 49 "FeatherHall" "basket" "LFeatherHall$Basket;", .methodLink RX8 60 yX8_isKind, .static yX8_isKind, .initialized RX8, .code yX8_isKind cX8_isKind 1 (some .boolean), .methodLink RX8 64 yX8_isWithin, .static yX8_isWithin, .code yX8_isWithin cX8_isWithin 3 (some .boolean), .methodLink RX8 174 yX1_add, .instanceMethod yX1_add, .selects RX1 yX1_add yX1_add, .initialized RX1, .code yX1_add cX1_add 2 (some .int), .fieldLink RX1 21 "FeatherHall$Basket" "length" "I", .fieldLink RX1 15 "FeatherHall$Basket" "planned" "[I"] ++ wsX80 ++ wsX10)
def wsX8_unplan : List Cond := .code yX8_unplan cX8_unplan 1 (some .int) :: ([.fieldLink RX8 49 "FeatherHall" "basket" "LFeatherHall$Basket;", .methodLink RX8 176 yX1_clear, .instanceMethod yX1_clear, .selects RX1 yX1_clear yX1_clear, .initialized RX1, .code yX1_clear cX1_clear 2 (some .int), .fieldLink RX1 21 "FeatherHall$Basket" "length" "I"] ++ wsX80 ++ wsX10)
def wsX8_costs_r1 : List Cond := [Cond.fieldLink RX8 49 "FeatherHall" "basket" "LFeatherHall$Basket;", Cond.methodLink RX8 64 yX8_isWithin, Cond.static yX8_isWithin, Cond.initialized RX8, Cond.code yX8_isWithin cX8_isWithin 3 (some .boolean), Cond.methodLink RX8 179 yX1_isEmpty, Cond.instanceMethod yX1_isEmpty, Cond.selects RX1 yX1_isEmpty yX1_isEmpty, Cond.initialized RX1, Cond.code yX1_isEmpty cX1_isEmpty 1 (some .boolean), Cond.fieldLink RX1 21 "FeatherHall$Basket" "length" "I", Cond.methodLink RX8 182 yX1_wholeCost, Cond.instanceMethod yX1_wholeCost, Cond.selects RX1 yX1_wholeCost yX1_wholeCost, Cond.code yX1_wholeCost cX1_wholeCost 2 (some .int), Cond.fieldLink RX1 18 "FeatherHall$Basket" "sums" "[I", Cond.methodLink RX1 31 yX1_addUp, Cond.instanceMethod yX1_addUp, Cond.selects RX1 yX1_addUp yX1_addUp, Cond.code yX1_addUp cX1_addUp 5 none, Cond.fieldLink RX1 25 "FeatherHall$Basket" "price" "I", Cond.fieldLink RX1 28 "FeatherHall$Basket" "loss" "I", Cond.methodLink RX1 35 Lib.Math.min.name, Cond.static Lib.Math.min.name]
def wsX8_costs_r2 : List Cond := [Cond.initialized "java/lang/Math", Cond.code Lib.Math.min.name Lib.Math.min.code 2 (some .int), Cond.fieldLink RX1 9 "FeatherHall$Basket" "wears" "[I", Cond.fieldLink RX1 15 "FeatherHall$Basket" "planned" "[I"]
def wsX8_costs : List Cond := .code yX8_costs cX8_costs 2 (some .int) :: ((wsX8_costs_r1 ++ wsX8_costs_r2) ++ wsX80 ++ wsX10)
def wsX8_change : List Cond := .code yX8_change cX8_change 1 (some .int) :: ([.fieldLink RX8 49 "FeatherHall" "basket" "LFeatherHall$Basket;", .methodLink RX8 179 yX1_isEmpty, .instanceMethod yX1_isEmpty, .selects RX1 yX1_isEmpty yX1_isEmpty, .initialized RX1, .code yX1_isEmpty cX1_isEmpty 1 (some .boolean), .fieldLink RX1 21 "FeatherHall$Basket" "length" "I", .methodLink RX8 185 yX1_bestChange, .instanceMethod yX1_bestChange, .selects RX1 yX1_bestChange yX1_bestChange, .code yX1_bestChange cX1_bestChange 3 (some .int), .fieldLink RX1 18 "FeatherHall$Basket" "sums" "[I", .methodLink RX1 31 yX1_addUp, .instanceMethod yX1_addUp, .selects RX1 yX1_addUp yX1_addUp, .code yX1_addUp cX1_addUp 5 none, .fieldLink RX1 25 "FeatherHall$Basket" "price" "I", .fieldLink RX1 28 "FeatherHall$Basket" "loss" "I", .methodLink RX1 35 Lib.Math.min.name, .static Lib.Math.min.name, .initialized "java/lang/Math", .code Lib.Math.min.name Lib.Math.min.code 2 (some .int), .fieldLink RX1 9 "FeatherHall$Basket" "wears" "[I", .fieldLink RX1 15 "FeatherHall$Basket" "planned" "[I"] ++ wsX80 ++ wsX10)
def wsX8_courts : List Cond := .code yX8_courts cX8_courts 2 (some .int) :: ([.fieldLink RX8 56 "FeatherHall" "evening" "LFeatherHall$Evening;", .methodLink RX8 64 yX8_isWithin, .static yX8_isWithin, .initialized RX8, .code yX8_isWithin cX8_isWithin 3 (some .boolean), .methodLink RX8 188 yX4_setCourts, .instanceMethod yX4_setCourts, .selects RX4 yX4_setCourts yX4_setCourts, .initialized RX4, .code yX4_setCourts cX4_setCourts 3 (some .int), .fieldLink RX4 31 "FeatherHall$Evening" "courtsNow" "I", .fieldLink RX4 41 "FeatherHall$Evening" "isSought" "Z"] ++ wsX80 ++ wsX40)
def wsX8_come : List Cond := .code yX8_come cX8_come 3 (some .int) :: ([.fieldLink RX8 56 "FeatherHall" "evening" "LFeatherHall$Evening;", .methodLink RX8 102 yX8_isPlayer, .static yX8_isPlayer, .initialized RX8, .code yX8_isPlayer cX8_isPlayer 1 (some .boolean), .methodLink RX8 64 yX8_isWithin, .static yX8_isWithin, .code yX8_isWithin cX8_isWithin 3 (some .boolean), .methodLink RX8 191 yX4_isThere, .instanceMethod yX4_isThere, .selects RX4 yX4_isThere yX4_isThere, .initialized RX4, .code yX4_isThere cX4_isThere 2 (some .boolean), .fieldLink RX4 9 "FeatherHall$Evening" "there" "[Z", .methodLink RX8 194 yX4_enter, .instanceMethod yX4_enter, .selects RX4 yX4_enter yX4_enter, .code yX4_enter cX4_enter 3 (some .int), .fieldLink RX4 15 "FeatherHall$Evening" "grades" "[I", .fieldLink RX4 19 "FeatherHall$Evening" "waited" "[I", .fieldLink RX4 35 "FeatherHall$Evening" "present" "I", .fieldLink RX4 41 "FeatherHall$Evening" "isSought" "Z"] ++ wsX80 ++ wsX40)
def wsX8_leave : List Cond := .code yX8_leave cX8_leave 2 (some .int) :: ([.fieldLink RX8 56 "FeatherHall" "evening" "LFeatherHall$Evening;", .methodLink RX8 102 yX8_isPlayer, .static yX8_isPlayer, .initialized RX8, .code yX8_isPlayer cX8_isPlayer 1 (some .boolean), .methodLink RX8 64 yX8_isWithin, .static yX8_isWithin, .code yX8_isWithin cX8_isWithin 3 (some .boolean), .methodLink RX8 191 yX4_isThere, .instanceMethod yX4_isThere, .selects RX4 yX4_isThere yX4_isThere, .initialized RX4, .code yX4_isThere cX4_isThere 2 (some .boolean), .fieldLink RX4 9 "FeatherHall$Evening" "there" "[Z", .methodLink RX8 197 yX4_exit, .instanceMethod yX4_exit, .selects RX4 yX4_exit yX4_exit, .code yX4_exit cX4_exit 2 (some .int), .fieldLink RX4 35 "FeatherHall$Evening" "present" "I", .fieldLink RX4 41 "FeatherHall$Evening" "isSought" "Z"] ++ wsX80 ++ wsX40)
def wsX8_against_r1 : List Cond := [Cond.fieldLink RX8 56 "FeatherHall" "evening" "LFeatherHall$Evening;", Cond.methodLink RX8 102 yX8_isPlayer, Cond.static yX8_isPlayer, Cond.initialized RX8, Cond.code yX8_isPlayer cX8_isPlayer 1 (some .boolean), Cond.methodLink RX8 64 yX8_isWithin, Cond.static yX8_isWithin, Cond.code yX8_isWithin cX8_isWithin 3 (some .boolean), Cond.methodLink RX8 200 yX4_mateOf, Cond.instanceMethod yX4_mateOf, Cond.selects RX4 yX4_mateOf yX4_mateOf, Cond.initialized RX4, Cond.code yX4_mateOf cX4_mateOf 2 (some .int), Cond.fieldLink RX4 28 "FeatherHall$Evening" "bestMates" "[I", Cond.methodLink RX4 57 yX4_seek, Cond.instanceMethod yX4_seek, Cond.selects RX4 yX4_seek yX4_seek, Cond.code yX4_seek cX4_seek 1 none, Cond.fieldLink RX4 41 "FeatherHall$Evening" "isSought" "Z", Cond.fieldLink RX4 45 "FeatherHall$Evening" "isFound" "Z", Cond.fieldLink RX4 25 "FeatherHall$Evening" "mates" "[I", Cond.methodLink RX4 70 yJ7_fill_53178, Cond.static yJ7_fill_53178, Cond.initialized RJ7]
def wsX8_against_r2 : List Cond := [Cond.code yJ7_fill_53178 cJ7_fill_53178 4 none, Cond.methodLink RX4 60 yX4_gamesAtOnce, Cond.instanceMethod yX4_gamesAtOnce, Cond.selects RX4 yX4_gamesAtOnce yX4_gamesAtOnce, Cond.code yX4_gamesAtOnce cX4_gamesAtOnce 1 (some .int), Cond.fieldLink RX4 31 "FeatherHall$Evening" "courtsNow" "I", Cond.fieldLink RX4 35 "FeatherHall$Evening" "present" "I", Cond.methodLink RX4 64 Lib.Math.min.name, Cond.static Lib.Math.min.name, Cond.initialized "java/lang/Math", Cond.code Lib.Math.min.name Lib.Math.min.code 2 (some .int), Cond.methodLink RX4 76 yX4_pairFrom, Cond.instanceMethod yX4_pairFrom, Cond.selects RX4 yX4_pairFrom yX4_pairFrom, Cond.code yX4_pairFrom cX4_pairFrom 7 none, Cond.fieldLink RX4 19 "FeatherHall$Evening" "waited" "[I", Cond.fieldLink RX4 22 "FeatherHall$Evening" "games" "[I", Cond.fieldLink RX4 15 "FeatherHall$Evening" "grades" "[I", Cond.methodLink RX4 88 Lib.Math.abs.name, Cond.static Lib.Math.abs.name, Cond.code Lib.Math.abs.name Lib.Math.abs.code 1 (some .int), Cond.methodLink RX4 80 yX4_keepIfBetter, Cond.instanceMethod yX4_keepIfBetter, Cond.selects RX4 yX4_keepIfBetter yX4_keepIfBetter]
def wsX8_against_r3 : List Cond := [Cond.code yX4_keepIfBetter cX4_keepIfBetter 4 none, Cond.fieldLink RX4 48 "FeatherHall$Evening" "bestWaited" "I", Cond.fieldLink RX4 51 "FeatherHall$Evening" "bestBefore" "I", Cond.fieldLink RX4 54 "FeatherHall$Evening" "bestUneven" "I", Cond.methodLink RX4 96 arraycopyName, Cond.native arraycopyName, Cond.static arraycopyName, Cond.initialized "java/lang/System", Cond.methodLink RX4 92 yX4_isBetter, Cond.instanceMethod yX4_isBetter, Cond.selects RX4 yX4_isBetter yX4_isBetter, Cond.code yX4_isBetter cX4_isBetter 4 (some .boolean), Cond.methodLink RX4 84 yX4_isFree, Cond.instanceMethod yX4_isFree, Cond.selects RX4 yX4_isFree yX4_isFree, Cond.code yX4_isFree cX4_isFree 2 (some .boolean), Cond.fieldLink RX4 9 "FeatherHall$Evening" "there" "[Z"]
def wsX8_against : List Cond := .code yX8_against cX8_against 2 (some .int) :: ((wsX8_against_r1 ++ (wsX8_against_r2 ++ wsX8_against_r3)) ++ wsX80 ++ wsX40)
def wsX8_round_r1 : List Cond := [Cond.fieldLink RX8 56 "FeatherHall" "evening" "LFeatherHall$Evening;", Cond.methodLink RX8 64 yX8_isWithin, Cond.static yX8_isWithin, Cond.initialized RX8, Cond.code yX8_isWithin cX8_isWithin 3 (some .boolean), Cond.methodLink RX8 203 yX4_readRound, Cond.instanceMethod yX4_readRound, Cond.selects RX4 yX4_readRound yX4_readRound, Cond.initialized RX4, Cond.code yX4_readRound cX4_readRound 2 (some .int), Cond.fieldLink RX4 48 "FeatherHall$Evening" "bestWaited" "I", Cond.fieldLink RX4 51 "FeatherHall$Evening" "bestBefore" "I", Cond.fieldLink RX4 54 "FeatherHall$Evening" "bestUneven" "I", Cond.methodLink RX4 57 yX4_seek, Cond.instanceMethod yX4_seek, Cond.selects RX4 yX4_seek yX4_seek, Cond.code yX4_seek cX4_seek 1 none, Cond.fieldLink RX4 41 "FeatherHall$Evening" "isSought" "Z", Cond.fieldLink RX4 45 "FeatherHall$Evening" "isFound" "Z", Cond.fieldLink RX4 25 "FeatherHall$Evening" "mates" "[I", Cond.methodLink RX4 70 yJ7_fill_53178, Cond.static yJ7_fill_53178, Cond.initialized RJ7, Cond.code yJ7_fill_53178 cJ7_fill_53178 4 none]
def wsX8_round_r2 : List Cond := [Cond.methodLink RX4 60 yX4_gamesAtOnce, Cond.instanceMethod yX4_gamesAtOnce, Cond.selects RX4 yX4_gamesAtOnce yX4_gamesAtOnce, Cond.code yX4_gamesAtOnce cX4_gamesAtOnce 1 (some .int), Cond.fieldLink RX4 31 "FeatherHall$Evening" "courtsNow" "I", Cond.fieldLink RX4 35 "FeatherHall$Evening" "present" "I", Cond.methodLink RX4 64 Lib.Math.min.name, Cond.static Lib.Math.min.name, Cond.initialized "java/lang/Math", Cond.code Lib.Math.min.name Lib.Math.min.code 2 (some .int), Cond.methodLink RX4 76 yX4_pairFrom, Cond.instanceMethod yX4_pairFrom, Cond.selects RX4 yX4_pairFrom yX4_pairFrom, Cond.code yX4_pairFrom cX4_pairFrom 7 none, Cond.fieldLink RX4 19 "FeatherHall$Evening" "waited" "[I", Cond.fieldLink RX4 22 "FeatherHall$Evening" "games" "[I", Cond.fieldLink RX4 15 "FeatherHall$Evening" "grades" "[I", Cond.methodLink RX4 88 Lib.Math.abs.name, Cond.static Lib.Math.abs.name, Cond.code Lib.Math.abs.name Lib.Math.abs.code 1 (some .int), Cond.methodLink RX4 80 yX4_keepIfBetter, Cond.instanceMethod yX4_keepIfBetter, Cond.selects RX4 yX4_keepIfBetter yX4_keepIfBetter, Cond.code yX4_keepIfBetter cX4_keepIfBetter 4 none]
def wsX8_round_r3 : List Cond := [Cond.fieldLink RX4 28 "FeatherHall$Evening" "bestMates" "[I", Cond.methodLink RX4 96 arraycopyName, Cond.native arraycopyName, Cond.static arraycopyName, Cond.initialized "java/lang/System", Cond.methodLink RX4 92 yX4_isBetter, Cond.instanceMethod yX4_isBetter, Cond.selects RX4 yX4_isBetter yX4_isBetter, Cond.code yX4_isBetter cX4_isBetter 4 (some .boolean), Cond.methodLink RX4 84 yX4_isFree, Cond.instanceMethod yX4_isFree, Cond.selects RX4 yX4_isFree yX4_isFree, Cond.code yX4_isFree cX4_isFree 2 (some .boolean), Cond.fieldLink RX4 9 "FeatherHall$Evening" "there" "[Z"]
def wsX8_round : List Cond := .code yX8_round cX8_round 2 (some .int) :: ((wsX8_round_r1 ++ (wsX8_round_r2 ++ wsX8_round_r3)) ++ wsX80 ++ wsX40)
def wsX8_played_r1 : List Cond := [Cond.fieldLink RX8 56 "FeatherHall" "evening" "LFeatherHall$Evening;", Cond.methodLink RX8 206 yX4_playRound, Cond.instanceMethod yX4_playRound, Cond.selects RX4 yX4_playRound yX4_playRound, Cond.initialized RX4, Cond.code yX4_playRound cX4_playRound 3 (some .int), Cond.fieldLink RX4 28 "FeatherHall$Evening" "bestMates" "[I", Cond.fieldLink RX4 19 "FeatherHall$Evening" "waited" "[I", Cond.fieldLink RX4 22 "FeatherHall$Evening" "games" "[I", Cond.fieldLink RX4 9 "FeatherHall$Evening" "there" "[Z", Cond.fieldLink RX4 38 "FeatherHall$Evening" "rounds" "I", Cond.fieldLink RX4 41 "FeatherHall$Evening" "isSought" "Z", Cond.methodLink RX4 57 yX4_seek, Cond.instanceMethod yX4_seek, Cond.selects RX4 yX4_seek yX4_seek, Cond.code yX4_seek cX4_seek 1 none, Cond.fieldLink RX4 45 "FeatherHall$Evening" "isFound" "Z", Cond.fieldLink RX4 25 "FeatherHall$Evening" "mates" "[I", Cond.methodLink RX4 70 yJ7_fill_53178, Cond.static yJ7_fill_53178, Cond.initialized RJ7, Cond.code yJ7_fill_53178 cJ7_fill_53178 4 none, Cond.methodLink RX4 60 yX4_gamesAtOnce, Cond.instanceMethod yX4_gamesAtOnce]
def wsX8_played_r2 : List Cond := [Cond.selects RX4 yX4_gamesAtOnce yX4_gamesAtOnce, Cond.code yX4_gamesAtOnce cX4_gamesAtOnce 1 (some .int), Cond.fieldLink RX4 31 "FeatherHall$Evening" "courtsNow" "I", Cond.fieldLink RX4 35 "FeatherHall$Evening" "present" "I", Cond.methodLink RX4 64 Lib.Math.min.name, Cond.static Lib.Math.min.name, Cond.initialized "java/lang/Math", Cond.code Lib.Math.min.name Lib.Math.min.code 2 (some .int), Cond.methodLink RX4 76 yX4_pairFrom, Cond.instanceMethod yX4_pairFrom, Cond.selects RX4 yX4_pairFrom yX4_pairFrom, Cond.code yX4_pairFrom cX4_pairFrom 7 none, Cond.fieldLink RX4 15 "FeatherHall$Evening" "grades" "[I", Cond.methodLink RX4 88 Lib.Math.abs.name, Cond.static Lib.Math.abs.name, Cond.code Lib.Math.abs.name Lib.Math.abs.code 1 (some .int), Cond.methodLink RX4 80 yX4_keepIfBetter, Cond.instanceMethod yX4_keepIfBetter, Cond.selects RX4 yX4_keepIfBetter yX4_keepIfBetter, Cond.code yX4_keepIfBetter cX4_keepIfBetter 4 none, Cond.fieldLink RX4 48 "FeatherHall$Evening" "bestWaited" "I", Cond.fieldLink RX4 51 "FeatherHall$Evening" "bestBefore" "I", Cond.fieldLink RX4 54 "FeatherHall$Evening" "bestUneven" "I", Cond.methodLink RX4 96 arraycopyName]
def wsX8_played_r3 : List Cond := [Cond.native arraycopyName, Cond.static arraycopyName, Cond.initialized "java/lang/System", Cond.methodLink RX4 92 yX4_isBetter, Cond.instanceMethod yX4_isBetter, Cond.selects RX4 yX4_isBetter yX4_isBetter, Cond.code yX4_isBetter cX4_isBetter 4 (some .boolean), Cond.methodLink RX4 84 yX4_isFree, Cond.instanceMethod yX4_isFree, Cond.selects RX4 yX4_isFree yX4_isFree, Cond.code yX4_isFree cX4_isFree 2 (some .boolean)]
def wsX8_played : List Cond := .code yX8_played cX8_played 1 (some .int) :: ((wsX8_played_r1 ++ (wsX8_played_r2 ++ wsX8_played_r3)) ++ wsX80 ++ wsX40)
def wsX8_had : List Cond := .code yX8_had cX8_had 3 (some .int) :: ([.fieldLink RX8 56 "FeatherHall" "evening" "LFeatherHall$Evening;", .methodLink RX8 102 yX8_isPlayer, .static yX8_isPlayer, .initialized RX8, .code yX8_isPlayer cX8_isPlayer 1 (some .boolean), .methodLink RX8 64 yX8_isWithin, .static yX8_isWithin, .code yX8_isWithin cX8_isWithin 3 (some .boolean), .methodLink RX8 209 yX4_gamesOfBoth, .instanceMethod yX4_gamesOfBoth, .selects RX4 yX4_gamesOfBoth yX4_gamesOfBoth, .initialized RX4, .code yX4_gamesOfBoth cX4_gamesOfBoth 3 (some .int), .fieldLink RX4 22 "FeatherHall$Evening" "games" "[I"] ++ wsX80 ++ wsX40)
def wsX8_of_r1 : List Cond := [Cond.fieldLink RX8 19 "FeatherHall" "squad" "LFeatherHall$Squad;", Cond.fieldLink RX8 56 "FeatherHall" "evening" "LFeatherHall$Evening;", Cond.methodLink RX8 102 yX8_isPlayer, Cond.static yX8_isPlayer, Cond.initialized RX8, Cond.code yX8_isPlayer cX8_isPlayer 1 (some .boolean), Cond.methodLink RX8 64 yX8_isWithin, Cond.static yX8_isWithin, Cond.code yX8_isWithin cX8_isWithin 3 (some .boolean), Cond.methodLink RX8 212 yX6_strideOf, Cond.instanceMethod yX6_strideOf, Cond.selects RX6 yX6_strideOf yX6_strideOf, Cond.initialized RX6, Cond.code yX6_strideOf cX6_strideOf 2 (some .int), Cond.fieldLink RX6 21 "FeatherHall$Squad" "strides" "[I", Cond.methodLink RX8 215 yX6_tiredOf, Cond.instanceMethod yX6_tiredOf, Cond.selects RX6 yX6_tiredOf yX6_tiredOf, Cond.code yX6_tiredOf cX6_tiredOf 2 (some .int), Cond.fieldLink RX6 18 "FeatherHall$Squad" "tireds" "[I", Cond.methodLink RX8 218 yX4_waitedOf, Cond.instanceMethod yX4_waitedOf, Cond.selects RX4 yX4_waitedOf yX4_waitedOf, Cond.initialized RX4]
def wsX8_of_r2 : List Cond := [Cond.code yX4_waitedOf cX4_waitedOf 2 (some .int), Cond.fieldLink RX4 9 "FeatherHall$Evening" "there" "[Z", Cond.fieldLink RX4 19 "FeatherHall$Evening" "waited" "[I", Cond.methodLink RX8 221 yX4_gradeOf, Cond.instanceMethod yX4_gradeOf, Cond.selects RX4 yX4_gradeOf yX4_gradeOf, Cond.code yX4_gradeOf cX4_gradeOf 2 (some .int), Cond.fieldLink RX4 15 "FeatherHall$Evening" "grades" "[I", Cond.methodLink RX8 224 yX4_gamesOf, Cond.instanceMethod yX4_gamesOf, Cond.selects RX4 yX4_gamesOf yX4_gamesOf, Cond.code yX4_gamesOf cX4_gamesOf 4 (some .int), Cond.fieldLink RX4 22 "FeatherHall$Evening" "games" "[I"]
def wsX8_of : List Cond := .code yX8_of cX8_of 3 (some .int) :: ((wsX8_of_r1 ++ wsX8_of_r2) ++ wsX80 ++ wsX60 ++ wsX40)
def wsX8_count_r1 : List Cond := [Cond.fieldLink RX8 42 "FeatherHall" "notebook" "LFeatherHall$Notebook;", Cond.fieldLink RX8 56 "FeatherHall" "evening" "LFeatherHall$Evening;", Cond.fieldLink RX8 49 "FeatherHall" "basket" "LFeatherHall$Basket;", Cond.methodLink RX8 227 yX5_size, Cond.instanceMethod yX5_size, Cond.selects RX5 yX5_size yX5_size, Cond.initialized RX5, Cond.code yX5_size cX5_size 1 (some .int), Cond.fieldLink RX5 25 "FeatherHall$Notebook" "notes" "I", Cond.methodLink RX8 230 yX5_triedHabits, Cond.instanceMethod yX5_triedHabits, Cond.selects RX5 yX5_triedHabits yX5_triedHabits, Cond.code yX5_triedHabits cX5_triedHabits 1 (some .int), Cond.fieldLink RX5 15 "FeatherHall$Notebook" "withZone" "[I", Cond.fieldLink RX5 18 "FeatherHall$Notebook" "withKind" "[I", Cond.methodLink RX5 28 yX5_aboveZero, Cond.static yX5_aboveZero, Cond.code yX5_aboveZero cX5_aboveZero 6 (some .int), Cond.methodLink RX8 233 yX4_thereNow, Cond.instanceMethod yX4_thereNow, Cond.selects RX4 yX4_thereNow yX4_thereNow, Cond.initialized RX4, Cond.code yX4_thereNow cX4_thereNow 1 (some .int), Cond.fieldLink RX4 35 "FeatherHall$Evening" "present" "I"]
def wsX8_count_r2 : List Cond := [Cond.methodLink RX8 236 yX4_roundsPlayed, Cond.instanceMethod yX4_roundsPlayed, Cond.selects RX4 yX4_roundsPlayed yX4_roundsPlayed, Cond.code yX4_roundsPlayed cX4_roundsPlayed 1 (some .int), Cond.fieldLink RX4 38 "FeatherHall$Evening" "rounds" "I", Cond.methodLink RX8 239 yX1_size, Cond.instanceMethod yX1_size, Cond.selects RX1 yX1_size yX1_size, Cond.initialized RX1, Cond.code yX1_size cX1_size 1 (some .int), Cond.fieldLink RX1 21 "FeatherHall$Basket" "length" "I"]
def wsX8_count : List Cond := .code yX8_count cX8_count 2 (some .int) :: ((wsX8_count_r1 ++ wsX8_count_r2) ++ wsX80 ++ wsX50 ++ wsX40 ++ wsX10)
def wsX9_init_r1 : List Cond := [Cond.methodLink RX9 1 objectInit, Cond.instanceMethod objectInit, Cond.code objectInit ⟨#[0xb1]⟩ 1 none, Cond.arrayClass .int, Cond.fieldLink RX9 7 "FeatherHallModel" "speed" "[I", Cond.fieldLink RX9 13 "FeatherHallModel" "drag" "[I", Cond.fieldLink RX9 16 "FeatherHallModel" "meet" "[I", Cond.fieldLink RX9 19 "FeatherHallModel" "pace" "[I", Cond.fieldLink RX9 22 "FeatherHallModel" "reach" "[I", Cond.fieldLink RX9 25 "FeatherHallModel" "tired" "[I", Cond.fieldLink RX9 28 "FeatherHallModel" "overCell" "[I", Cond.fieldLink RX9 31 "FeatherHallModel" "meetsP" "[I", Cond.fieldLink RX9 34 "FeatherHallModel" "meetsQ" "[I", Cond.arrayClass .boolean, Cond.fieldLink RX9 37 "FeatherHallModel" "wins" "[Z", Cond.fieldLink RX9 41 "FeatherHallModel" "winsNext" "[Z", Cond.fieldLink RX9 44 "FeatherHallModel" "holds" "[Z", Cond.fieldLink RX9 47 "FeatherHallModel" "scores" "[I", Cond.fieldLink RX9 50 "FeatherHallModel" "noteZone" "[I", Cond.fieldLink RX9 53 "FeatherHallModel" "noteKind" "[I", Cond.arrayClass .long, Cond.fieldLink RX9 56 "FeatherHallModel" "ways" "[J", Cond.fieldLink RX9 60 "FeatherHallModel" "price" "I", Cond.fieldLink RX9 64 "FeatherHallModel" "loss" "I"]
def wsX9_init_r2 : List Cond := [Cond.fieldLink RX9 67 "FeatherHallModel" "wear" "[I", Cond.fieldLink RX9 70 "FeatherHallModel" "plan" "[I", Cond.fieldLink RX9 73 "FeatherHallModel" "courts" "I", Cond.fieldLink RX9 76 "FeatherHallModel" "isThere" "[Z", Cond.fieldLink RX9 79 "FeatherHallModel" "grade" "[I", Cond.fieldLink RX9 82 "FeatherHallModel" "waited" "[I", Cond.fieldLink RX9 85 "FeatherHallModel" "had" "[I", Cond.fieldLink RX9 88 "FeatherHallModel" "option" "[I", Cond.fieldLink RX9 91 "FeatherHallModel" "mate" "[I", Cond.fieldLink RX9 94 "FeatherHallModel" "best" "[I"]
def wsX9_init : List Cond := .code yX9_init cX9_init 2 none :: ((wsX9_init_r1 ++ wsX9_init_r2) ++ wsX90)
def wsX9_in : List Cond := .code yX9_in cX9_in 3 (some .boolean) :: ([])
def wsX9_isCell : List Cond := .code yX9_isCell cX9_isCell 1 (some .boolean) :: ([.methodLink RX9 97 yX9_in, .static yX9_in, .initialized RX9, .code yX9_in cX9_in 3 (some .boolean)])
def wsX9_isKind : List Cond := .code yX9_isKind cX9_isKind 1 (some .boolean) :: ([.methodLink RX9 97 yX9_in, .static yX9_in, .initialized RX9, .code yX9_in cX9_in 3 (some .boolean)])
def wsX9_isPlayer : List Cond := .code yX9_isPlayer cX9_isPlayer 1 (some .boolean) :: ([.methodLink RX9 97 yX9_in, .static yX9_in, .initialized RX9, .code yX9_in cX9_in 3 (some .boolean)])
def wsX9_size : List Cond := .code yX9_size cX9_size 1 (some .int) :: ([])
def wsX9_far : List Cond := .code yX9_far cX9_far 4 (some .int) :: ([.methodLink RX9 101 yX9_size, .static yX9_size, .initialized RX9, .code yX9_size cX9_size 1 (some .int)])
def wsX9_kind : List Cond := .code yX9_kind cX9_kind 5 (some .int) :: ([.fieldLink RX9 7 "FeatherHallModel" "speed" "[I", .fieldLink RX9 13 "FeatherHallModel" "drag" "[I", .fieldLink RX9 16 "FeatherHallModel" "meet" "[I", .methodLink RX9 105 yX9_isKind, .static yX9_isKind, .initialized RX9, .code yX9_isKind cX9_isKind 1 (some .boolean), .methodLink RX9 97 yX9_in, .static yX9_in, .code yX9_in cX9_in 3 (some .boolean)] ++ wsX90)
def wsX9_broken : List Cond := .code yX9_broken cX9_broken 3 (some .int) :: ([.fieldLink RX9 109 "FeatherHallModel" "broken" "I", .methodLink RX9 97 yX9_in, .static yX9_in, .initialized RX9, .code yX9_in cX9_in 3 (some .boolean)] ++ wsX90)
def wsX9_fly : List Cond := .code yX9_fly cX9_fly 11 none :: ([.fieldLink RX9 109 "FeatherHallModel" "broken" "I", .fieldLink RX9 7 "FeatherHallModel" "speed" "[I", .fieldLink RX9 112 "FeatherHallModel" "lands" "I", .fieldLink RX9 13 "FeatherHallModel" "drag" "[I", .fieldLink RX9 28 "FeatherHallModel" "overCell" "[I", .methodLink RX9 101 yX9_size, .static yX9_size, .initialized RX9, .code yX9_size cX9_size 1 (some .int)] ++ wsX90)
def wsX9_firstMet : List Cond := .code yX9_firstMet cX9_firstMet 3 (some .int) :: ([.fieldLink RX9 112 "FeatherHallModel" "lands" "I", .fieldLink RX9 16 "FeatherHallModel" "meet" "[I", .fieldLink RX9 28 "FeatherHallModel" "overCell" "[I"] ++ wsX90)
def wsX9_flight_r1 : List Cond := [Cond.fieldLink RX9 112 "FeatherHallModel" "lands" "I", Cond.fieldLink RX9 28 "FeatherHallModel" "overCell" "[I", Cond.methodLink RX9 105 yX9_isKind, Cond.static yX9_isKind, Cond.initialized RX9, Cond.code yX9_isKind cX9_isKind 1 (some .boolean), Cond.methodLink RX9 97 yX9_in, Cond.static yX9_in, Cond.code yX9_in cX9_in 3 (some .boolean), Cond.methodLink RX9 115 yX9_isCell, Cond.static yX9_isCell, Cond.code yX9_isCell cX9_isCell 1 (some .boolean), Cond.methodLink RX9 118 yX9_fly, Cond.instanceMethod yX9_fly, Cond.selects RX9 yX9_fly yX9_fly, Cond.code yX9_fly cX9_fly 11 none, Cond.fieldLink RX9 109 "FeatherHallModel" "broken" "I", Cond.fieldLink RX9 7 "FeatherHallModel" "speed" "[I", Cond.fieldLink RX9 13 "FeatherHallModel" "drag" "[I", Cond.methodLink RX9 101 yX9_size, Cond.static yX9_size, Cond.code yX9_size cX9_size 1 (some .int), Cond.methodLink RX9 122 yX9_firstMet, Cond.instanceMethod yX9_firstMet]
def wsX9_flight_r2 : List Cond := [Cond.selects RX9 yX9_firstMet yX9_firstMet, Cond.code yX9_firstMet cX9_firstMet 3 (some .int), Cond.fieldLink RX9 16 "FeatherHallModel" "meet" "[I"]
def wsX9_flight : List Cond := .code yX9_flight cX9_flight 5 (some .int) :: ((wsX9_flight_r1 ++ wsX9_flight_r2) ++ wsX90)
def wsX9_over : List Cond := .code yX9_over cX9_over 5 (some .int) :: ([.fieldLink RX9 28 "FeatherHallModel" "overCell" "[I", .fieldLink RX9 112 "FeatherHallModel" "lands" "I", .methodLink RX9 105 yX9_isKind, .static yX9_isKind, .initialized RX9, .code yX9_isKind cX9_isKind 1 (some .boolean), .methodLink RX9 97 yX9_in, .static yX9_in, .code yX9_in cX9_in 3 (some .boolean), .methodLink RX9 115 yX9_isCell, .static yX9_isCell, .code yX9_isCell cX9_isCell 1 (some .boolean), .methodLink RX9 118 yX9_fly, .instanceMethod yX9_fly, .selects RX9 yX9_fly yX9_fly, .code yX9_fly cX9_fly 11 none, .fieldLink RX9 109 "FeatherHallModel" "broken" "I", .fieldLink RX9 7 "FeatherHallModel" "speed" "[I", .fieldLink RX9 13 "FeatherHallModel" "drag" "[I", .methodLink RX9 101 yX9_size, .static yX9_size, .code yX9_size cX9_size 1 (some .int)] ++ wsX90)
def wsX9_player : List Cond := .code yX9_player cX9_player 4 (some .int) :: ([.fieldLink RX9 19 "FeatherHallModel" "pace" "[I", .fieldLink RX9 22 "FeatherHallModel" "reach" "[I", .methodLink RX9 125 yX9_isPlayer, .static yX9_isPlayer, .initialized RX9, .code yX9_isPlayer cX9_isPlayer 1 (some .boolean), .methodLink RX9 97 yX9_in, .static yX9_in, .code yX9_in cX9_in 3 (some .boolean)] ++ wsX90)
def wsX9_run : List Cond := .code yX9_run cX9_run 3 (some .int) :: ([.fieldLink RX9 25 "FeatherHallModel" "tired" "[I", .methodLink RX9 125 yX9_isPlayer, .static yX9_isPlayer, .initialized RX9, .code yX9_isPlayer cX9_isPlayer 1 (some .boolean), .methodLink RX9 97 yX9_in, .static yX9_in, .code yX9_in cX9_in 3 (some .boolean)] ++ wsX90)
def wsX9_rest : List Cond := .code yX9_rest cX9_rest 3 (some .int) :: ([.fieldLink RX9 25 "FeatherHallModel" "tired" "[I", .methodLink RX9 125 yX9_isPlayer, .static yX9_isPlayer, .initialized RX9, .code yX9_isPlayer cX9_isPlayer 1 (some .boolean), .methodLink RX9 97 yX9_in, .static yX9_in, .code yX9_in cX9_in 3 (some .boolean)] ++ wsX90)
def wsX9_stride : List Cond := .code yX9_stride cX9_stride 3 (some .int) :: ([.fieldLink RX9 19 "FeatherHallModel" "pace" "[I", .fieldLink RX9 25 "FeatherHallModel" "tired" "[I"] ++ wsX90)
def wsX9_over0 : List Cond := .code yX9_over0 cX9_over0 5 (some .int) :: ([.fieldLink RX9 28 "FeatherHallModel" "overCell" "[I", .fieldLink RX9 22 "FeatherHallModel" "reach" "[I", .methodLink RX9 128 yX9_far, .static yX9_far, .initialized RX9, .code yX9_far cX9_far 4 (some .int), .methodLink RX9 101 yX9_size, .static yX9_size, .code yX9_size cX9_size 1 (some .int), .methodLink RX9 132 yX9_stride, .instanceMethod yX9_stride, .selects RX9 yX9_stride yX9_stride, .code yX9_stride cX9_stride 3 (some .int), .fieldLink RX9 19 "FeatherHallModel" "pace" "[I", .fieldLink RX9 25 "FeatherHallModel" "tired" "[I"] ++ wsX90)
def wsX9_slackOf_r1 : List Cond := [Cond.fieldLink RX9 112 "FeatherHallModel" "lands" "I", Cond.fieldLink RX9 28 "FeatherHallModel" "overCell" "[I", Cond.methodLink RX9 122 yX9_firstMet, Cond.instanceMethod yX9_firstMet, Cond.selects RX9 yX9_firstMet yX9_firstMet, Cond.initialized RX9, Cond.code yX9_firstMet cX9_firstMet 3 (some .int), Cond.fieldLink RX9 16 "FeatherHallModel" "meet" "[I", Cond.methodLink RX9 135 yX9_over0, Cond.instanceMethod yX9_over0, Cond.selects RX9 yX9_over0 yX9_over0, Cond.code yX9_over0 cX9_over0 5 (some .int), Cond.fieldLink RX9 22 "FeatherHallModel" "reach" "[I", Cond.methodLink RX9 128 yX9_far, Cond.static yX9_far, Cond.code yX9_far cX9_far 4 (some .int), Cond.methodLink RX9 101 yX9_size, Cond.static yX9_size, Cond.code yX9_size cX9_size 1 (some .int), Cond.methodLink RX9 132 yX9_stride, Cond.instanceMethod yX9_stride, Cond.selects RX9 yX9_stride yX9_stride, Cond.code yX9_stride cX9_stride 3 (some .int), Cond.fieldLink RX9 19 "FeatherHallModel" "pace" "[I"]
def wsX9_slackOf_r2 : List Cond := [Cond.fieldLink RX9 25 "FeatherHallModel" "tired" "[I"]
def wsX9_slackOf : List Cond := .code yX9_slackOf cX9_slackOf 8 (some .int) :: ((wsX9_slackOf_r1 ++ wsX9_slackOf_r2) ++ wsX90)
def wsX9_slack_r1 : List Cond := [Cond.methodLink RX9 125 yX9_isPlayer, Cond.static yX9_isPlayer, Cond.initialized RX9, Cond.code yX9_isPlayer cX9_isPlayer 1 (some .boolean), Cond.methodLink RX9 97 yX9_in, Cond.static yX9_in, Cond.code yX9_in cX9_in 3 (some .boolean), Cond.methodLink RX9 115 yX9_isCell, Cond.static yX9_isCell, Cond.code yX9_isCell cX9_isCell 1 (some .boolean), Cond.methodLink RX9 105 yX9_isKind, Cond.static yX9_isKind, Cond.code yX9_isKind cX9_isKind 1 (some .boolean), Cond.methodLink RX9 118 yX9_fly, Cond.instanceMethod yX9_fly, Cond.selects RX9 yX9_fly yX9_fly, Cond.code yX9_fly cX9_fly 11 none, Cond.fieldLink RX9 109 "FeatherHallModel" "broken" "I", Cond.fieldLink RX9 7 "FeatherHallModel" "speed" "[I", Cond.fieldLink RX9 112 "FeatherHallModel" "lands" "I", Cond.fieldLink RX9 13 "FeatherHallModel" "drag" "[I", Cond.fieldLink RX9 28 "FeatherHallModel" "overCell" "[I", Cond.methodLink RX9 101 yX9_size, Cond.static yX9_size]
def wsX9_slack_r2 : List Cond := [Cond.code yX9_size cX9_size 1 (some .int), Cond.methodLink RX9 139 yX9_slackOf, Cond.instanceMethod yX9_slackOf, Cond.selects RX9 yX9_slackOf yX9_slackOf, Cond.code yX9_slackOf cX9_slackOf 8 (some .int), Cond.methodLink RX9 122 yX9_firstMet, Cond.instanceMethod yX9_firstMet, Cond.selects RX9 yX9_firstMet yX9_firstMet, Cond.code yX9_firstMet cX9_firstMet 3 (some .int), Cond.fieldLink RX9 16 "FeatherHallModel" "meet" "[I", Cond.methodLink RX9 135 yX9_over0, Cond.instanceMethod yX9_over0, Cond.selects RX9 yX9_over0 yX9_over0, Cond.code yX9_over0 cX9_over0 5 (some .int), Cond.fieldLink RX9 22 "FeatherHallModel" "reach" "[I", Cond.methodLink RX9 128 yX9_far, Cond.static yX9_far, Cond.code yX9_far cX9_far 4 (some .int), Cond.methodLink RX9 132 yX9_stride, Cond.instanceMethod yX9_stride, Cond.selects RX9 yX9_stride yX9_stride, Cond.code yX9_stride cX9_stride 3 (some .int), Cond.fieldLink RX9 19 "FeatherHallModel" "pace" "[I", Cond.fieldLink RX9 25 "FeatherHallModel" "tired" "[I"]
def wsX9_slack : List Cond := .code yX9_slack cX9_slack 6 (some .int) :: ((wsX9_slack_r1 ++ wsX9_slack_r2) ++ wsX90)
def wsX9_strike_r1 : List Cond := [Cond.methodLink RX9 115 yX9_isCell, Cond.static yX9_isCell, Cond.initialized RX9, Cond.code yX9_isCell cX9_isCell 1 (some .boolean), Cond.methodLink RX9 97 yX9_in, Cond.static yX9_in, Cond.code yX9_in cX9_in 3 (some .boolean), Cond.methodLink RX9 125 yX9_isPlayer, Cond.static yX9_isPlayer, Cond.code yX9_isPlayer cX9_isPlayer 1 (some .boolean), Cond.methodLink RX9 118 yX9_fly, Cond.instanceMethod yX9_fly, Cond.selects RX9 yX9_fly yX9_fly, Cond.code yX9_fly cX9_fly 11 none, Cond.fieldLink RX9 109 "FeatherHallModel" "broken" "I", Cond.fieldLink RX9 7 "FeatherHallModel" "speed" "[I", Cond.fieldLink RX9 112 "FeatherHallModel" "lands" "I", Cond.fieldLink RX9 13 "FeatherHallModel" "drag" "[I", Cond.fieldLink RX9 28 "FeatherHallModel" "overCell" "[I", Cond.methodLink RX9 101 yX9_size, Cond.static yX9_size, Cond.code yX9_size cX9_size 1 (some .int), Cond.methodLink RX9 139 yX9_slackOf, Cond.instanceMethod yX9_slackOf]
def wsX9_strike_r2 : List Cond := [Cond.selects RX9 yX9_slackOf yX9_slackOf, Cond.code yX9_slackOf cX9_slackOf 8 (some .int), Cond.methodLink RX9 122 yX9_firstMet, Cond.instanceMethod yX9_firstMet, Cond.selects RX9 yX9_firstMet yX9_firstMet, Cond.code yX9_firstMet cX9_firstMet 3 (some .int), Cond.fieldLink RX9 16 "FeatherHallModel" "meet" "[I", Cond.methodLink RX9 135 yX9_over0, Cond.instanceMethod yX9_over0, Cond.selects RX9 yX9_over0 yX9_over0, Cond.code yX9_over0 cX9_over0 5 (some .int), Cond.fieldLink RX9 22 "FeatherHallModel" "reach" "[I", Cond.methodLink RX9 128 yX9_far, Cond.static yX9_far, Cond.code yX9_far cX9_far 4 (some .int), Cond.methodLink RX9 132 yX9_stride, Cond.instanceMethod yX9_stride, Cond.selects RX9 yX9_stride yX9_stride, Cond.code yX9_stride cX9_stride 3 (some .int), Cond.fieldLink RX9 19 "FeatherHallModel" "pace" "[I", Cond.fieldLink RX9 25 "FeatherHallModel" "tired" "[I"]
def wsX9_strike : List Cond := .code yX9_strike cX9_strike 9 (some .int) :: ((wsX9_strike_r1 ++ wsX9_strike_r2) ++ wsX90)
def wsX9_leastSlack_r1 : List Cond := [Cond.methodLink RX9 118 yX9_fly, Cond.instanceMethod yX9_fly, Cond.selects RX9 yX9_fly yX9_fly, Cond.initialized RX9, Cond.code yX9_fly cX9_fly 11 none, Cond.fieldLink RX9 109 "FeatherHallModel" "broken" "I", Cond.fieldLink RX9 7 "FeatherHallModel" "speed" "[I", Cond.fieldLink RX9 112 "FeatherHallModel" "lands" "I", Cond.fieldLink RX9 13 "FeatherHallModel" "drag" "[I", Cond.fieldLink RX9 28 "FeatherHallModel" "overCell" "[I", Cond.methodLink RX9 101 yX9_size, Cond.static yX9_size, Cond.code yX9_size cX9_size 1 (some .int), Cond.methodLink RX9 139 yX9_slackOf, Cond.instanceMethod yX9_slackOf, Cond.selects RX9 yX9_slackOf yX9_slackOf, Cond.code yX9_slackOf cX9_slackOf 8 (some .int), Cond.methodLink RX9 122 yX9_firstMet, Cond.instanceMethod yX9_firstMet, Cond.selects RX9 yX9_firstMet yX9_firstMet, Cond.code yX9_firstMet cX9_firstMet 3 (some .int), Cond.fieldLink RX9 16 "FeatherHallModel" "meet" "[I", Cond.methodLink RX9 135 yX9_over0, Cond.instanceMethod yX9_over0]
def wsX9_leastSlack_r2 : List Cond := [Cond.selects RX9 yX9_over0 yX9_over0, Cond.code yX9_over0 cX9_over0 5 (some .int), Cond.fieldLink RX9 22 "FeatherHallModel" "reach" "[I", Cond.methodLink RX9 128 yX9_far, Cond.static yX9_far, Cond.code yX9_far cX9_far 4 (some .int), Cond.methodLink RX9 132 yX9_stride, Cond.instanceMethod yX9_stride, Cond.selects RX9 yX9_stride yX9_stride, Cond.code yX9_stride cX9_stride 3 (some .int), Cond.fieldLink RX9 19 "FeatherHallModel" "pace" "[I", Cond.fieldLink RX9 25 "FeatherHallModel" "tired" "[I"]
def wsX9_leastSlack : List Cond := .code yX9_leastSlack cX9_leastSlack 7 (some .int) :: ((wsX9_leastSlack_r1 ++ wsX9_leastSlack_r2) ++ wsX90)
def wsX9_stand_r1 : List Cond := [Cond.methodLink RX9 125 yX9_isPlayer, Cond.static yX9_isPlayer, Cond.initialized RX9, Cond.code yX9_isPlayer cX9_isPlayer 1 (some .boolean), Cond.methodLink RX9 97 yX9_in, Cond.static yX9_in, Cond.code yX9_in cX9_in 3 (some .boolean), Cond.methodLink RX9 115 yX9_isCell, Cond.static yX9_isCell, Cond.code yX9_isCell cX9_isCell 1 (some .boolean), Cond.methodLink RX9 142 yX9_leastSlack, Cond.instanceMethod yX9_leastSlack, Cond.selects RX9 yX9_leastSlack yX9_leastSlack, Cond.code yX9_leastSlack cX9_leastSlack 7 (some .int), Cond.methodLink RX9 118 yX9_fly, Cond.instanceMethod yX9_fly, Cond.selects RX9 yX9_fly yX9_fly, Cond.code yX9_fly cX9_fly 11 none, Cond.fieldLink RX9 109 "FeatherHallModel" "broken" "I", Cond.fieldLink RX9 7 "FeatherHallModel" "speed" "[I", Cond.fieldLink RX9 112 "FeatherHallModel" "lands" "I", Cond.fieldLink RX9 13 "FeatherHallModel" "drag" "[I", Cond.fieldLink RX9 28 "FeatherHallModel" "overCell" "[I", Cond.methodLink RX9 101 yX9_size]
def wsX9_stand_r2 : List Cond := [Cond.static yX9_size, Cond.code yX9_size cX9_size 1 (some .int), Cond.methodLink RX9 139 yX9_slackOf, Cond.instanceMethod yX9_slackOf, Cond.selects RX9 yX9_slackOf yX9_slackOf, Cond.code yX9_slackOf cX9_slackOf 8 (some .int), Cond.methodLink RX9 122 yX9_firstMet, Cond.instanceMethod yX9_firstMet, Cond.selects RX9 yX9_firstMet yX9_firstMet, Cond.code yX9_firstMet cX9_firstMet 3 (some .int), Cond.fieldLink RX9 16 "FeatherHallModel" "meet" "[I", Cond.methodLink RX9 135 yX9_over0, Cond.instanceMethod yX9_over0, Cond.selects RX9 yX9_over0 yX9_over0, Cond.code yX9_over0 cX9_over0 5 (some .int), Cond.fieldLink RX9 22 "FeatherHallModel" "reach" "[I", Cond.methodLink RX9 128 yX9_far, Cond.static yX9_far, Cond.code yX9_far cX9_far 4 (some .int), Cond.methodLink RX9 132 yX9_stride, Cond.instanceMethod yX9_stride, Cond.selects RX9 yX9_stride yX9_stride, Cond.code yX9_stride cX9_stride 3 (some .int), Cond.fieldLink RX9 19 "FeatherHallModel" "pace" "[I"]
def wsX9_stand_r3 : List Cond := [Cond.fieldLink RX9 25 "FeatherHallModel" "tired" "[I"]
def wsX9_stand : List Cond := .code yX9_stand cX9_stand 8 (some .int) :: ((wsX9_stand_r1 ++ (wsX9_stand_r2 ++ wsX9_stand_r3)) ++ wsX90)
def wsX9_meetsOf_r1 : List Cond := [Cond.fieldLink RX9 112 "FeatherHallModel" "lands" "I", Cond.fieldLink RX9 28 "FeatherHallModel" "overCell" "[I", Cond.methodLink RX9 122 yX9_firstMet, Cond.instanceMethod yX9_firstMet, Cond.selects RX9 yX9_firstMet yX9_firstMet, Cond.initialized RX9, Cond.code yX9_firstMet cX9_firstMet 3 (some .int), Cond.fieldLink RX9 16 "FeatherHallModel" "meet" "[I", Cond.methodLink RX9 135 yX9_over0, Cond.instanceMethod yX9_over0, Cond.selects RX9 yX9_over0 yX9_over0, Cond.code yX9_over0 cX9_over0 5 (some .int), Cond.fieldLink RX9 22 "FeatherHallModel" "reach" "[I", Cond.methodLink RX9 128 yX9_far, Cond.static yX9_far, Cond.code yX9_far cX9_far 4 (some .int), Cond.methodLink RX9 101 yX9_size, Cond.static yX9_size, Cond.code yX9_size cX9_size 1 (some .int), Cond.methodLink RX9 132 yX9_stride, Cond.instanceMethod yX9_stride, Cond.selects RX9 yX9_stride yX9_stride, Cond.code yX9_stride cX9_stride 3 (some .int), Cond.fieldLink RX9 19 "FeatherHallModel" "pace" "[I"]
def wsX9_meetsOf_r2 : List Cond := [Cond.fieldLink RX9 25 "FeatherHallModel" "tired" "[I"]
def wsX9_meetsOf : List Cond := .code yX9_meetsOf cX9_meetsOf 6 (some .int) :: ((wsX9_meetsOf_r1 ++ wsX9_meetsOf_r2) ++ wsX90)
def wsX9_findMeetings_r1 : List Cond := [Cond.fieldLink RX9 31 "FeatherHallModel" "meetsP" "[I", Cond.fieldLink RX9 34 "FeatherHallModel" "meetsQ" "[I", Cond.methodLink RX9 118 yX9_fly, Cond.instanceMethod yX9_fly, Cond.selects RX9 yX9_fly yX9_fly, Cond.initialized RX9, Cond.code yX9_fly cX9_fly 11 none, Cond.fieldLink RX9 109 "FeatherHallModel" "broken" "I", Cond.fieldLink RX9 7 "FeatherHallModel" "speed" "[I", Cond.fieldLink RX9 112 "FeatherHallModel" "lands" "I", Cond.fieldLink RX9 13 "FeatherHallModel" "drag" "[I", Cond.fieldLink RX9 28 "FeatherHallModel" "overCell" "[I", Cond.methodLink RX9 101 yX9_size, Cond.static yX9_size, Cond.code yX9_size cX9_size 1 (some .int), Cond.methodLink RX9 145 yX9_meetsOf, Cond.instanceMethod yX9_meetsOf, Cond.selects RX9 yX9_meetsOf yX9_meetsOf, Cond.code yX9_meetsOf cX9_meetsOf 6 (some .int), Cond.methodLink RX9 122 yX9_firstMet, Cond.instanceMethod yX9_firstMet, Cond.selects RX9 yX9_firstMet yX9_firstMet, Cond.code yX9_firstMet cX9_firstMet 3 (some .int), Cond.fieldLink RX9 16 "FeatherHallModel" "meet" "[I"]
def wsX9_findMeetings_r2 : List Cond := [Cond.methodLink RX9 135 yX9_over0, Cond.instanceMethod yX9_over0, Cond.selects RX9 yX9_over0 yX9_over0, Cond.code yX9_over0 cX9_over0 5 (some .int), Cond.fieldLink RX9 22 "FeatherHallModel" "reach" "[I", Cond.methodLink RX9 128 yX9_far, Cond.static yX9_far, Cond.code yX9_far cX9_far 4 (some .int), Cond.methodLink RX9 132 yX9_stride, Cond.instanceMethod yX9_stride, Cond.selects RX9 yX9_stride yX9_stride, Cond.code yX9_stride cX9_stride 3 (some .int), Cond.fieldLink RX9 19 "FeatherHallModel" "pace" "[I", Cond.fieldLink RX9 25 "FeatherHallModel" "tired" "[I"]
def wsX9_findMeetings : List Cond := .code yX9_findMeetings cX9_findMeetings 6 none :: ((wsX9_findMeetings_r1 ++ wsX9_findMeetings_r2) ++ wsX90)
def wsX9_winsAll : List Cond := .code yX9_winsAll cX9_winsAll 6 (some .boolean) :: ([.fieldLink RX9 37 "FeatherHallModel" "wins" "[Z", .methodLink RX9 128 yX9_far, .static yX9_far, .initialized RX9, .code yX9_far cX9_far 4 (some .int), .methodLink RX9 101 yX9_size, .static yX9_size, .code yX9_size cX9_size 1 (some .int)] ++ wsX90)
def wsX9_holdsAll : List Cond := .code yX9_holdsAll cX9_holdsAll 6 (some .boolean) :: ([.fieldLink RX9 31 "FeatherHallModel" "meetsP" "[I", .methodLink RX9 132 yX9_stride, .instanceMethod yX9_stride, .selects RX9 yX9_stride yX9_stride, .initialized RX9, .code yX9_stride cX9_stride 3 (some .int), .fieldLink RX9 19 "FeatherHallModel" "pace" "[I", .fieldLink RX9 25 "FeatherHallModel" "tired" "[I", .methodLink RX9 148 yX9_winsAll, .instanceMethod yX9_winsAll, .selects RX9 yX9_winsAll yX9_winsAll, .code yX9_winsAll cX9_winsAll 6 (some .boolean), .fieldLink RX9 37 "FeatherHallModel" "wins" "[Z", .methodLink RX9 128 yX9_far, .static yX9_far, .code yX9_far cX9_far 4 (some .int), .methodLink RX9 101 yX9_size, .static yX9_size, .code yX9_size cX9_size 1 (some .int)] ++ wsX90)
def wsX9_winsNow : List Cond := .code yX9_winsNow cX9_winsNow 5 (some .boolean) :: ([.fieldLink RX9 34 "FeatherHallModel" "meetsQ" "[I"] ++ wsX90)
def wsX9_winsLater : List Cond := .code yX9_winsLater cX9_winsLater 7 (some .boolean) :: ([.fieldLink RX9 34 "FeatherHallModel" "meetsQ" "[I", .fieldLink RX9 44 "FeatherHallModel" "holds" "[Z", .methodLink RX9 128 yX9_far, .static yX9_far, .initialized RX9, .code yX9_far cX9_far 4 (some .int), .methodLink RX9 101 yX9_size, .static yX9_size, .code yX9_size cX9_size 1 (some .int), .methodLink RX9 132 yX9_stride, .instanceMethod yX9_stride, .selects RX9 yX9_stride yX9_stride, .code yX9_stride cX9_stride 3 (some .int), .fieldLink RX9 19 "FeatherHallModel" "pace" "[I", .fieldLink RX9 25 "FeatherHallModel" "tired" "[I"] ++ wsX90)
def wsX9_wins_r1 : List Cond := [Cond.fieldLink RX9 37 "FeatherHallModel" "wins" "[Z", Cond.fieldLink RX9 44 "FeatherHallModel" "holds" "[Z", Cond.fieldLink RX9 41 "FeatherHallModel" "winsNext" "[Z", Cond.methodLink RX9 125 yX9_isPlayer, Cond.static yX9_isPlayer, Cond.initialized RX9, Cond.code yX9_isPlayer cX9_isPlayer 1 (some .boolean), Cond.methodLink RX9 97 yX9_in, Cond.static yX9_in, Cond.code yX9_in cX9_in 3 (some .boolean), Cond.methodLink RX9 115 yX9_isCell, Cond.static yX9_isCell, Cond.code yX9_isCell cX9_isCell 1 (some .boolean), Cond.methodLink RX9 151 yX9_findMeetings, Cond.instanceMethod yX9_findMeetings, Cond.selects RX9 yX9_findMeetings yX9_findMeetings, Cond.code yX9_findMeetings cX9_findMeetings 6 none, Cond.fieldLink RX9 31 "FeatherHallModel" "meetsP" "[I", Cond.fieldLink RX9 34 "FeatherHallModel" "meetsQ" "[I", Cond.methodLink RX9 118 yX9_fly, Cond.instanceMethod yX9_fly, Cond.selects RX9 yX9_fly yX9_fly, Cond.code yX9_fly cX9_fly 11 none, Cond.fieldLink RX9 109 "FeatherHallModel" "broken" "I"]
def wsX9_wins_r2 : List Cond := [Cond.fieldLink RX9 7 "FeatherHallModel" "speed" "[I", Cond.fieldLink RX9 112 "FeatherHallModel" "lands" "I", Cond.fieldLink RX9 13 "FeatherHallModel" "drag" "[I", Cond.fieldLink RX9 28 "FeatherHallModel" "overCell" "[I", Cond.methodLink RX9 101 yX9_size, Cond.static yX9_size, Cond.code yX9_size cX9_size 1 (some .int), Cond.methodLink RX9 145 yX9_meetsOf, Cond.instanceMethod yX9_meetsOf, Cond.selects RX9 yX9_meetsOf yX9_meetsOf, Cond.code yX9_meetsOf cX9_meetsOf 6 (some .int), Cond.methodLink RX9 122 yX9_firstMet, Cond.instanceMethod yX9_firstMet, Cond.selects RX9 yX9_firstMet yX9_firstMet, Cond.code yX9_firstMet cX9_firstMet 3 (some .int), Cond.fieldLink RX9 16 "FeatherHallModel" "meet" "[I", Cond.methodLink RX9 135 yX9_over0, Cond.instanceMethod yX9_over0, Cond.selects RX9 yX9_over0 yX9_over0, Cond.code yX9_over0 cX9_over0 5 (some .int), Cond.fieldLink RX9 22 "FeatherHallModel" "reach" "[I", Cond.methodLink RX9 128 yX9_far, Cond.static yX9_far, Cond.code yX9_far cX9_far 4 (some .int)]
def wsX9_wins_r3 : List Cond := [Cond.methodLink RX9 132 yX9_stride, Cond.instanceMethod yX9_stride, Cond.selects RX9 yX9_stride yX9_stride, Cond.code yX9_stride cX9_stride 3 (some .int), Cond.fieldLink RX9 19 "FeatherHallModel" "pace" "[I", Cond.fieldLink RX9 25 "FeatherHallModel" "tired" "[I", Cond.methodLink RX9 155 yX9_winsNow, Cond.instanceMethod yX9_winsNow, Cond.selects RX9 yX9_winsNow yX9_winsNow, Cond.code yX9_winsNow cX9_winsNow 5 (some .boolean), Cond.methodLink RX9 159 yX9_holdsAll, Cond.instanceMethod yX9_holdsAll, Cond.selects RX9 yX9_holdsAll yX9_holdsAll, Cond.code yX9_holdsAll cX9_holdsAll 6 (some .boolean), Cond.methodLink RX9 148 yX9_winsAll, Cond.instanceMethod yX9_winsAll, Cond.selects RX9 yX9_winsAll yX9_winsAll, Cond.code yX9_winsAll cX9_winsAll 6 (some .boolean), Cond.methodLink RX9 162 yX9_winsLater, Cond.instanceMethod yX9_winsLater, Cond.selects RX9 yX9_winsLater yX9_winsLater, Cond.code yX9_winsLater cX9_winsLater 7 (some .boolean)]
def wsX9_wins : List Cond := .code yX9_wins cX9_wins 8 (some .int) :: ((wsX9_wins_r1 ++ (wsX9_wins_r2 ++ wsX9_wins_r3)) ++ wsX90)
def wsX9_alone : List Cond := .code yX9_alone cX9_alone 3 (some .int) :: ([.fieldLink RX9 47 "FeatherHallModel" "scores" "[I"] ++ wsX90)
def wsX9_isOver : List Cond := .code yX9_isOver cX9_isOver 1 (some .boolean) :: ([.fieldLink RX9 47 "FeatherHallModel" "scores" "[I"] ++ wsX90)
def wsX9_rally : List Cond := .code yX9_rally cX9_rally 5 (some .int) :: ([.fieldLink RX9 47 "FeatherHallModel" "scores" "[I", .fieldLink RX9 173 "FeatherHallModel" "serves" "I", .methodLink RX9 97 yX9_in, .static yX9_in, .initialized RX9, .code yX9_in cX9_in 3 (some .boolean), .methodLink RX9 165 yX9_isOver, .instanceMethod yX9_isOver, .selects RX9 yX9_isOver yX9_isOver, .code yX9_isOver cX9_isOver 1 (some .boolean), .methodLink RX9 169 yX9_alone, .instanceMethod yX9_alone, .selects RX9 yX9_alone yX9_alone, .code yX9_alone cX9_alone 3 (some .int)] ++ wsX90)
def wsX9_three : List Cond := .code yX9_three cX9_three 2 (some .int) :: ([.fieldLink RX9 47 "FeatherHallModel" "scores" "[I", .fieldLink RX9 173 "FeatherHallModel" "serves" "I", .methodLink RX9 97 yX9_in, .static yX9_in, .initialized RX9, .code yX9_in cX9_in 3 (some .boolean), .methodLink RX9 169 yX9_alone, .instanceMethod yX9_alone, .selects RX9 yX9_alone yX9_alone, .code yX9_alone cX9_alone 3 (some .int), .methodLink RX9 165 yX9_isOver, .instanceMethod yX9_isOver, .selects RX9 yX9_isOver yX9_isOver, .code yX9_isOver cX9_isOver 1 (some .boolean)] ++ wsX90)
def wsX9_again : List Cond := .code yX9_again cX9_again 2 (some .int) :: ([.fieldLink RX9 47 "FeatherHallModel" "scores" "[I", .fieldLink RX9 173 "FeatherHallModel" "serves" "I"] ++ wsX90)
def wsX9_note : List Cond := .code yX9_note cX9_note 4 (some .int) :: ([.fieldLink RX9 176 "FeatherHallModel" "notes" "I", .fieldLink RX9 50 "FeatherHallModel" "noteZone" "[I", .fieldLink RX9 53 "FeatherHallModel" "noteKind" "[I", .methodLink RX9 97 yX9_in, .static yX9_in, .initialized RX9, .code yX9_in cX9_in 3 (some .boolean)] ++ wsX90)
def wsX9_tallyOf : List Cond := .code yX9_tallyOf cX9_tallyOf 7 (some .int) :: ([.fieldLink RX9 176 "FeatherHallModel" "notes" "I", .fieldLink RX9 50 "FeatherHallModel" "noteZone" "[I", .fieldLink RX9 53 "FeatherHallModel" "noteKind" "[I"] ++ wsX90)
def wsX9_tally : List Cond := .code yX9_tally cX9_tally 4 (some .int) :: ([.methodLink RX9 97 yX9_in, .static yX9_in, .initialized RX9, .code yX9_in cX9_in 3 (some .boolean), .methodLink RX9 105 yX9_isKind, .static yX9_isKind, .code yX9_isKind cX9_isKind 1 (some .boolean), .methodLink RX9 179 yX9_tallyOf, .instanceMethod yX9_tallyOf, .selects RX9 yX9_tallyOf yX9_tallyOf, .code yX9_tallyOf cX9_tallyOf 7 (some .int), .fieldLink RX9 176 "FeatherHallModel" "notes" "I", .fieldLink RX9 50 "FeatherHallModel" "noteZone" "[I", .fieldLink RX9 53 "FeatherHallModel" "noteKind" "[I"] ++ wsX90)
def wsX9_isTried : List Cond := .code yX9_isTried cX9_isTried 3 (some .boolean) :: ([.methodLink RX9 179 yX9_tallyOf, .instanceMethod yX9_tallyOf, .selects RX9 yX9_tallyOf yX9_tallyOf, .initialized RX9, .code yX9_tallyOf cX9_tallyOf 7 (some .int), .fieldLink RX9 176 "FeatherHallModel" "notes" "I", .fieldLink RX9 50 "FeatherHallModel" "noteZone" "[I", .fieldLink RX9 53 "FeatherHallModel" "noteKind" "[I"] ++ wsX90)
def wsX9_triedMany : List Cond := .code yX9_triedMany cX9_triedMany 3 (some .int) :: ([.methodLink RX9 182 yX9_isTried, .instanceMethod yX9_isTried, .selects RX9 yX9_isTried yX9_isTried, .initialized RX9, .code yX9_isTried cX9_isTried 3 (some .boolean), .methodLink RX9 179 yX9_tallyOf, .instanceMethod yX9_tallyOf, .selects RX9 yX9_tallyOf yX9_tallyOf, .code yX9_tallyOf cX9_tallyOf 7 (some .int), .fieldLink RX9 176 "FeatherHallModel" "notes" "I", .fieldLink RX9 50 "FeatherHallModel" "noteZone" "[I", .fieldLink RX9 53 "FeatherHallModel" "noteKind" "[I"] ++ wsX90)
def wsX9_choose : List Cond := .code yX9_choose cX9_choose 5 (some .long) :: ([.fieldLink RX9 56 "FeatherHallModel" "ways" "[J"] ++ wsX90)
def wsX9_isPast : List Cond := .code yX9_isPast cX9_isPast 10 (some .boolean) :: ([.constantLong RX9 189 (20), .methodLink RX9 182 yX9_isTried, .instanceMethod yX9_isTried, .selects RX9 yX9_isTried yX9_isTried, .initialized RX9, .code yX9_isTried cX9_isTried 3 (some .boolean), .methodLink RX9 179 yX9_tallyOf, .instanceMethod yX9_tallyOf, .selects RX9 yX9_tallyOf yX9_tallyOf, .code yX9_tallyOf cX9_tallyOf 7 (some .int), .fieldLink RX9 176 "FeatherHallModel" "notes" "I", .fieldLink RX9 50 "FeatherHallModel" "noteZone" "[I", .fieldLink RX9 53 "FeatherHallModel" "noteKind" "[I", .methodLink RX9 185 yX9_choose, .instanceMethod yX9_choose, .selects RX9 yX9_choose yX9_choose, .code yX9_choose cX9_choose 5 (some .long), .fieldLink RX9 56 "FeatherHallModel" "ways" "[J", .methodLink RX9 191 yX9_triedMany, .instanceMethod yX9_triedMany, .selects RX9 yX9_triedMany yX9_triedMany, .code yX9_triedMany cX9_triedMany 3 (some .int)] ++ wsX90)
def wsX9_habit_r1 : List Cond := [Cond.methodLink RX9 97 yX9_in, Cond.static yX9_in, Cond.initialized RX9, Cond.code yX9_in cX9_in 3 (some .boolean), Cond.methodLink RX9 105 yX9_isKind, Cond.static yX9_isKind, Cond.code yX9_isKind cX9_isKind 1 (some .boolean), Cond.methodLink RX9 194 yX9_isPast, Cond.instanceMethod yX9_isPast, Cond.selects RX9 yX9_isPast yX9_isPast, Cond.code yX9_isPast cX9_isPast 10 (some .boolean), Cond.constantLong RX9 189 (20), Cond.methodLink RX9 182 yX9_isTried, Cond.instanceMethod yX9_isTried, Cond.selects RX9 yX9_isTried yX9_isTried, Cond.code yX9_isTried cX9_isTried 3 (some .boolean), Cond.methodLink RX9 179 yX9_tallyOf, Cond.instanceMethod yX9_tallyOf, Cond.selects RX9 yX9_tallyOf yX9_tallyOf, Cond.code yX9_tallyOf cX9_tallyOf 7 (some .int), Cond.fieldLink RX9 176 "FeatherHallModel" "notes" "I", Cond.fieldLink RX9 50 "FeatherHallModel" "noteZone" "[I", Cond.fieldLink RX9 53 "FeatherHallModel" "noteKind" "[I", Cond.methodLink RX9 185 yX9_choose]
def wsX9_habit_r2 : List Cond := [Cond.instanceMethod yX9_choose, Cond.selects RX9 yX9_choose yX9_choose, Cond.code yX9_choose cX9_choose 5 (some .long), Cond.fieldLink RX9 56 "FeatherHallModel" "ways" "[J", Cond.methodLink RX9 191 yX9_triedMany, Cond.instanceMethod yX9_triedMany, Cond.selects RX9 yX9_triedMany yX9_triedMany, Cond.code yX9_triedMany cX9_triedMany 3 (some .int)]
def wsX9_habit : List Cond := .code yX9_habit cX9_habit 3 (some .int) :: ((wsX9_habit_r1 ++ wsX9_habit_r2) ++ wsX90)
def wsX9_strongest_r1 : List Cond := [Cond.methodLink RX9 194 yX9_isPast, Cond.instanceMethod yX9_isPast, Cond.selects RX9 yX9_isPast yX9_isPast, Cond.initialized RX9, Cond.code yX9_isPast cX9_isPast 10 (some .boolean), Cond.constantLong RX9 189 (20), Cond.methodLink RX9 182 yX9_isTried, Cond.instanceMethod yX9_isTried, Cond.selects RX9 yX9_isTried yX9_isTried, Cond.code yX9_isTried cX9_isTried 3 (some .boolean), Cond.methodLink RX9 179 yX9_tallyOf, Cond.instanceMethod yX9_tallyOf, Cond.selects RX9 yX9_tallyOf yX9_tallyOf, Cond.code yX9_tallyOf cX9_tallyOf 7 (some .int), Cond.fieldLink RX9 176 "FeatherHallModel" "notes" "I", Cond.fieldLink RX9 50 "FeatherHallModel" "noteZone" "[I", Cond.fieldLink RX9 53 "FeatherHallModel" "noteKind" "[I", Cond.methodLink RX9 185 yX9_choose, Cond.instanceMethod yX9_choose, Cond.selects RX9 yX9_choose yX9_choose, Cond.code yX9_choose cX9_choose 5 (some .long), Cond.fieldLink RX9 56 "FeatherHallModel" "ways" "[J", Cond.methodLink RX9 191 yX9_triedMany, Cond.instanceMethod yX9_triedMany]
def wsX9_strongest_r2 : List Cond := [Cond.selects RX9 yX9_triedMany yX9_triedMany, Cond.code yX9_triedMany cX9_triedMany 3 (some .int)]
def wsX9_strongest : List Cond := .code yX9_strongest cX9_strongest 5 (some .int) :: ((wsX9_strongest_r1 ++ wsX9_strongest_r2) ++ wsX90)
def wsX9_cost : List Cond := .code yX9_cost cX9_cost 4 (some .int) :: ([.fieldLink RX9 60 "FeatherHallModel" "price" "I", .fieldLink RX9 64 "FeatherHallModel" "loss" "I", .methodLink RX9 97 yX9_in, .static yX9_in, .initialized RX9, .code yX9_in cX9_in 3 (some .boolean)] ++ wsX90)
def wsX9_wear : List Cond := .code yX9_wear cX9_wear 4 (some .int) :: ([.fieldLink RX9 67 "FeatherHallModel" "wear" "[I", .methodLink RX9 105 yX9_isKind, .static yX9_isKind, .initialized RX9, .code yX9_isKind cX9_isKind 1 (some .boolean), .methodLink RX9 97 yX9_in, .static yX9_in, .code yX9_in cX9_in 3 (some .boolean)] ++ wsX90)
def wsX9_plan : List Cond := .code yX9_plan cX9_plan 2 (some .int) :: ([.fieldLink RX9 197 "FeatherHallModel" "planned" "I", .fieldLink RX9 70 "FeatherHallModel" "plan" "[I", .methodLink RX9 105 yX9_isKind, .static yX9_isKind, .initialized RX9, .code yX9_isKind cX9_isKind 1 (some .boolean), .methodLink RX9 97 yX9_in, .static yX9_in, .code yX9_in cX9_in 3 (some .boolean)] ++ wsX90)
def wsX9_unplan : List Cond := .code yX9_unplan cX9_unplan 2 (some .int) :: ([.fieldLink RX9 197 "FeatherHallModel" "planned" "I"] ++ wsX90)
def wsX9_costsOf : List Cond := .code yX9_costsOf cX9_costsOf 6 (some .int) :: ([.fieldLink RX9 60 "FeatherHallModel" "price" "I", .fieldLink RX9 64 "FeatherHallModel" "loss" "I", .fieldLink RX9 67 "FeatherHallModel" "wear" "[I", .fieldLink RX9 70 "FeatherHallModel" "plan" "[I", .fieldLink RX9 197 "FeatherHallModel" "planned" "I"] ++ wsX90)
def wsX9_costs : List Cond := .code yX9_costs cX9_costs 2 (some .int) :: ([.fieldLink RX9 197 "FeatherHallModel" "planned" "I", .methodLink RX9 97 yX9_in, .static yX9_in, .initialized RX9, .code yX9_in cX9_in 3 (some .boolean), .methodLink RX9 200 yX9_costsOf, .instanceMethod yX9_costsOf, .selects RX9 yX9_costsOf yX9_costsOf, .code yX9_costsOf cX9_costsOf 6 (some .int), .fieldLink RX9 60 "FeatherHallModel" "price" "I", .fieldLink RX9 64 "FeatherHallModel" "loss" "I", .fieldLink RX9 67 "FeatherHallModel" "wear" "[I", .fieldLink RX9 70 "FeatherHallModel" "plan" "[I"] ++ wsX90)
def wsX9_change : List Cond := .code yX9_change cX9_change 5 (some .int) :: ([.fieldLink RX9 197 "FeatherHallModel" "planned" "I", .methodLink RX9 200 yX9_costsOf, .instanceMethod yX9_costsOf, .selects RX9 yX9_costsOf yX9_costsOf, .initialized RX9, .code yX9_costsOf cX9_costsOf 6 (some .int), .fieldLink RX9 60 "FeatherHallModel" "price" "I", .fieldLink RX9 64 "FeatherHallModel" "loss" "I", .fieldLink RX9 67 "FeatherHallModel" "wear" "[I", .fieldLink RX9 70 "FeatherHallModel" "plan" "[I"] ++ wsX90)
def wsX9_courts : List Cond := .code yX9_courts cX9_courts 3 (some .int) :: ([.fieldLink RX9 73 "FeatherHallModel" "courts" "I", .methodLink RX9 97 yX9_in, .static yX9_in, .initialized RX9, .code yX9_in cX9_in 3 (some .boolean)] ++ wsX90)
def wsX9_thereMany : List Cond := .code yX9_thereMany cX9_thereMany 3 (some .int) :: ([.fieldLink RX9 76 "FeatherHallModel" "isThere" "[Z"] ++ wsX90)
def wsX9_come : List Cond := .code yX9_come cX9_come 3 (some .int) :: ([.fieldLink RX9 76 "FeatherHallModel" "isThere" "[Z", .fieldLink RX9 79 "FeatherHallModel" "grade" "[I", .fieldLink RX9 82 "FeatherHallModel" "waited" "[I", .methodLink RX9 125 yX9_isPlayer, .static yX9_isPlayer, .initialized RX9, .code yX9_isPlayer cX9_isPlayer 1 (some .boolean), .methodLink RX9 97 yX9_in, .static yX9_in, .code yX9_in cX9_in 3 (some .boolean), .methodLink RX9 203 yX9_thereMany, .instanceMethod yX9_thereMany, .selects RX9 yX9_thereMany yX9_thereMany, .code yX9_thereMany cX9_thereMany 3 (some .int)] ++ wsX90)
def wsX9_leave : List Cond := .code yX9_leave cX9_leave 2 (some .int) :: ([.fieldLink RX9 76 "FeatherHallModel" "isThere" "[Z", .methodLink RX9 125 yX9_isPlayer, .static yX9_isPlayer, .initialized RX9, .code yX9_isPlayer cX9_isPlayer 1 (some .boolean), .methodLink RX9 97 yX9_in, .static yX9_in, .code yX9_in cX9_in 3 (some .boolean), .methodLink RX9 203 yX9_thereMany, .instanceMethod yX9_thereMany, .selects RX9 yX9_thereMany yX9_thereMany, .code yX9_thereMany cX9_thereMany 3 (some .int)] ++ wsX90)
def wsX9_lookAtRound : List Cond := .code yX9_lookAtRound cX9_lookAtRound 7 none :: ([.fieldLink RX9 91 "FeatherHallModel" "mate" "[I", .fieldLink RX9 82 "FeatherHallModel" "waited" "[I", .fieldLink RX9 85 "FeatherHallModel" "had" "[I", .fieldLink RX9 79 "FeatherHallModel" "grade" "[I", .fieldLink RX9 206 "FeatherHallModel" "bestGames" "I", .fieldLink RX9 209 "FeatherHallModel" "bestWaited" "I", .fieldLink RX9 212 "FeatherHallModel" "bestHad" "I", .fieldLink RX9 215 "FeatherHallModel" "bestGrades" "I", .fieldLink RX9 94 "FeatherHallModel" "best" "[I", .methodLink RX9 101 yX9_size, .static yX9_size, .initialized RX9, .code yX9_size cX9_size 1 (some .int)] ++ wsX90)
def wsX9_findRound_r1 : List Cond := [Cond.fieldLink RX9 73 "FeatherHallModel" "courts" "I", Cond.fieldLink RX9 206 "FeatherHallModel" "bestGames" "I", Cond.fieldLink RX9 88 "FeatherHallModel" "option" "[I", Cond.fieldLink RX9 91 "FeatherHallModel" "mate" "[I", Cond.fieldLink RX9 76 "FeatherHallModel" "isThere" "[Z", Cond.methodLink RX9 203 yX9_thereMany, Cond.instanceMethod yX9_thereMany, Cond.selects RX9 yX9_thereMany yX9_thereMany, Cond.initialized RX9, Cond.code yX9_thereMany cX9_thereMany 3 (some .int), Cond.methodLink RX9 218 yX9_lookAtRound, Cond.instanceMethod yX9_lookAtRound, Cond.selects RX9 yX9_lookAtRound yX9_lookAtRound, Cond.code yX9_lookAtRound cX9_lookAtRound 7 none, Cond.fieldLink RX9 82 "FeatherHallModel" "waited" "[I", Cond.fieldLink RX9 85 "FeatherHallModel" "had" "[I", Cond.fieldLink RX9 79 "FeatherHallModel" "grade" "[I", Cond.fieldLink RX9 209 "FeatherHallModel" "bestWaited" "I", Cond.fieldLink RX9 212 "FeatherHallModel" "bestHad" "I", Cond.fieldLink RX9 215 "FeatherHallModel" "bestGrades" "I", Cond.fieldLink RX9 94 "FeatherHallModel" "best" "[I", Cond.methodLink RX9 101 yX9_size, Cond.static yX9_size, Cond.code yX9_size cX9_size 1 (some .int)]
def wsX9_findRound_r2 : List Cond := [Cond.methodLink RX9 97 yX9_in, Cond.static yX9_in, Cond.code yX9_in cX9_in 3 (some .boolean)]
def wsX9_findRound : List Cond := .code yX9_findRound cX9_findRound 7 none :: ((wsX9_findRound_r1 ++ wsX9_findRound_r2) ++ wsX90)
def wsX9_against_r1 : List Cond := [Cond.fieldLink RX9 94 "FeatherHallModel" "best" "[I", Cond.methodLink RX9 125 yX9_isPlayer, Cond.static yX9_isPlayer, Cond.initialized RX9, Cond.code yX9_isPlayer cX9_isPlayer 1 (some .boolean), Cond.methodLink RX9 97 yX9_in, Cond.static yX9_in, Cond.code yX9_in cX9_in 3 (some .boolean), Cond.methodLink RX9 222 yX9_findRound, Cond.instanceMethod yX9_findRound, Cond.selects RX9 yX9_findRound yX9_findRound, Cond.code yX9_findRound cX9_findRound 7 none, Cond.fieldLink RX9 73 "FeatherHallModel" "courts" "I", Cond.fieldLink RX9 206 "FeatherHallModel" "bestGames" "I", Cond.fieldLink RX9 88 "FeatherHallModel" "option" "[I", Cond.fieldLink RX9 91 "FeatherHallModel" "mate" "[I", Cond.fieldLink RX9 76 "FeatherHallModel" "isThere" "[Z", Cond.methodLink RX9 203 yX9_thereMany, Cond.instanceMethod yX9_thereMany, Cond.selects RX9 yX9_thereMany yX9_thereMany, Cond.code yX9_thereMany cX9_thereMany 3 (some .int), Cond.methodLink RX9 218 yX9_lookAtRound, Cond.instanceMethod yX9_lookAtRound, Cond.selects RX9 yX9_lookAtRound yX9_lookAtRound]
def wsX9_against_r2 : List Cond := [Cond.code yX9_lookAtRound cX9_lookAtRound 7 none, Cond.fieldLink RX9 82 "FeatherHallModel" "waited" "[I", Cond.fieldLink RX9 85 "FeatherHallModel" "had" "[I", Cond.fieldLink RX9 79 "FeatherHallModel" "grade" "[I", Cond.fieldLink RX9 209 "FeatherHallModel" "bestWaited" "I", Cond.fieldLink RX9 212 "FeatherHallModel" "bestHad" "I", Cond.fieldLink RX9 215 "FeatherHallModel" "bestGrades" "I", Cond.methodLink RX9 101 yX9_size, Cond.static yX9_size, Cond.code yX9_size cX9_size 1 (some .int)]
def wsX9_against : List Cond := .code yX9_against cX9_against 2 (some .int) :: ((wsX9_against_r1 ++ wsX9_against_r2) ++ wsX90)
def wsX9_round_r1 : List Cond := [Cond.fieldLink RX9 206 "FeatherHallModel" "bestGames" "I", Cond.fieldLink RX9 209 "FeatherHallModel" "bestWaited" "I", Cond.fieldLink RX9 212 "FeatherHallModel" "bestHad" "I", Cond.fieldLink RX9 215 "FeatherHallModel" "bestGrades" "I", Cond.methodLink RX9 97 yX9_in, Cond.static yX9_in, Cond.initialized RX9, Cond.code yX9_in cX9_in 3 (some .boolean), Cond.methodLink RX9 222 yX9_findRound, Cond.instanceMethod yX9_findRound, Cond.selects RX9 yX9_findRound yX9_findRound, Cond.code yX9_findRound cX9_findRound 7 none, Cond.fieldLink RX9 73 "FeatherHallModel" "courts" "I", Cond.fieldLink RX9 88 "FeatherHallModel" "option" "[I", Cond.fieldLink RX9 91 "FeatherHallModel" "mate" "[I", Cond.fieldLink RX9 76 "FeatherHallModel" "isThere" "[Z", Cond.methodLink RX9 203 yX9_thereMany, Cond.instanceMethod yX9_thereMany, Cond.selects RX9 yX9_thereMany yX9_thereMany, Cond.code yX9_thereMany cX9_thereMany 3 (some .int), Cond.methodLink RX9 218 yX9_lookAtRound, Cond.instanceMethod yX9_lookAtRound, Cond.selects RX9 yX9_lookAtRound yX9_lookAtRound, Cond.code yX9_lookAtRound cX9_lookAtRound 7 none]
def wsX9_round_r2 : List Cond := [Cond.fieldLink RX9 82 "FeatherHallModel" "waited" "[I", Cond.fieldLink RX9 85 "FeatherHallModel" "had" "[I", Cond.fieldLink RX9 79 "FeatherHallModel" "grade" "[I", Cond.fieldLink RX9 94 "FeatherHallModel" "best" "[I", Cond.methodLink RX9 101 yX9_size, Cond.static yX9_size, Cond.code yX9_size cX9_size 1 (some .int)]
def wsX9_round : List Cond := .code yX9_round cX9_round 2 (some .int) :: ((wsX9_round_r1 ++ wsX9_round_r2) ++ wsX90)
def wsX9_played_r1 : List Cond := [Cond.fieldLink RX9 76 "FeatherHallModel" "isThere" "[Z", Cond.fieldLink RX9 82 "FeatherHallModel" "waited" "[I", Cond.fieldLink RX9 94 "FeatherHallModel" "best" "[I", Cond.fieldLink RX9 85 "FeatherHallModel" "had" "[I", Cond.fieldLink RX9 225 "FeatherHallModel" "roundsPlayed" "I", Cond.fieldLink RX9 206 "FeatherHallModel" "bestGames" "I", Cond.methodLink RX9 222 yX9_findRound, Cond.instanceMethod yX9_findRound, Cond.selects RX9 yX9_findRound yX9_findRound, Cond.initialized RX9, Cond.code yX9_findRound cX9_findRound 7 none, Cond.fieldLink RX9 73 "FeatherHallModel" "courts" "I", Cond.fieldLink RX9 88 "FeatherHallModel" "option" "[I", Cond.fieldLink RX9 91 "FeatherHallModel" "mate" "[I", Cond.methodLink RX9 203 yX9_thereMany, Cond.instanceMethod yX9_thereMany, Cond.selects RX9 yX9_thereMany yX9_thereMany, Cond.code yX9_thereMany cX9_thereMany 3 (some .int), Cond.methodLink RX9 218 yX9_lookAtRound, Cond.instanceMethod yX9_lookAtRound, Cond.selects RX9 yX9_lookAtRound yX9_lookAtRound, Cond.code yX9_lookAtRound cX9_lookAtRound 7 none, Cond.fieldLink RX9 79 "FeatherHallModel" "grade" "[I", Cond.fieldLink RX9 209 "FeatherHallModel" "bestWaited" "I"]
def wsX9_played_r2 : List Cond := [Cond.fieldLink RX9 212 "FeatherHallModel" "bestHad" "I", Cond.fieldLink RX9 215 "FeatherHallModel" "bestGrades" "I", Cond.methodLink RX9 101 yX9_size, Cond.static yX9_size, Cond.code yX9_size cX9_size 1 (some .int), Cond.methodLink RX9 97 yX9_in, Cond.static yX9_in, Cond.code yX9_in cX9_in 3 (some .boolean)]
def wsX9_played : List Cond := .code yX9_played cX9_played 2 (some .int) :: ((wsX9_played_r1 ++ wsX9_played_r2) ++ wsX90)
def wsX9_had : List Cond := .code yX9_had cX9_had 3 (some .int) :: ([.fieldLink RX9 85 "FeatherHallModel" "had" "[I", .methodLink RX9 125 yX9_isPlayer, .static yX9_isPlayer, .initialized RX9, .code yX9_isPlayer cX9_isPlayer 1 (some .boolean), .methodLink RX9 97 yX9_in, .static yX9_in, .code yX9_in cX9_in 3 (some .boolean)] ++ wsX90)
def wsX9_of : List Cond := .code yX9_of cX9_of 5 (some .int) :: ([.fieldLink RX9 25 "FeatherHallModel" "tired" "[I", .fieldLink RX9 76 "FeatherHallModel" "isThere" "[Z", .fieldLink RX9 82 "FeatherHallModel" "waited" "[I", .fieldLink RX9 79 "FeatherHallModel" "grade" "[I", .fieldLink RX9 85 "FeatherHallModel" "had" "[I", .methodLink RX9 125 yX9_isPlayer, .static yX9_isPlayer, .initialized RX9, .code yX9_isPlayer cX9_isPlayer 1 (some .boolean), .methodLink RX9 97 yX9_in, .static yX9_in, .code yX9_in cX9_in 3 (some .boolean), .methodLink RX9 132 yX9_stride, .instanceMethod yX9_stride, .selects RX9 yX9_stride yX9_stride, .code yX9_stride cX9_stride 3 (some .int), .fieldLink RX9 19 "FeatherHallModel" "pace" "[I"] ++ wsX90)
def wsX9_count : List Cond := .code yX9_count cX9_count 2 (some .int) :: ([.fieldLink RX9 176 "FeatherHallModel" "notes" "I", .fieldLink RX9 225 "FeatherHallModel" "roundsPlayed" "I", .fieldLink RX9 197 "FeatherHallModel" "planned" "I", .methodLink RX9 191 yX9_triedMany, .instanceMethod yX9_triedMany, .selects RX9 yX9_triedMany yX9_triedMany, .initialized RX9, .code yX9_triedMany cX9_triedMany 3 (some .int), .methodLink RX9 182 yX9_isTried, .instanceMethod yX9_isTried, .selects RX9 yX9_isTried yX9_isTried, .code yX9_isTried cX9_isTried 3 (some .boolean), .methodLink RX9 179 yX9_tallyOf, .instanceMethod yX9_tallyOf, .selects RX9 yX9_tallyOf yX9_tallyOf, .code yX9_tallyOf cX9_tallyOf 7 (some .int), .fieldLink RX9 50 "FeatherHallModel" "noteZone" "[I", .fieldLink RX9 53 "FeatherHallModel" "noteKind" "[I", .methodLink RX9 203 yX9_thereMany, .instanceMethod yX9_thereMany, .selects RX9 yX9_thereMany yX9_thereMany, .code yX9_thereMany cX9_thereMany 3 (some .int), .fieldLink RX9 76 "FeatherHallModel" "isThere" "[Z"] ++ wsX90)
def wsJ9_abs_0f7a4 : List Cond := .code yJ9_abs_0f7a4 cJ9_abs_0f7a4 1 (some .int) :: ([])
def wsJ9_max_7cf53 : List Cond := .code yJ9_max_7cf53 cJ9_max_7cf53 2 (some .int) :: ([])
def wsJ9_min_7cf53 : List Cond := .code yJ9_min_7cf53 cJ9_min_7cf53 2 (some .int) :: ([])
end
section
theorem dX0_init_0 : decode cX0_init 0 = .ok (.aload_n 0, 1) := by decide +kernel
theorem dX0_init_1 : decode cX0_init 1 = .ok (.invokespecial 3, 3) := by decide +kernel
theorem dX0_init_4 : decode cX0_init 4 = .ok (.aload_n 0, 1) := by decide +kernel
theorem dX0_init_5 : decode cX0_init 5 = .ok (.iconst 4, 1) := by decide +kernel
theorem dX0_init_6 : decode cX0_init 6 = .ok (.newarray .int, 2) := by decide +kernel
theorem dX0_init_8 : decode cX0_init 8 = .ok (.dup, 1) := by decide +kernel
theorem dX0_init_9 : decode cX0_init 9 = .ok (.iconst 0, 1) := by decide +kernel
theorem dX0_init_10 : decode cX0_init 10 = .ok (.bipush 60, 2) := by decide +kernel
theorem dX0_init_12 : decode cX0_init 12 = .ok (.iastore, 1) := by decide +kernel
theorem dX0_init_13 : decode cX0_init 13 = .ok (.dup, 1) := by decide +kernel
theorem dX0_init_14 : decode cX0_init 14 = .ok (.iconst 1, 1) := by decide +kernel
theorem dX0_init_15 : decode cX0_init 15 = .ok (.bipush 20, 2) := by decide +kernel
theorem dX0_init_17 : decode cX0_init 17 = .ok (.iastore, 1) := by decide +kernel
theorem dX0_init_18 : decode cX0_init 18 = .ok (.dup, 1) := by decide +kernel
theorem dX0_init_19 : decode cX0_init 19 = .ok (.iconst 2, 1) := by decide +kernel
theorem dX0_init_20 : decode cX0_init 20 = .ok (.bipush 30, 2) := by decide +kernel
theorem dX0_init_22 : decode cX0_init 22 = .ok (.iastore, 1) := by decide +kernel
theorem dX0_init_23 : decode cX0_init 23 = .ok (.dup, 1) := by decide +kernel
theorem dX0_init_24 : decode cX0_init 24 = .ok (.iconst 3, 1) := by decide +kernel
theorem dX0_init_25 : decode cX0_init 25 = .ok (.bipush 40, 2) := by decide +kernel
theorem dX0_init_27 : decode cX0_init 27 = .ok (.iastore, 1) := by decide +kernel
theorem dX0_init_28 : decode cX0_init 28 = .ok (.putfield 9, 3) := by decide +kernel
theorem dX0_init_31 : decode cX0_init 31 = .ok (.aload_n 0, 1) := by decide +kernel
theorem dX0_init_32 : decode cX0_init 32 = .ok (.iconst 4, 1) := by decide +kernel
theorem dX0_init_33 : decode cX0_init 33 = .ok (.newarray .int, 2) := by decide +kernel
theorem dX0_init_35 : decode cX0_init 35 = .ok (.dup, 1) := by decide +kernel
theorem dX0_init_36 : decode cX0_init 36 = .ok (.iconst 0, 1) := by decide +kernel
theorem dX0_init_37 : decode cX0_init 37 = .ok (.bipush 30, 2) := by decide +kernel
theorem dX0_init_39 : decode cX0_init 39 = .ok (.iastore, 1) := by decide +kernel
theorem dX0_init_40 : decode cX0_init 40 = .ok (.dup, 1) := by decide +kernel
theorem dX0_init_41 : decode cX0_init 41 = .ok (.iconst 1, 1) := by decide +kernel
theorem dX0_init_42 : decode cX0_init 42 = .ok (.iconst 5, 1) := by decide +kernel
theorem dX0_init_43 : decode cX0_init 43 = .ok (.iastore, 1) := by decide +kernel
theorem dX0_init_44 : decode cX0_init 44 = .ok (.dup, 1) := by decide +kernel
theorem dX0_init_45 : decode cX0_init 45 = .ok (.iconst 2, 1) := by decide +kernel
theorem dX0_init_46 : decode cX0_init 46 = .ok (.bipush 20, 2) := by decide +kernel
theorem dX0_init_48 : decode cX0_init 48 = .ok (.iastore, 1) := by decide +kernel
theorem dX0_init_49 : decode cX0_init 49 = .ok (.dup, 1) := by decide +kernel
theorem dX0_init_50 : decode cX0_init 50 = .ok (.iconst 3, 1) := by decide +kernel
theorem dX0_init_51 : decode cX0_init 51 = .ok (.bipush 15, 2) := by decide +kernel
theorem dX0_init_53 : decode cX0_init 53 = .ok (.iastore, 1) := by decide +kernel
theorem dX0_init_54 : decode cX0_init 54 = .ok (.putfield 15, 3) := by decide +kernel
theorem dX0_init_57 : decode cX0_init 57 = .ok (.aload_n 0, 1) := by decide +kernel
theorem dX0_init_58 : decode cX0_init 58 = .ok (.iconst 4, 1) := by decide +kernel
theorem dX0_init_59 : decode cX0_init 59 = .ok (.newarray .int, 2) := by decide +kernel
theorem dX0_init_61 : decode cX0_init 61 = .ok (.dup, 1) := by decide +kernel
theorem dX0_init_62 : decode cX0_init 62 = .ok (.iconst 0, 1) := by decide +kernel
theorem dX0_init_63 : decode cX0_init 63 = .ok (.iconst 2, 1) := by decide +kernel
theorem dX0_init_64 : decode cX0_init 64 = .ok (.iastore, 1) := by decide +kernel
theorem dX0_init_65 : decode cX0_init 65 = .ok (.dup, 1) := by decide +kernel
theorem dX0_init_66 : decode cX0_init 66 = .ok (.iconst 1, 1) := by decide +kernel
theorem dX0_init_67 : decode cX0_init 67 = .ok (.iconst 3, 1) := by decide +kernel
theorem dX0_init_68 : decode cX0_init 68 = .ok (.iastore, 1) := by decide +kernel
theorem dX0_init_69 : decode cX0_init 69 = .ok (.dup, 1) := by decide +kernel
theorem dX0_init_70 : decode cX0_init 70 = .ok (.iconst 2, 1) := by decide +kernel
theorem dX0_init_71 : decode cX0_init 71 = .ok (.iconst 2, 1) := by decide +kernel
theorem dX0_init_72 : decode cX0_init 72 = .ok (.iastore, 1) := by decide +kernel
theorem dX0_init_73 : decode cX0_init 73 = .ok (.dup, 1) := by decide +kernel
theorem dX0_init_74 : decode cX0_init 74 = .ok (.iconst 3, 1) := by decide +kernel
theorem dX0_init_75 : decode cX0_init 75 = .ok (.iconst 3, 1) := by decide +kernel
theorem dX0_init_76 : decode cX0_init 76 = .ok (.iastore, 1) := by decide +kernel
theorem dX0_init_77 : decode cX0_init 77 = .ok (.putfield 18, 3) := by decide +kernel
theorem dX0_init_80 : decode cX0_init 80 = .ok (.aload_n 0, 1) := by decide +kernel
theorem dX0_init_81 : decode cX0_init 81 = .ok (.sipush 1024, 3) := by decide +kernel
theorem dX0_init_84 : decode cX0_init 84 = .ok (.newarray .long, 2) := by decide +kernel
theorem dX0_init_86 : decode cX0_init 86 = .ok (.putfield 21, 3) := by decide +kernel
theorem dX0_init_89 : decode cX0_init 89 = .ok (.aload_n 0, 1) := by decide +kernel
theorem dX0_init_90 : decode cX0_init 90 = .ok (.iconst 0, 1) := by decide +kernel
theorem dX0_init_91 : decode cX0_init 91 = .ok (.putfield 25, 3) := by decide +kernel
theorem dX0_init_94 : decode cX0_init 94 = .ok (.return_, 1) := by decide +kernel
theorem dX0_setKind_0 : decode cX0_setKind 0 = .ok (.aload_n 0, 1) := by decide +kernel
theorem dX0_setKind_1 : decode cX0_setKind 1 = .ok (.getfield 9, 3) := by decide +kernel
theorem dX0_setKind_4 : decode cX0_setKind 4 = .ok (.iload_n 1, 1) := by decide +kernel
theorem dX0_setKind_5 : decode cX0_setKind 5 = .ok (.iload_n 2, 1) := by decide +kernel
theorem dX0_setKind_6 : decode cX0_setKind 6 = .ok (.iastore, 1) := by decide +kernel
theorem dX0_setKind_7 : decode cX0_setKind 7 = .ok (.aload_n 0, 1) := by decide +kernel
theorem dX0_setKind_8 : decode cX0_setKind 8 = .ok (.getfield 15, 3) := by decide +kernel
theorem dX0_setKind_11 : decode cX0_setKind 11 = .ok (.iload_n 1, 1) := by decide +kernel
theorem dX0_setKind_12 : decode cX0_setKind 12 = .ok (.iload_n 3, 1) := by decide +kernel
theorem dX0_setKind_13 : decode cX0_setKind 13 = .ok (.iastore, 1) := by decide +kernel
theorem dX0_setKind_14 : decode cX0_setKind 14 = .ok (.aload_n 0, 1) := by decide +kernel
theorem dX0_setKind_15 : decode cX0_setKind 15 = .ok (.getfield 18, 3) := by decide +kernel
theorem dX0_setKind_18 : decode cX0_setKind 18 = .ok (.iload_n 1, 1) := by decide +kernel
theorem dX0_setKind_19 : decode cX0_setKind 19 = .ok (.iload 4, 2) := by decide +kernel
theorem dX0_setKind_21 : decode cX0_setKind 21 = .ok (.iastore, 1) := by decide +kernel
theorem dX0_setKind_22 : decode cX0_setKind 22 = .ok (.iconst 0, 1) := by decide +kernel
theorem dX0_setKind_23 : decode cX0_setKind 23 = .ok (.istore 5, 2) := by decide +kernel
theorem dX0_setKind_25 : decode cX0_setKind 25 = .ok (.iload 5, 2) := by decide +kernel
theorem dX0_setKind_27 : decode cX0_setKind 27 = .ok (.sipush 256, 3) := by decide +kernel
theorem dX0_setKind_30 : decode cX0_setKind 30 = .ok (.if_icmp .ge 25, 3) := by decide +kernel
theorem dX0_setKind_33 : decode cX0_setKind 33 = .ok (.aload_n 0, 1) := by decide +kernel
theorem dX0_setKind_34 : decode cX0_setKind 34 = .ok (.getfield 21, 3) := by decide +kernel
theorem dX0_setKind_37 : decode cX0_setKind 37 = .ok (.iload_n 1, 1) := by decide +kernel
theorem dX0_setKind_38 : decode cX0_setKind 38 = .ok (.bipush 16, 2) := by decide +kernel
theorem dX0_setKind_40 : decode cX0_setKind 40 = .ok (.imul, 1) := by decide +kernel
theorem dX0_setKind_41 : decode cX0_setKind 41 = .ok (.bipush 16, 2) := by decide +kernel
theorem dX0_setKind_43 : decode cX0_setKind 43 = .ok (.imul, 1) := by decide +kernel
theorem dX0_setKind_44 : decode cX0_setKind 44 = .ok (.iload 5, 2) := by decide +kernel
theorem dX0_setKind_46 : decode cX0_setKind 46 = .ok (.iadd, 1) := by decide +kernel
theorem dX0_setKind_47 : decode cX0_setKind 47 = .ok (.lconst 0, 1) := by decide +kernel
theorem dX0_setKind_48 : decode cX0_setKind 48 = .ok (.lastore, 1) := by decide +kernel
theorem dX0_setKind_49 : decode cX0_setKind 49 = .ok (.iinc 5 1, 3) := by decide +kernel
theorem dX0_setKind_52 : decode cX0_setKind 52 = .ok (.goto (-27), 3) := by decide +kernel
theorem dX0_setKind_55 : decode cX0_setKind 55 = .ok (.return_, 1) := by decide +kernel
set_option maxRecDepth 20000 in
theorem ggX0_setBroken_J7_fill_d0a16 : GoodIn wsX0_setBroken wsJ7_fill_d0a16 := goodIn_r _ [6] (by decide +kernel) (by decide +kernel)
set_option maxRecDepth 20000 in
theorem gX0_setBroken_J7_fill_d0a16 : GoodIn wsX0_setBroken (va_wsS RX0 29 yJ7_fill_d0a16 wsJ7_fill_d0a16) := goodIn_app (goodIn_of _ (by decide +kernel)) ggX0_setBroken_J7_fill_d0a16
theorem dX0_setBroken_0 : decode cX0_setBroken 0 = .ok (.aload_n 0, 1) := by decide +kernel
theorem dX0_setBroken_1 : decode cX0_setBroken 1 = .ok (.getfield 25, 3) := by decide +kernel
theorem dX0_setBroken_4 : decode cX0_setBroken 4 = .ok (.istore_n 2, 1) := by decide +kernel
theorem dX0_setBroken_5 : decode cX0_setBroken 5 = .ok (.aload_n 0, 1) := by decide +kernel
theorem dX0_setBroken_6 : decode cX0_setBroken 6 = .ok (.iload_n 1, 1) := by decide +kernel
theorem dX0_setBroken_7 : decode cX0_setBroken 7 = .ok (.putfield 25, 3) := by decide +kernel
theorem dX0_setBroken_10 : decode cX0_setBroken 10 = .ok (.aload_n 0, 1) := by decide +kernel
theorem dX0_setBroken_11 : decode cX0_setBroken 11 = .ok (.getfield 21, 3) := by decide +kernel
theorem dX0_setBroken_14 : decode cX0_setBroken 14 = .ok (.lconst 0, 1) := by decide +kernel
theorem dX0_setBroken_15 : decode cX0_setBroken 15 = .ok (.invokestatic 29, 3) := by decide +kernel
theorem dX0_setBroken_18 : decode cX0_setBroken 18 = .ok (.iload_n 2, 1) := by decide +kernel
theorem dX0_setBroken_19 : decode cX0_setBroken 19 = .ok (.ireturn, 1) := by decide +kernel
theorem dX0_landingOf_0 : decode cX0_landingOf 0 = .ok (.lload_n 0, 1) := by decide +kernel
theorem dX0_landingOf_1 : decode cX0_landingOf 1 = .ok (.ldc2_w 35, 3) := by decide +kernel
theorem dX0_landingOf_4 : decode cX0_landingOf 4 = .ok (.land, 1) := by decide +kernel
theorem dX0_landingOf_5 : decode cX0_landingOf 5 = .ok (.l2i, 1) := by decide +kernel
theorem dX0_landingOf_6 : decode cX0_landingOf 6 = .ok (.ireturn, 1) := by decide +kernel
theorem dX0_firstMetOf_0 : decode cX0_firstMetOf 0 = .ok (.lload_n 0, 1) := by decide +kernel
theorem dX0_firstMetOf_1 : decode cX0_firstMetOf 1 = .ok (.bipush 6, 2) := by decide +kernel
theorem dX0_firstMetOf_3 : decode cX0_firstMetOf 3 = .ok (.lshr, 1) := by decide +kernel
theorem dX0_firstMetOf_4 : decode cX0_firstMetOf 4 = .ok (.ldc2_w 35, 3) := by decide +kernel
theorem dX0_firstMetOf_7 : decode cX0_firstMetOf 7 = .ok (.land, 1) := by decide +kernel
theorem dX0_firstMetOf_8 : decode cX0_firstMetOf 8 = .ok (.l2i, 1) := by decide +kernel
theorem dX0_firstMetOf_9 : decode cX0_firstMetOf 9 = .ok (.ireturn, 1) := by decide +kernel
set_option maxRecDepth 20000 in
theorem ggX0_isNet_X0_firstMetOf : GoodIn wsX0_isNet wsX0_firstMetOf := goodIn_r _ [4, 5] (by decide +kernel) (by decide +kernel)
set_option maxRecDepth 20000 in
theorem gX0_isNet_X0_firstMetOf : GoodIn wsX0_isNet (va_wsS RX0 37 yX0_firstMetOf wsX0_firstMetOf) := goodIn_app (goodIn_of _ (by decide +kernel)) ggX0_isNet_X0_firstMetOf
theorem dX0_isNet_0 : decode cX0_isNet 0 = .ok (.lload_n 0, 1) := by decide +kernel
theorem dX0_isNet_1 : decode cX0_isNet 1 = .ok (.invokestatic 37, 3) := by decide +kernel
theorem dX0_isNet_4 : decode cX0_isNet 4 = .ok (.ifCond .ne 7, 3) := by decide +kernel
theorem dX0_isNet_7 : decode cX0_isNet 7 = .ok (.iconst 1, 1) := by decide +kernel
theorem dX0_isNet_8 : decode cX0_isNet 8 = .ok (.goto 4, 3) := by decide +kernel
theorem dX0_isNet_11 : decode cX0_isNet 11 = .ok (.iconst 0, 1) := by decide +kernel
theorem dX0_isNet_12 : decode cX0_isNet 12 = .ok (.ireturn, 1) := by decide +kernel
set_option maxRecDepth 20000 in
theorem ggX0_cellAt_X0_landingOf : GoodIn wsX0_cellAt wsX0_landingOf := goodIn_r _ [5, 6] (by decide +kernel) (by decide +kernel)
set_option maxRecDepth 20000 in
theorem gX0_cellAt_X0_landingOf : GoodIn wsX0_cellAt (va_wsS RX0 41 yX0_landingOf wsX0_landingOf) := goodIn_app (goodIn_of _ (by decide +kernel)) ggX0_cellAt_X0_landingOf
theorem dX0_cellAt_0 : decode cX0_cellAt 0 = .ok (.lload_n 0, 1) := by decide +kernel
theorem dX0_cellAt_1 : decode cX0_cellAt 1 = .ok (.bipush 12, 2) := by decide +kernel
theorem dX0_cellAt_3 : decode cX0_cellAt 3 = .ok (.iconst 4, 1) := by decide +kernel
theorem dX0_cellAt_4 : decode cX0_cellAt 4 = .ok (.lload_n 0, 1) := by decide +kernel
theorem dX0_cellAt_5 : decode cX0_cellAt 5 = .ok (.invokestatic 41, 3) := by decide +kernel
theorem dX0_cellAt_8 : decode cX0_cellAt 8 = .ok (.iload_n 2, 1) := by decide +kernel
theorem dX0_cellAt_9 : decode cX0_cellAt 9 = .ok (.isub, 1) := by decide +kernel
theorem dX0_cellAt_10 : decode cX0_cellAt 10 = .ok (.imul, 1) := by decide +kernel
theorem dX0_cellAt_11 : decode cX0_cellAt 11 = .ok (.iadd, 1) := by decide +kernel
theorem dX0_cellAt_12 : decode cX0_cellAt 12 = .ok (.lshr, 1) := by decide +kernel
theorem dX0_cellAt_13 : decode cX0_cellAt 13 = .ok (.ldc2_w 44, 3) := by decide +kernel
theorem dX0_cellAt_16 : decode cX0_cellAt 16 = .ok (.land, 1) := by decide +kernel
theorem dX0_cellAt_17 : decode cX0_cellAt 17 = .ok (.l2i, 1) := by decide +kernel
theorem dX0_cellAt_18 : decode cX0_cellAt 18 = .ok (.ireturn, 1) := by decide +kernel
set_option maxRecDepth 20000 in
theorem ggX0_pathOf_X0_workOut : GoodIn wsX0_pathOf wsX0_workOut := goodIn_r _ [6, 7, 8, 9, 10, 11, 12, 13, 14, 15, 5, 16, 17, 18, 19, 20, 21, 22, 23, 24, 25, 26, 27, 28, 29, 30, 31, 32, 33, 34, 35, 36, 37, 38, 39, 40, 41, 42, 43, 44, 45, 46, 47] (by decide +kernel) (by decide +kernel)
set_option maxRecDepth 20000 in
theorem gX0_pathOf_X0_workOut : GoodIn wsX0_pathOf (wsV RX0 46 RX0 yX0_workOut wsX0_workOut) := goodIn_app (goodIn_of _ (by decide +kernel)) ggX0_pathOf_X0_workOut
theorem dX0_pathOf_0 : decode cX0_pathOf 0 = .ok (.iload_n 1, 1) := by decide +kernel
theorem dX0_pathOf_1 : decode cX0_pathOf 1 = .ok (.bipush 16, 2) := by decide +kernel
theorem dX0_pathOf_3 : decode cX0_pathOf 3 = .ok (.imul, 1) := by decide +kernel
theorem dX0_pathOf_4 : decode cX0_pathOf 4 = .ok (.iload_n 2, 1) := by decide +kernel
theorem dX0_pathOf_5 : decode cX0_pathOf 5 = .ok (.iadd, 1) := by decide +kernel
theorem dX0_pathOf_6 : decode cX0_pathOf 6 = .ok (.bipush 16, 2) := by decide +kernel
theorem dX0_pathOf_8 : decode cX0_pathOf 8 = .ok (.imul, 1) := by decide +kernel
theorem dX0_pathOf_9 : decode cX0_pathOf 9 = .ok (.iload_n 3, 1) := by decide +kernel
theorem dX0_pathOf_10 : decode cX0_pathOf 10 = .ok (.iadd, 1) := by decide +kernel
theorem dX0_pathOf_11 : decode cX0_pathOf 11 = .ok (.istore 4, 2) := by decide +kernel
theorem dX0_pathOf_13 : decode cX0_pathOf 13 = .ok (.aload_n 0, 1) := by decide +kernel
theorem dX0_pathOf_14 : decode cX0_pathOf 14 = .ok (.getfield 21, 3) := by decide +kernel
theorem dX0_pathOf_17 : decode cX0_pathOf 17 = .ok (.iload 4, 2) := by decide +kernel
theorem dX0_pathOf_19 : decode cX0_pathOf 19 = .ok (.laload, 1) := by decide +kernel
theorem dX0_pathOf_20 : decode cX0_pathOf 20 = .ok (.lconst 0, 1) := by decide +kernel
theorem dX0_pathOf_21 : decode cX0_pathOf 21 = .ok (.lcmp, 1) := by decide +kernel
theorem dX0_pathOf_22 : decode cX0_pathOf 22 = .ok (.ifCond .ne 17, 3) := by decide +kernel
theorem dX0_pathOf_25 : decode cX0_pathOf 25 = .ok (.aload_n 0, 1) := by decide +kernel
theorem dX0_pathOf_26 : decode cX0_pathOf 26 = .ok (.getfield 21, 3) := by decide +kernel
theorem dX0_pathOf_29 : decode cX0_pathOf 29 = .ok (.iload 4, 2) := by decide +kernel
theorem dX0_pathOf_31 : decode cX0_pathOf 31 = .ok (.aload_n 0, 1) := by decide +kernel
theorem dX0_pathOf_32 : decode cX0_pathOf 32 = .ok (.iload_n 1, 1) := by decide +kernel
theorem dX0_pathOf_33 : decode cX0_pathOf 33 = .ok (.iload_n 2, 1) := by decide +kernel
theorem dX0_pathOf_34 : decode cX0_pathOf 34 = .ok (.iload_n 3, 1) := by decide +kernel
theorem dX0_pathOf_35 : decode cX0_pathOf 35 = .ok (.invokevirtual 46, 3) := by decide +kernel
theorem dX0_pathOf_38 : decode cX0_pathOf 38 = .ok (.lastore, 1) := by decide +kernel
theorem dX0_pathOf_39 : decode cX0_pathOf 39 = .ok (.aload_n 0, 1) := by decide +kernel
theorem dX0_pathOf_40 : decode cX0_pathOf 40 = .ok (.getfield 21, 3) := by decide +kernel
theorem dX0_pathOf_43 : decode cX0_pathOf 43 = .ok (.iload 4, 2) := by decide +kernel
theorem dX0_pathOf_45 : decode cX0_pathOf 45 = .ok (.laload, 1) := by decide +kernel
theorem dX0_pathOf_46 : decode cX0_pathOf 46 = .ok (.lreturn, 1) := by decide +kernel
set_option maxRecDepth 20000 in
theorem ggX0_workOutFrom_X0_pathOf : GoodIn wsX0_workOutFrom wsX0_pathOf := goodIn_r _ [5, 6, 7, 8, 9, 4, 10, 11, 12, 13, 14, 15, 16, 17, 18, 19, 20, 21, 22, 23, 24, 25, 26, 27, 28, 29, 30, 31, 32, 33, 34, 35, 36, 37, 38, 39, 40, 41, 42, 43, 44, 45, 46, 47, 48, 49, 50, 51] (by decide +kernel) (by decide +kernel)
set_option maxRecDepth 20000 in
theorem gX0_workOutFrom_X0_pathOf : GoodIn wsX0_workOutFrom (wsV RX0 50 RX0 yX0_pathOf wsX0_pathOf) := goodIn_app (goodIn_of _ (by decide +kernel)) ggX0_workOutFrom_X0_pathOf
theorem dX0_workOutFrom_0 : decode cX0_workOutFrom 0 = .ok (.iconst 0, 1) := by decide +kernel
theorem dX0_workOutFrom_1 : decode cX0_workOutFrom 1 = .ok (.istore_n 2, 1) := by decide +kernel
theorem dX0_workOutFrom_2 : decode cX0_workOutFrom 2 = .ok (.iload_n 2, 1) := by decide +kernel
theorem dX0_workOutFrom_3 : decode cX0_workOutFrom 3 = .ok (.bipush 64, 2) := by decide +kernel
theorem dX0_workOutFrom_5 : decode cX0_workOutFrom 5 = .ok (.if_icmp .ge 23, 3) := by decide +kernel
theorem dX0_workOutFrom_8 : decode cX0_workOutFrom 8 = .ok (.aload_n 0, 1) := by decide +kernel
theorem dX0_workOutFrom_9 : decode cX0_workOutFrom 9 = .ok (.iload_n 2, 1) := by decide +kernel
theorem dX0_workOutFrom_10 : decode cX0_workOutFrom 10 = .ok (.bipush 16, 2) := by decide +kernel
theorem dX0_workOutFrom_12 : decode cX0_workOutFrom 12 = .ok (.idiv, 1) := by decide +kernel
theorem dX0_workOutFrom_13 : decode cX0_workOutFrom 13 = .ok (.iload_n 1, 1) := by decide +kernel
theorem dX0_workOutFrom_14 : decode cX0_workOutFrom 14 = .ok (.iload_n 2, 1) := by decide +kernel
theorem dX0_workOutFrom_15 : decode cX0_workOutFrom 15 = .ok (.bipush 16, 2) := by decide +kernel
theorem dX0_workOutFrom_17 : decode cX0_workOutFrom 17 = .ok (.irem, 1) := by decide +kernel
theorem dX0_workOutFrom_18 : decode cX0_workOutFrom 18 = .ok (.invokevirtual 50, 3) := by decide +kernel
theorem dX0_workOutFrom_21 : decode cX0_workOutFrom 21 = .ok (.pop2, 1) := by decide +kernel
theorem dX0_workOutFrom_22 : decode cX0_workOutFrom 22 = .ok (.iinc 2 1, 3) := by decide +kernel
theorem dX0_workOutFrom_25 : decode cX0_workOutFrom 25 = .ok (.goto (-23), 3) := by decide +kernel
theorem dX0_workOutFrom_28 : decode cX0_workOutFrom 28 = .ok (.return_, 1) := by decide +kernel
theorem dX0_knownPath_0 : decode cX0_knownPath 0 = .ok (.aload_n 0, 1) := by decide +kernel
theorem dX0_knownPath_1 : decode cX0_knownPath 1 = .ok (.getfield 21, 3) := by decide +kernel
theorem dX0_knownPath_4 : decode cX0_knownPath 4 = .ok (.iload_n 2, 1) := by decide +kernel
theorem dX0_knownPath_5 : decode cX0_knownPath 5 = .ok (.bipush 16, 2) := by decide +kernel
theorem dX0_knownPath_7 : decode cX0_knownPath 7 = .ok (.idiv, 1) := by decide +kernel
theorem dX0_knownPath_8 : decode cX0_knownPath 8 = .ok (.bipush 16, 2) := by decide +kernel
theorem dX0_knownPath_10 : decode cX0_knownPath 10 = .ok (.imul, 1) := by decide +kernel
theorem dX0_knownPath_11 : decode cX0_knownPath 11 = .ok (.iload_n 1, 1) := by decide +kernel
theorem dX0_knownPath_12 : decode cX0_knownPath 12 = .ok (.iadd, 1) := by decide +kernel
theorem dX0_knownPath_13 : decode cX0_knownPath 13 = .ok (.bipush 16, 2) := by decide +kernel
theorem dX0_knownPath_15 : decode cX0_knownPath 15 = .ok (.imul, 1) := by decide +kernel
theorem dX0_knownPath_16 : decode cX0_knownPath 16 = .ok (.iload_n 2, 1) := by decide +kernel
theorem dX0_knownPath_17 : decode cX0_knownPath 17 = .ok (.bipush 16, 2) := by decide +kernel
theorem dX0_knownPath_19 : decode cX0_knownPath 19 = .ok (.irem, 1) := by decide +kernel
theorem dX0_knownPath_20 : decode cX0_knownPath 20 = .ok (.iadd, 1) := by decide +kernel
theorem dX0_knownPath_21 : decode cX0_knownPath 21 = .ok (.laload, 1) := by decide +kernel
theorem dX0_knownPath_22 : decode cX0_knownPath 22 = .ok (.lreturn, 1) := by decide +kernel
set_option maxRecDepth 20000 in
theorem ggX0_placeBehind_X0_lengthOf : GoodIn wsX0_placeBehind wsX0_lengthOf := goodIn_r _ [9, 10, 11, 4, 12, 13, 14, 15, 16, 17, 18, 19] (by decide +kernel) (by decide +kernel)
set_option maxRecDepth 20000 in
theorem gX0_placeBehind_X0_lengthOf : GoodIn wsX0_placeBehind (va_wsS RX0 53 yX0_lengthOf wsX0_lengthOf) := goodIn_app (goodIn_of _ (by decide +kernel)) ggX0_placeBehind_X0_lengthOf
set_option maxRecDepth 20000 in
theorem ggX0_placeBehind_X0_wholeOf : GoodIn wsX0_placeBehind wsX0_wholeOf := goodIn_r _ [23, 24, 36, 37, 38, 39, 40] (by decide +kernel) (by decide +kernel)
set_option maxRecDepth 20000 in
theorem gX0_placeBehind_X0_wholeOf : GoodIn wsX0_placeBehind (wsV RX0 57 RX0 yX0_wholeOf wsX0_wholeOf) := goodIn_app (goodIn_of _ (by decide +kernel)) ggX0_placeBehind_X0_wholeOf
set_option maxRecDepth 20000 in
theorem ggX0_placeBehind_X0_slowed : GoodIn wsX0_placeBehind wsX0_slowed := goodIn_r _ [28, 29, 24, 30, 31, 4, 32, 36, 37, 38, 39, 40] (by decide +kernel) (by decide +kernel)
set_option maxRecDepth 20000 in
theorem gX0_placeBehind_X0_slowed : GoodIn wsX0_placeBehind (wsV RX0 66 RX0 yX0_slowed wsX0_slowed) := goodIn_app (goodIn_of _ (by decide +kernel)) ggX0_placeBehind_X0_slowed
set_option maxRecDepth 20000 in
theorem ggX0_placeBehind_X0_placeAt : GoodIn wsX0_placeBehind wsX0_placeAt := goodIn_r _ [35, 13, 14, 15, 16, 17, 18, 19] (by decide +kernel) (by decide +kernel)
set_option maxRecDepth 20000 in
theorem gX0_placeBehind_X0_placeAt : GoodIn wsX0_placeBehind (va_wsS RX0 69 yX0_placeAt wsX0_placeAt) := goodIn_app (goodIn_of _ (by decide +kernel)) ggX0_placeBehind_X0_placeAt
theorem dX0_placeBehind_0 : decode cX0_placeBehind 0 = .ok (.iload_n 2, 1) := by decide +kernel
theorem dX0_placeBehind_1 : decode cX0_placeBehind 1 = .ok (.iload_n 3, 1) := by decide +kernel
theorem dX0_placeBehind_2 : decode cX0_placeBehind 2 = .ok (.invokestatic 53, 3) := by decide +kernel
theorem dX0_placeBehind_5 : decode cX0_placeBehind 5 = .ok (.istore 5, 2) := by decide +kernel
theorem dX0_placeBehind_7 : decode cX0_placeBehind 7 = .ok (.aload_n 0, 1) := by decide +kernel
theorem dX0_placeBehind_8 : decode cX0_placeBehind 8 = .ok (.iload 5, 2) := by decide +kernel
theorem dX0_placeBehind_10 : decode cX0_placeBehind 10 = .ok (.invokevirtual 57, 3) := by decide +kernel
theorem dX0_placeBehind_13 : decode cX0_placeBehind 13 = .ok (.istore 6, 2) := by decide +kernel
theorem dX0_placeBehind_15 : decode cX0_placeBehind 15 = .ok (.aload_n 0, 1) := by decide +kernel
theorem dX0_placeBehind_16 : decode cX0_placeBehind 16 = .ok (.getfield 9, 3) := by decide +kernel
theorem dX0_placeBehind_19 : decode cX0_placeBehind 19 = .ok (.iload_n 1, 1) := by decide +kernel
theorem dX0_placeBehind_20 : decode cX0_placeBehind 20 = .ok (.iaload, 1) := by decide +kernel
theorem dX0_placeBehind_21 : decode cX0_placeBehind 21 = .ok (.istore 7, 2) := by decide +kernel
theorem dX0_placeBehind_23 : decode cX0_placeBehind 23 = .ok (.iconst 0, 1) := by decide +kernel
theorem dX0_placeBehind_24 : decode cX0_placeBehind 24 = .ok (.istore 8, 2) := by decide +kernel
theorem dX0_placeBehind_26 : decode cX0_placeBehind 26 = .ok (.iconst 1, 1) := by decide +kernel
theorem dX0_placeBehind_27 : decode cX0_placeBehind 27 = .ok (.istore 9, 2) := by decide +kernel
theorem dX0_placeBehind_29 : decode cX0_placeBehind 29 = .ok (.iload 9, 2) := by decide +kernel
theorem dX0_placeBehind_31 : decode cX0_placeBehind 31 = .ok (.iload 4, 2) := by decide +kernel
theorem dX0_placeBehind_33 : decode cX0_placeBehind 33 = .ok (.if_icmp .gt 37, 3) := by decide +kernel
theorem dX0_placeBehind_36 : decode cX0_placeBehind 36 = .ok (.iload 8, 2) := by decide +kernel
theorem dX0_placeBehind_38 : decode cX0_placeBehind 38 = .ok (.iload 6, 2) := by decide +kernel
theorem dX0_placeBehind_40 : decode cX0_placeBehind 40 = .ok (.if_icmp .ge 30, 3) := by decide +kernel
theorem dX0_placeBehind_43 : decode cX0_placeBehind 43 = .ok (.iload 6, 2) := by decide +kernel
theorem dX0_placeBehind_45 : decode cX0_placeBehind 45 = .ok (.iload 8, 2) := by decide +kernel
theorem dX0_placeBehind_47 : decode cX0_placeBehind 47 = .ok (.iload 7, 2) := by decide +kernel
theorem dX0_placeBehind_49 : decode cX0_placeBehind 49 = .ok (.iadd, 1) := by decide +kernel
theorem dX0_placeBehind_50 : decode cX0_placeBehind 50 = .ok (.invokestatic 61, 3) := by decide +kernel
theorem dX0_placeBehind_53 : decode cX0_placeBehind 53 = .ok (.istore 8, 2) := by decide +kernel
theorem dX0_placeBehind_55 : decode cX0_placeBehind 55 = .ok (.aload_n 0, 1) := by decide +kernel
theorem dX0_placeBehind_56 : decode cX0_placeBehind 56 = .ok (.iload_n 1, 1) := by decide +kernel
theorem dX0_placeBehind_57 : decode cX0_placeBehind 57 = .ok (.iload 7, 2) := by decide +kernel
theorem dX0_placeBehind_59 : decode cX0_placeBehind 59 = .ok (.invokevirtual 66, 3) := by decide +kernel
theorem dX0_placeBehind_62 : decode cX0_placeBehind 62 = .ok (.istore 7, 2) := by decide +kernel
theorem dX0_placeBehind_64 : decode cX0_placeBehind 64 = .ok (.iinc 9 1, 3) := by decide +kernel
theorem dX0_placeBehind_67 : decode cX0_placeBehind 67 = .ok (.goto (-38), 3) := by decide +kernel
theorem dX0_placeBehind_70 : decode cX0_placeBehind 70 = .ok (.iload_n 2, 1) := by decide +kernel
theorem dX0_placeBehind_71 : decode cX0_placeBehind 71 = .ok (.iload_n 3, 1) := by decide +kernel
theorem dX0_placeBehind_72 : decode cX0_placeBehind 72 = .ok (.iload 5, 2) := by decide +kernel
theorem dX0_placeBehind_74 : decode cX0_placeBehind 74 = .ok (.iload 8, 2) := by decide +kernel
theorem dX0_placeBehind_76 : decode cX0_placeBehind 76 = .ok (.invokestatic 69, 3) := by decide +kernel
theorem dX0_placeBehind_79 : decode cX0_placeBehind 79 = .ok (.ireturn, 1) := by decide +kernel
set_option maxRecDepth 20000 in
theorem ggX0_workOut_X0_lengthOf : GoodIn wsX0_workOut wsX0_lengthOf := goodIn_r _ [11, 12, 13, 4, 14, 15, 16, 17, 18, 19, 20, 21] (by decide +kernel) (by decide +kernel)
set_option maxRecDepth 20000 in
theorem gX0_workOut_X0_lengthOf : GoodIn wsX0_workOut (va_wsS RX0 53 yX0_lengthOf wsX0_lengthOf) := goodIn_app (goodIn_of _ (by decide +kernel)) ggX0_workOut_X0_lengthOf
set_option maxRecDepth 20000 in
theorem ggX0_workOut_X0_wholeOf : GoodIn wsX0_workOut wsX0_wholeOf := goodIn_r _ [25, 26, 38, 39, 40, 41, 42] (by decide +kernel) (by decide +kernel)
set_option maxRecDepth 20000 in
theorem gX0_workOut_X0_wholeOf : GoodIn wsX0_workOut (wsV RX0 57 RX0 yX0_wholeOf wsX0_wholeOf) := goodIn_app (goodIn_of _ (by decide +kernel)) ggX0_workOut_X0_wholeOf
set_option maxRecDepth 20000 in
theorem ggX0_workOut_X0_slowed : GoodIn wsX0_workOut wsX0_slowed := goodIn_r _ [30, 31, 26, 32, 33, 4, 34, 38, 39, 40, 41, 42] (by decide +kernel) (by decide +kernel)
set_option maxRecDepth 20000 in
theorem gX0_workOut_X0_slowed : GoodIn wsX0_workOut (wsV RX0 66 RX0 yX0_slowed wsX0_slowed) := goodIn_app (goodIn_of _ (by decide +kernel)) ggX0_workOut_X0_slowed
set_option maxRecDepth 20000 in
theorem ggX0_workOut_X0_placeAt : GoodIn wsX0_workOut wsX0_placeAt := goodIn_r _ [37, 15, 16, 17, 18, 19, 20, 21] (by decide +kernel) (by decide +kernel)
set_option maxRecDepth 20000 in
theorem gX0_workOut_X0_placeAt : GoodIn wsX0_workOut (va_wsS RX0 69 yX0_placeAt wsX0_placeAt) := goodIn_app (goodIn_of _ (by decide +kernel)) ggX0_workOut_X0_placeAt
theorem dX0_workOut_0 : decode cX0_workOut 0 = .ok (.iload_n 2, 1) := by decide +kernel
theorem dX0_workOut_1 : decode cX0_workOut 1 = .ok (.iload_n 3, 1) := by decide +kernel
theorem dX0_workOut_2 : decode cX0_workOut 2 = .ok (.invokestatic 53, 3) := by decide +kernel
theorem dX0_workOut_5 : decode cX0_workOut 5 = .ok (.istore 4, 2) := by decide +kernel
theorem dX0_workOut_7 : decode cX0_workOut 7 = .ok (.aload_n 0, 1) := by decide +kernel
theorem dX0_workOut_8 : decode cX0_workOut 8 = .ok (.iload 4, 2) := by decide +kernel
theorem dX0_workOut_10 : decode cX0_workOut 10 = .ok (.invokevirtual 57, 3) := by decide +kernel
theorem dX0_workOut_13 : decode cX0_workOut 13 = .ok (.istore 5, 2) := by decide +kernel
theorem dX0_workOut_15 : decode cX0_workOut 15 = .ok (.aload_n 0, 1) := by decide +kernel
theorem dX0_workOut_16 : decode cX0_workOut 16 = .ok (.getfield 9, 3) := by decide +kernel
theorem dX0_workOut_19 : decode cX0_workOut 19 = .ok (.iload_n 1, 1) := by decide +kernel
theorem dX0_workOut_20 : decode cX0_workOut 20 = .ok (.iaload, 1) := by decide +kernel
theorem dX0_workOut_21 : decode cX0_workOut 21 = .ok (.istore 6, 2) := by decide +kernel
theorem dX0_workOut_23 : decode cX0_workOut 23 = .ok (.iconst 0, 1) := by decide +kernel
theorem dX0_workOut_24 : decode cX0_workOut 24 = .ok (.istore 7, 2) := by decide +kernel
theorem dX0_workOut_26 : decode cX0_workOut 26 = .ok (.iconst 0, 1) := by decide +kernel
theorem dX0_workOut_27 : decode cX0_workOut 27 = .ok (.istore 8, 2) := by decide +kernel
theorem dX0_workOut_29 : decode cX0_workOut 29 = .ok (.iconst 0, 1) := by decide +kernel
theorem dX0_workOut_30 : decode cX0_workOut 30 = .ok (.istore 9, 2) := by decide +kernel
theorem dX0_workOut_32 : decode cX0_workOut 32 = .ok (.lconst 0, 1) := by decide +kernel
theorem dX0_workOut_33 : decode cX0_workOut 33 = .ok (.lstore 10, 2) := by decide +kernel
theorem dX0_workOut_35 : decode cX0_workOut 35 = .ok (.iload 7, 2) := by decide +kernel
theorem dX0_workOut_37 : decode cX0_workOut 37 = .ok (.iload 5, 2) := by decide +kernel
theorem dX0_workOut_39 : decode cX0_workOut 39 = .ok (.if_icmp .ge 67, 3) := by decide +kernel
theorem dX0_workOut_42 : decode cX0_workOut 42 = .ok (.iload 8, 2) := by decide +kernel
theorem dX0_workOut_44 : decode cX0_workOut 44 = .ok (.bipush 60, 2) := by decide +kernel
theorem dX0_workOut_46 : decode cX0_workOut 46 = .ok (.if_icmp .ge 60, 3) := by decide +kernel
theorem dX0_workOut_49 : decode cX0_workOut 49 = .ok (.iinc 8 1, 3) := by decide +kernel
theorem dX0_workOut_52 : decode cX0_workOut 52 = .ok (.iload 5, 2) := by decide +kernel
theorem dX0_workOut_54 : decode cX0_workOut 54 = .ok (.iload 7, 2) := by decide +kernel
theorem dX0_workOut_56 : decode cX0_workOut 56 = .ok (.iload 6, 2) := by decide +kernel
theorem dX0_workOut_58 : decode cX0_workOut 58 = .ok (.iadd, 1) := by decide +kernel
theorem dX0_workOut_59 : decode cX0_workOut 59 = .ok (.invokestatic 61, 3) := by decide +kernel
theorem dX0_workOut_62 : decode cX0_workOut 62 = .ok (.istore 7, 2) := by decide +kernel
theorem dX0_workOut_64 : decode cX0_workOut 64 = .ok (.aload_n 0, 1) := by decide +kernel
theorem dX0_workOut_65 : decode cX0_workOut 65 = .ok (.iload_n 1, 1) := by decide +kernel
theorem dX0_workOut_66 : decode cX0_workOut 66 = .ok (.iload 6, 2) := by decide +kernel
theorem dX0_workOut_68 : decode cX0_workOut 68 = .ok (.invokevirtual 66, 3) := by decide +kernel
theorem dX0_workOut_71 : decode cX0_workOut 71 = .ok (.istore 6, 2) := by decide +kernel
theorem dX0_workOut_73 : decode cX0_workOut 73 = .ok (.iload_n 2, 1) := by decide +kernel
theorem dX0_workOut_74 : decode cX0_workOut 74 = .ok (.iload_n 3, 1) := by decide +kernel
theorem dX0_workOut_75 : decode cX0_workOut 75 = .ok (.iload 4, 2) := by decide +kernel
theorem dX0_workOut_77 : decode cX0_workOut 77 = .ok (.iload 7, 2) := by decide +kernel
theorem dX0_workOut_79 : decode cX0_workOut 79 = .ok (.invokestatic 69, 3) := by decide +kernel
theorem dX0_workOut_82 : decode cX0_workOut 82 = .ok (.istore 12, 2) := by decide +kernel
theorem dX0_workOut_84 : decode cX0_workOut 84 = .ok (.iload 12, 2) := by decide +kernel
theorem dX0_workOut_86 : decode cX0_workOut 86 = .ok (.iconst (-1), 1) := by decide +kernel
theorem dX0_workOut_87 : decode cX0_workOut 87 = .ok (.if_icmp .eq 16, 3) := by decide +kernel
theorem dX0_workOut_90 : decode cX0_workOut 90 = .ok (.iinc 9 1, 3) := by decide +kernel
theorem dX0_workOut_93 : decode cX0_workOut 93 = .ok (.lload 10, 2) := by decide +kernel
theorem dX0_workOut_95 : decode cX0_workOut 95 = .ok (.iconst 4, 1) := by decide +kernel
theorem dX0_workOut_96 : decode cX0_workOut 96 = .ok (.lshl, 1) := by decide +kernel
theorem dX0_workOut_97 : decode cX0_workOut 97 = .ok (.iload 12, 2) := by decide +kernel
theorem dX0_workOut_99 : decode cX0_workOut 99 = .ok (.i2l, 1) := by decide +kernel
theorem dX0_workOut_100 : decode cX0_workOut 100 = .ok (.lor, 1) := by decide +kernel
theorem dX0_workOut_101 : decode cX0_workOut 101 = .ok (.lstore 10, 2) := by decide +kernel
theorem dX0_workOut_103 : decode cX0_workOut 103 = .ok (.goto (-68), 3) := by decide +kernel
theorem dX0_workOut_106 : decode cX0_workOut 106 = .ok (.iload 9, 2) := by decide +kernel
theorem dX0_workOut_108 : decode cX0_workOut 108 = .ok (.ifCond .ne 7, 3) := by decide +kernel
theorem dX0_workOut_111 : decode cX0_workOut 111 = .ok (.iconst 0, 1) := by decide +kernel
theorem dX0_workOut_112 : decode cX0_workOut 112 = .ok (.goto 19, 3) := by decide +kernel
theorem dX0_workOut_115 : decode cX0_workOut 115 = .ok (.iload 8, 2) := by decide +kernel
theorem dX0_workOut_117 : decode cX0_workOut 117 = .ok (.iconst 1, 1) := by decide +kernel
theorem dX0_workOut_118 : decode cX0_workOut 118 = .ok (.iadd, 1) := by decide +kernel
theorem dX0_workOut_119 : decode cX0_workOut 119 = .ok (.iload 9, 2) := by decide +kernel
theorem dX0_workOut_121 : decode cX0_workOut 121 = .ok (.aload_n 0, 1) := by decide +kernel
theorem dX0_workOut_122 : decode cX0_workOut 122 = .ok (.getfield 18, 3) := by decide +kernel
theorem dX0_workOut_125 : decode cX0_workOut 125 = .ok (.iload_n 1, 1) := by decide +kernel
theorem dX0_workOut_126 : decode cX0_workOut 126 = .ok (.iaload, 1) := by decide +kernel
theorem dX0_workOut_127 : decode cX0_workOut 127 = .ok (.invokestatic 61, 3) := by decide +kernel
theorem dX0_workOut_130 : decode cX0_workOut 130 = .ok (.isub, 1) := by decide +kernel
theorem dX0_workOut_131 : decode cX0_workOut 131 = .ok (.istore 12, 2) := by decide +kernel
theorem dX0_workOut_133 : decode cX0_workOut 133 = .ok (.lload 10, 2) := by decide +kernel
theorem dX0_workOut_135 : decode cX0_workOut 135 = .ok (.ldc2_w 73, 3) := by decide +kernel
theorem dX0_workOut_138 : decode cX0_workOut 138 = .ok (.land, 1) := by decide +kernel
theorem dX0_workOut_139 : decode cX0_workOut 139 = .ok (.lstore 13, 2) := by decide +kernel
theorem dX0_workOut_141 : decode cX0_workOut 141 = .ok (.lload 13, 2) := by decide +kernel
theorem dX0_workOut_143 : decode cX0_workOut 143 = .ok (.bipush 12, 2) := by decide +kernel
theorem dX0_workOut_145 : decode cX0_workOut 145 = .ok (.lshl, 1) := by decide +kernel
theorem dX0_workOut_146 : decode cX0_workOut 146 = .ok (.iload 12, 2) := by decide +kernel
theorem dX0_workOut_148 : decode cX0_workOut 148 = .ok (.i2l, 1) := by decide +kernel
theorem dX0_workOut_149 : decode cX0_workOut 149 = .ok (.bipush 6, 2) := by decide +kernel
theorem dX0_workOut_151 : decode cX0_workOut 151 = .ok (.lshl, 1) := by decide +kernel
theorem dX0_workOut_152 : decode cX0_workOut 152 = .ok (.lor, 1) := by decide +kernel
theorem dX0_workOut_153 : decode cX0_workOut 153 = .ok (.iload 8, 2) := by decide +kernel
theorem dX0_workOut_155 : decode cX0_workOut 155 = .ok (.i2l, 1) := by decide +kernel
theorem dX0_workOut_156 : decode cX0_workOut 156 = .ok (.lor, 1) := by decide +kernel
theorem dX0_workOut_157 : decode cX0_workOut 157 = .ok (.lreturn, 1) := by decide +kernel
theorem dX0_slowed_0 : decode cX0_slowed 0 = .ok (.iconst 2, 1) := by decide +kernel
theorem dX0_slowed_1 : decode cX0_slowed 1 = .ok (.iload_n 2, 1) := by decide +kernel
theorem dX0_slowed_2 : decode cX0_slowed 2 = .ok (.bipush 100, 2) := by decide +kernel
theorem dX0_slowed_4 : decode cX0_slowed 4 = .ok (.aload_n 0, 1) := by decide +kernel
theorem dX0_slowed_5 : decode cX0_slowed 5 = .ok (.getfield 15, 3) := by decide +kernel
theorem dX0_slowed_8 : decode cX0_slowed 8 = .ok (.iload_n 1, 1) := by decide +kernel
theorem dX0_slowed_9 : decode cX0_slowed 9 = .ok (.iaload, 1) := by decide +kernel
theorem dX0_slowed_10 : decode cX0_slowed 10 = .ok (.isub, 1) := by decide +kernel
theorem dX0_slowed_11 : decode cX0_slowed 11 = .ok (.iconst 2, 1) := by decide +kernel
theorem dX0_slowed_12 : decode cX0_slowed 12 = .ok (.aload_n 0, 1) := by decide +kernel
theorem dX0_slowed_13 : decode cX0_slowed 13 = .ok (.getfield 25, 3) := by decide +kernel
theorem dX0_slowed_16 : decode cX0_slowed 16 = .ok (.imul, 1) := by decide +kernel
theorem dX0_slowed_17 : decode cX0_slowed 17 = .ok (.isub, 1) := by decide +kernel
theorem dX0_slowed_18 : decode cX0_slowed 18 = .ok (.imul, 1) := by decide +kernel
theorem dX0_slowed_19 : decode cX0_slowed 19 = .ok (.bipush 100, 2) := by decide +kernel
theorem dX0_slowed_21 : decode cX0_slowed 21 = .ok (.idiv, 1) := by decide +kernel
theorem dX0_slowed_22 : decode cX0_slowed 22 = .ok (.invokestatic 75, 3) := by decide +kernel
theorem dX0_slowed_25 : decode cX0_slowed 25 = .ok (.ireturn, 1) := by decide +kernel
theorem dX0_wholeOf_0 : decode cX0_wholeOf 0 = .ok (.iload_n 1, 1) := by decide +kernel
theorem dX0_wholeOf_1 : decode cX0_wholeOf 1 = .ok (.bipush 100, 2) := by decide +kernel
theorem dX0_wholeOf_3 : decode cX0_wholeOf 3 = .ok (.iconst 4, 1) := by decide +kernel
theorem dX0_wholeOf_4 : decode cX0_wholeOf 4 = .ok (.aload_n 0, 1) := by decide +kernel
theorem dX0_wholeOf_5 : decode cX0_wholeOf 5 = .ok (.getfield 25, 3) := by decide +kernel
theorem dX0_wholeOf_8 : decode cX0_wholeOf 8 = .ok (.imul, 1) := by decide +kernel
theorem dX0_wholeOf_9 : decode cX0_wholeOf 9 = .ok (.isub, 1) := by decide +kernel
theorem dX0_wholeOf_10 : decode cX0_wholeOf 10 = .ok (.imul, 1) := by decide +kernel
theorem dX0_wholeOf_11 : decode cX0_wholeOf 11 = .ok (.bipush 100, 2) := by decide +kernel
theorem dX0_wholeOf_13 : decode cX0_wholeOf 13 = .ok (.idiv, 1) := by decide +kernel
theorem dX0_wholeOf_14 : decode cX0_wholeOf 14 = .ok (.ireturn, 1) := by decide +kernel
set_option maxRecDepth 20000 in
theorem ggX0_lengthOf_X2_rowOf : GoodIn wsX0_lengthOf wsX2_rowOf := goodIn_r _ [8] (by decide +kernel) (by decide +kernel)
set_option maxRecDepth 20000 in
theorem gX0_lengthOf_X2_rowOf : GoodIn wsX0_lengthOf (va_wsS RX0 78 yX2_rowOf wsX2_rowOf) := goodIn_app (goodIn_of _ (by decide +kernel)) ggX0_lengthOf_X2_rowOf
set_option maxRecDepth 20000 in
theorem ggX0_lengthOf_X2_colOf : GoodIn wsX0_lengthOf wsX2_colOf := goodIn_r _ [11] (by decide +kernel) (by decide +kernel)
set_option maxRecDepth 20000 in
theorem gX0_lengthOf_X2_colOf : GoodIn wsX0_lengthOf (va_wsS RX0 83 yX2_colOf wsX2_colOf) := goodIn_app (goodIn_of _ (by decide +kernel)) ggX0_lengthOf_X2_colOf
theorem dX0_lengthOf_0 : decode cX0_lengthOf 0 = .ok (.iload_n 0, 1) := by decide +kernel
theorem dX0_lengthOf_1 : decode cX0_lengthOf 1 = .ok (.invokestatic 78, 3) := by decide +kernel
theorem dX0_lengthOf_4 : decode cX0_lengthOf 4 = .ok (.iload_n 1, 1) := by decide +kernel
theorem dX0_lengthOf_5 : decode cX0_lengthOf 5 = .ok (.invokestatic 78, 3) := by decide +kernel
theorem dX0_lengthOf_8 : decode cX0_lengthOf 8 = .ok (.iadd, 1) := by decide +kernel
theorem dX0_lengthOf_9 : decode cX0_lengthOf 9 = .ok (.iconst 1, 1) := by decide +kernel
theorem dX0_lengthOf_10 : decode cX0_lengthOf 10 = .ok (.iadd, 1) := by decide +kernel
theorem dX0_lengthOf_11 : decode cX0_lengthOf 11 = .ok (.istore_n 2, 1) := by decide +kernel
theorem dX0_lengthOf_12 : decode cX0_lengthOf 12 = .ok (.bipush 10, 2) := by decide +kernel
theorem dX0_lengthOf_14 : decode cX0_lengthOf 14 = .ok (.iload_n 2, 1) := by decide +kernel
theorem dX0_lengthOf_15 : decode cX0_lengthOf 15 = .ok (.imul, 1) := by decide +kernel
theorem dX0_lengthOf_16 : decode cX0_lengthOf 16 = .ok (.iconst 5, 1) := by decide +kernel
theorem dX0_lengthOf_17 : decode cX0_lengthOf 17 = .ok (.iload_n 0, 1) := by decide +kernel
theorem dX0_lengthOf_18 : decode cX0_lengthOf 18 = .ok (.invokestatic 83, 3) := by decide +kernel
theorem dX0_lengthOf_21 : decode cX0_lengthOf 21 = .ok (.iload_n 1, 1) := by decide +kernel
theorem dX0_lengthOf_22 : decode cX0_lengthOf 22 = .ok (.invokestatic 83, 3) := by decide +kernel
theorem dX0_lengthOf_25 : decode cX0_lengthOf 25 = .ok (.isub, 1) := by decide +kernel
theorem dX0_lengthOf_26 : decode cX0_lengthOf 26 = .ok (.invokestatic 86, 3) := by decide +kernel
theorem dX0_lengthOf_29 : decode cX0_lengthOf 29 = .ok (.imul, 1) := by decide +kernel
theorem dX0_lengthOf_30 : decode cX0_lengthOf 30 = .ok (.iadd, 1) := by decide +kernel
theorem dX0_lengthOf_31 : decode cX0_lengthOf 31 = .ok (.ireturn, 1) := by decide +kernel
set_option maxRecDepth 20000 in
theorem ggX0_placeAt_X2_rowOf : GoodIn wsX0_placeAt wsX2_rowOf := goodIn_r _ [4] (by decide +kernel) (by decide +kernel)
set_option maxRecDepth 20000 in
theorem gX0_placeAt_X2_rowOf : GoodIn wsX0_placeAt (va_wsS RX0 78 yX2_rowOf wsX2_rowOf) := goodIn_app (goodIn_of _ (by decide +kernel)) ggX0_placeAt_X2_rowOf
set_option maxRecDepth 20000 in
theorem ggX0_placeAt_X2_colOf : GoodIn wsX0_placeAt wsX2_colOf := goodIn_r _ [7] (by decide +kernel) (by decide +kernel)
set_option maxRecDepth 20000 in
theorem gX0_placeAt_X2_colOf : GoodIn wsX0_placeAt (va_wsS RX0 83 yX2_colOf wsX2_colOf) := goodIn_app (goodIn_of _ (by decide +kernel)) ggX0_placeAt_X2_colOf
theorem dX0_placeAt_0 : decode cX0_placeAt 0 = .ok (.iload_n 0, 1) := by decide +kernel
theorem dX0_placeAt_1 : decode cX0_placeAt 1 = .ok (.invokestatic 78, 3) := by decide +kernel
theorem dX0_placeAt_4 : decode cX0_placeAt 4 = .ok (.iload_n 1, 1) := by decide +kernel
theorem dX0_placeAt_5 : decode cX0_placeAt 5 = .ok (.invokestatic 78, 3) := by decide +kernel
theorem dX0_placeAt_8 : decode cX0_placeAt 8 = .ok (.iadd, 1) := by decide +kernel
theorem dX0_placeAt_9 : decode cX0_placeAt 9 = .ok (.iconst 1, 1) := by decide +kernel
theorem dX0_placeAt_10 : decode cX0_placeAt 10 = .ok (.iadd, 1) := by decide +kernel
theorem dX0_placeAt_11 : decode cX0_placeAt 11 = .ok (.istore 4, 2) := by decide +kernel
theorem dX0_placeAt_13 : decode cX0_placeAt 13 = .ok (.iload 4, 2) := by decide +kernel
theorem dX0_placeAt_15 : decode cX0_placeAt 15 = .ok (.iload_n 3, 1) := by decide +kernel
theorem dX0_placeAt_16 : decode cX0_placeAt 16 = .ok (.imul, 1) := by decide +kernel
theorem dX0_placeAt_17 : decode cX0_placeAt 17 = .ok (.iload_n 2, 1) := by decide +kernel
theorem dX0_placeAt_18 : decode cX0_placeAt 18 = .ok (.idiv, 1) := by decide +kernel
theorem dX0_placeAt_19 : decode cX0_placeAt 19 = .ok (.iload_n 0, 1) := by decide +kernel
theorem dX0_placeAt_20 : decode cX0_placeAt 20 = .ok (.invokestatic 78, 3) := by decide +kernel
theorem dX0_placeAt_23 : decode cX0_placeAt 23 = .ok (.isub, 1) := by decide +kernel
theorem dX0_placeAt_24 : decode cX0_placeAt 24 = .ok (.iconst 1, 1) := by decide +kernel
theorem dX0_placeAt_25 : decode cX0_placeAt 25 = .ok (.isub, 1) := by decide +kernel
theorem dX0_placeAt_26 : decode cX0_placeAt 26 = .ok (.istore 5, 2) := by decide +kernel
theorem dX0_placeAt_28 : decode cX0_placeAt 28 = .ok (.iload 5, 2) := by decide +kernel
theorem dX0_placeAt_30 : decode cX0_placeAt 30 = .ok (.ifCond .ge 5, 3) := by decide +kernel
theorem dX0_placeAt_33 : decode cX0_placeAt 33 = .ok (.iconst (-1), 1) := by decide +kernel
theorem dX0_placeAt_34 : decode cX0_placeAt 34 = .ok (.ireturn, 1) := by decide +kernel
theorem dX0_placeAt_35 : decode cX0_placeAt 35 = .ok (.iload_n 0, 1) := by decide +kernel
theorem dX0_placeAt_36 : decode cX0_placeAt 36 = .ok (.invokestatic 83, 3) := by decide +kernel
theorem dX0_placeAt_39 : decode cX0_placeAt 39 = .ok (.iload_n 1, 1) := by decide +kernel
theorem dX0_placeAt_40 : decode cX0_placeAt 40 = .ok (.invokestatic 83, 3) := by decide +kernel
theorem dX0_placeAt_43 : decode cX0_placeAt 43 = .ok (.iload_n 0, 1) := by decide +kernel
theorem dX0_placeAt_44 : decode cX0_placeAt 44 = .ok (.invokestatic 83, 3) := by decide +kernel
theorem dX0_placeAt_47 : decode cX0_placeAt 47 = .ok (.isub, 1) := by decide +kernel
theorem dX0_placeAt_48 : decode cX0_placeAt 48 = .ok (.iload_n 3, 1) := by decide +kernel
theorem dX0_placeAt_49 : decode cX0_placeAt 49 = .ok (.imul, 1) := by decide +kernel
theorem dX0_placeAt_50 : decode cX0_placeAt 50 = .ok (.iload_n 2, 1) := by decide +kernel
theorem dX0_placeAt_51 : decode cX0_placeAt 51 = .ok (.idiv, 1) := by decide +kernel
theorem dX0_placeAt_52 : decode cX0_placeAt 52 = .ok (.iadd, 1) := by decide +kernel
theorem dX0_placeAt_53 : decode cX0_placeAt 53 = .ok (.istore 6, 2) := by decide +kernel
theorem dX0_placeAt_55 : decode cX0_placeAt 55 = .ok (.iconst 4, 1) := by decide +kernel
theorem dX0_placeAt_56 : decode cX0_placeAt 56 = .ok (.iload 5, 2) := by decide +kernel
theorem dX0_placeAt_58 : decode cX0_placeAt 58 = .ok (.imul, 1) := by decide +kernel
theorem dX0_placeAt_59 : decode cX0_placeAt 59 = .ok (.iload 6, 2) := by decide +kernel
theorem dX0_placeAt_61 : decode cX0_placeAt 61 = .ok (.iadd, 1) := by decide +kernel
theorem dX0_placeAt_62 : decode cX0_placeAt 62 = .ok (.ireturn, 1) := by decide +kernel
theorem dX1_init_0 : decode cX1_init 0 = .ok (.aload_n 0, 1) := by decide +kernel
theorem dX1_init_1 : decode cX1_init 1 = .ok (.invokespecial 3, 3) := by decide +kernel
theorem dX1_init_4 : decode cX1_init 4 = .ok (.aload_n 0, 1) := by decide +kernel
theorem dX1_init_5 : decode cX1_init 5 = .ok (.iconst 4, 1) := by decide +kernel
theorem dX1_init_6 : decode cX1_init 6 = .ok (.newarray .int, 2) := by decide +kernel
theorem dX1_init_8 : decode cX1_init 8 = .ok (.dup, 1) := by decide +kernel
theorem dX1_init_9 : decode cX1_init 9 = .ok (.iconst 0, 1) := by decide +kernel
theorem dX1_init_10 : decode cX1_init 10 = .ok (.iconst 3, 1) := by decide +kernel
theorem dX1_init_11 : decode cX1_init 11 = .ok (.iastore, 1) := by decide +kernel
theorem dX1_init_12 : decode cX1_init 12 = .ok (.dup, 1) := by decide +kernel
theorem dX1_init_13 : decode cX1_init 13 = .ok (.iconst 1, 1) := by decide +kernel
theorem dX1_init_14 : decode cX1_init 14 = .ok (.iconst 1, 1) := by decide +kernel
theorem dX1_init_15 : decode cX1_init 15 = .ok (.iastore, 1) := by decide +kernel
theorem dX1_init_16 : decode cX1_init 16 = .ok (.dup, 1) := by decide +kernel
theorem dX1_init_17 : decode cX1_init 17 = .ok (.iconst 2, 1) := by decide +kernel
theorem dX1_init_18 : decode cX1_init 18 = .ok (.iconst 1, 1) := by decide +kernel
theorem dX1_init_19 : decode cX1_init 19 = .ok (.iastore, 1) := by decide +kernel
theorem dX1_init_20 : decode cX1_init 20 = .ok (.dup, 1) := by decide +kernel
theorem dX1_init_21 : decode cX1_init 21 = .ok (.iconst 3, 1) := by decide +kernel
theorem dX1_init_22 : decode cX1_init 22 = .ok (.iconst 2, 1) := by decide +kernel
theorem dX1_init_23 : decode cX1_init 23 = .ok (.iastore, 1) := by decide +kernel
theorem dX1_init_24 : decode cX1_init 24 = .ok (.putfield 9, 3) := by decide +kernel
theorem dX1_init_27 : decode cX1_init 27 = .ok (.aload_n 0, 1) := by decide +kernel
theorem dX1_init_28 : decode cX1_init 28 = .ok (.bipush 30, 2) := by decide +kernel
theorem dX1_init_30 : decode cX1_init 30 = .ok (.newarray .int, 2) := by decide +kernel
theorem dX1_init_32 : decode cX1_init 32 = .ok (.putfield 15, 3) := by decide +kernel
theorem dX1_init_35 : decode cX1_init 35 = .ok (.aload_n 0, 1) := by decide +kernel
theorem dX1_init_36 : decode cX1_init 36 = .ok (.bipush 121, 2) := by decide +kernel
theorem dX1_init_38 : decode cX1_init 38 = .ok (.newarray .int, 2) := by decide +kernel
theorem dX1_init_40 : decode cX1_init 40 = .ok (.putfield 18, 3) := by decide +kernel
theorem dX1_init_43 : decode cX1_init 43 = .ok (.aload_n 0, 1) := by decide +kernel
theorem dX1_init_44 : decode cX1_init 44 = .ok (.iconst 0, 1) := by decide +kernel
theorem dX1_init_45 : decode cX1_init 45 = .ok (.putfield 21, 3) := by decide +kernel
theorem dX1_init_48 : decode cX1_init 48 = .ok (.aload_n 0, 1) := by decide +kernel
theorem dX1_init_49 : decode cX1_init 49 = .ok (.bipush 20, 2) := by decide +kernel
theorem dX1_init_51 : decode cX1_init 51 = .ok (.putfield 25, 3) := by decide +kernel
theorem dX1_init_54 : decode cX1_init 54 = .ok (.aload_n 0, 1) := by decide +kernel
theorem dX1_init_55 : decode cX1_init 55 = .ok (.iconst 2, 1) := by decide +kernel
theorem dX1_init_56 : decode cX1_init 56 = .ok (.putfield 28, 3) := by decide +kernel
theorem dX1_init_59 : decode cX1_init 59 = .ok (.return_, 1) := by decide +kernel
theorem dX1_setPrice_0 : decode cX1_setPrice 0 = .ok (.aload_n 0, 1) := by decide +kernel
theorem dX1_setPrice_1 : decode cX1_setPrice 1 = .ok (.getfield 25, 3) := by decide +kernel
theorem dX1_setPrice_4 : decode cX1_setPrice 4 = .ok (.istore_n 2, 1) := by decide +kernel
theorem dX1_setPrice_5 : decode cX1_setPrice 5 = .ok (.aload_n 0, 1) := by decide +kernel
theorem dX1_setPrice_6 : decode cX1_setPrice 6 = .ok (.iload_n 1, 1) := by decide +kernel
theorem dX1_setPrice_7 : decode cX1_setPrice 7 = .ok (.putfield 25, 3) := by decide +kernel
theorem dX1_setPrice_10 : decode cX1_setPrice 10 = .ok (.iload_n 2, 1) := by decide +kernel
theorem dX1_setPrice_11 : decode cX1_setPrice 11 = .ok (.ireturn, 1) := by decide +kernel
theorem dX1_setLoss_0 : decode cX1_setLoss 0 = .ok (.aload_n 0, 1) := by decide +kernel
theorem dX1_setLoss_1 : decode cX1_setLoss 1 = .ok (.getfield 28, 3) := by decide +kernel
theorem dX1_setLoss_4 : decode cX1_setLoss 4 = .ok (.istore_n 2, 1) := by decide +kernel
theorem dX1_setLoss_5 : decode cX1_setLoss 5 = .ok (.aload_n 0, 1) := by decide +kernel
theorem dX1_setLoss_6 : decode cX1_setLoss 6 = .ok (.iload_n 1, 1) := by decide +kernel
theorem dX1_setLoss_7 : decode cX1_setLoss 7 = .ok (.putfield 28, 3) := by decide +kernel
theorem dX1_setLoss_10 : decode cX1_setLoss 10 = .ok (.iload_n 2, 1) := by decide +kernel
theorem dX1_setLoss_11 : decode cX1_setLoss 11 = .ok (.ireturn, 1) := by decide +kernel
theorem dX1_setWear_0 : decode cX1_setWear 0 = .ok (.aload_n 0, 1) := by decide +kernel
theorem dX1_setWear_1 : decode cX1_setWear 1 = .ok (.getfield 9, 3) := by decide +kernel
theorem dX1_setWear_4 : decode cX1_setWear 4 = .ok (.iload_n 1, 1) := by decide +kernel
theorem dX1_setWear_5 : decode cX1_setWear 5 = .ok (.iaload, 1) := by decide +kernel
theorem dX1_setWear_6 : decode cX1_setWear 6 = .ok (.istore_n 3, 1) := by decide +kernel
theorem dX1_setWear_7 : decode cX1_setWear 7 = .ok (.aload_n 0, 1) := by decide +kernel
theorem dX1_setWear_8 : decode cX1_setWear 8 = .ok (.getfield 9, 3) := by decide +kernel
theorem dX1_setWear_11 : decode cX1_setWear 11 = .ok (.iload_n 1, 1) := by decide +kernel
theorem dX1_setWear_12 : decode cX1_setWear 12 = .ok (.iload_n 2, 1) := by decide +kernel
theorem dX1_setWear_13 : decode cX1_setWear 13 = .ok (.iastore, 1) := by decide +kernel
theorem dX1_setWear_14 : decode cX1_setWear 14 = .ok (.iload_n 3, 1) := by decide +kernel
theorem dX1_setWear_15 : decode cX1_setWear 15 = .ok (.ireturn, 1) := by decide +kernel
theorem dX1_isEmpty_0 : decode cX1_isEmpty 0 = .ok (.aload_n 0, 1) := by decide +kernel
theorem dX1_isEmpty_1 : decode cX1_isEmpty 1 = .ok (.getfield 21, 3) := by decide +kernel
theorem dX1_isEmpty_4 : decode cX1_isEmpty 4 = .ok (.ifCond .ne 7, 3) := by decide +kernel
theorem dX1_isEmpty_7 : decode cX1_isEmpty 7 = .ok (.iconst 1, 1) := by decide +kernel
theorem dX1_isEmpty_8 : decode cX1_isEmpty 8 = .ok (.goto 4, 3) := by decide +kernel
theorem dX1_isEmpty_11 : decode cX1_isEmpty 11 = .ok (.iconst 0, 1) := by decide +kernel
theorem dX1_isEmpty_12 : decode cX1_isEmpty 12 = .ok (.ireturn, 1) := by decide +kernel
theorem dX1_size_0 : decode cX1_size 0 = .ok (.aload_n 0, 1) := by decide +kernel
theorem dX1_size_1 : decode cX1_size 1 = .ok (.getfield 21, 3) := by decide +kernel
theorem dX1_size_4 : decode cX1_size 4 = .ok (.ireturn, 1) := by decide +kernel
theorem dX1_add_0 : decode cX1_add 0 = .ok (.aload_n 0, 1) := by decide +kernel
theorem dX1_add_1 : decode cX1_add 1 = .ok (.getfield 21, 3) := by decide +kernel
theorem dX1_add_4 : decode cX1_add 4 = .ok (.bipush 30, 2) := by decide +kernel
theorem dX1_add_6 : decode cX1_add 6 = .ok (.if_icmp .lt 6, 3) := by decide +kernel
theorem dX1_add_9 : decode cX1_add 9 = .ok (.bipush (-5), 2) := by decide +kernel
theorem dX1_add_11 : decode cX1_add 11 = .ok (.ireturn, 1) := by decide +kernel
theorem dX1_add_12 : decode cX1_add 12 = .ok (.aload_n 0, 1) := by decide +kernel
theorem dX1_add_13 : decode cX1_add 13 = .ok (.getfield 15, 3) := by decide +kernel
theorem dX1_add_16 : decode cX1_add 16 = .ok (.aload_n 0, 1) := by decide +kernel
theorem dX1_add_17 : decode cX1_add 17 = .ok (.getfield 21, 3) := by decide +kernel
theorem dX1_add_20 : decode cX1_add 20 = .ok (.iload_n 1, 1) := by decide +kernel
theorem dX1_add_21 : decode cX1_add 21 = .ok (.iastore, 1) := by decide +kernel
theorem dX1_add_22 : decode cX1_add 22 = .ok (.aload_n 0, 1) := by decide +kernel
theorem dX1_add_23 : decode cX1_add 23 = .ok (.dup, 1) := by decide +kernel
theorem dX1_add_24 : decode cX1_add 24 = .ok (.getfield 21, 3) := by decide +kernel
theorem dX1_add_27 : decode cX1_add 27 = .ok (.iconst 1, 1) := by decide +kernel
theorem dX1_add_28 : decode cX1_add 28 = .ok (.iadd, 1) := by decide +kernel
theorem dX1_add_29 : decode cX1_add 29 = .ok (.putfield 21, 3) := by decide +kernel
theorem dX1_add_32 : decode cX1_add 32 = .ok (.aload_n 0, 1) := by decide +kernel
theorem dX1_add_33 : decode cX1_add 33 = .ok (.getfield 21, 3) := by decide +kernel
theorem dX1_add_36 : decode cX1_add 36 = .ok (.ireturn, 1) := by decide +kernel
theorem dX1_clear_0 : decode cX1_clear 0 = .ok (.aload_n 0, 1) := by decide +kernel
theorem dX1_clear_1 : decode cX1_clear 1 = .ok (.getfield 21, 3) := by decide +kernel
theorem dX1_clear_4 : decode cX1_clear 4 = .ok (.istore_n 1, 1) := by decide +kernel
theorem dX1_clear_5 : decode cX1_clear 5 = .ok (.aload_n 0, 1) := by decide +kernel
theorem dX1_clear_6 : decode cX1_clear 6 = .ok (.iconst 0, 1) := by decide +kernel
theorem dX1_clear_7 : decode cX1_clear 7 = .ok (.putfield 21, 3) := by decide +kernel
theorem dX1_clear_10 : decode cX1_clear 10 = .ok (.iload_n 1, 1) := by decide +kernel
theorem dX1_clear_11 : decode cX1_clear 11 = .ok (.ireturn, 1) := by decide +kernel
set_option maxRecDepth 20000 in
theorem ggX1_wholeCost_X1_addUp : GoodIn wsX1_wholeCost wsX1_addUp := goodIn_r _ [6, 1, 7, 8, 9, 10, 11, 12, 13, 14, 15, 16, 17, 18, 19, 20, 21] (by decide +kernel) (by decide +kernel)
set_option maxRecDepth 20000 in
theorem gX1_wholeCost_X1_addUp : GoodIn wsX1_wholeCost (wsV RX1 31 RX1 yX1_addUp wsX1_addUp) := goodIn_app (goodIn_of _ (by decide +kernel)) ggX1_wholeCost_X1_addUp
theorem dX1_wholeCost_0 : decode cX1_wholeCost 0 = .ok (.aload_n 0, 1) := by decide +kernel
theorem dX1_wholeCost_1 : decode cX1_wholeCost 1 = .ok (.iload_n 1, 1) := by decide +kernel
theorem dX1_wholeCost_2 : decode cX1_wholeCost 2 = .ok (.invokevirtual 31, 3) := by decide +kernel
theorem dX1_wholeCost_5 : decode cX1_wholeCost 5 = .ok (.aload_n 0, 1) := by decide +kernel
theorem dX1_wholeCost_6 : decode cX1_wholeCost 6 = .ok (.getfield 18, 3) := by decide +kernel
theorem dX1_wholeCost_9 : decode cX1_wholeCost 9 = .ok (.iload_n 1, 1) := by decide +kernel
theorem dX1_wholeCost_10 : decode cX1_wholeCost 10 = .ok (.iaload, 1) := by decide +kernel
theorem dX1_wholeCost_11 : decode cX1_wholeCost 11 = .ok (.ireturn, 1) := by decide +kernel
set_option maxRecDepth 20000 in
theorem ggX1_bestChange_X1_addUp : GoodIn wsX1_bestChange wsX1_addUp := goodIn_r _ [6, 1, 7, 8, 9, 10, 11, 12, 13, 14, 15, 16, 17, 18, 19, 20, 21] (by decide +kernel) (by decide +kernel)
set_option maxRecDepth 20000 in
theorem gX1_bestChange_X1_addUp : GoodIn wsX1_bestChange (wsV RX1 31 RX1 yX1_addUp wsX1_addUp) := goodIn_app (goodIn_of _ (by decide +kernel)) ggX1_bestChange_X1_addUp
theorem dX1_bestChange_0 : decode cX1_bestChange 0 = .ok (.aload_n 0, 1) := by decide +kernel
theorem dX1_bestChange_1 : decode cX1_bestChange 1 = .ok (.bipush 120, 2) := by decide +kernel
theorem dX1_bestChange_3 : decode cX1_bestChange 3 = .ok (.invokevirtual 31, 3) := by decide +kernel
theorem dX1_bestChange_6 : decode cX1_bestChange 6 = .ok (.iconst 1, 1) := by decide +kernel
theorem dX1_bestChange_7 : decode cX1_bestChange 7 = .ok (.istore_n 1, 1) := by decide +kernel
theorem dX1_bestChange_8 : decode cX1_bestChange 8 = .ok (.iconst 2, 1) := by decide +kernel
theorem dX1_bestChange_9 : decode cX1_bestChange 9 = .ok (.istore_n 2, 1) := by decide +kernel
theorem dX1_bestChange_10 : decode cX1_bestChange 10 = .ok (.iload_n 2, 1) := by decide +kernel
theorem dX1_bestChange_11 : decode cX1_bestChange 11 = .ok (.bipush 120, 2) := by decide +kernel
theorem dX1_bestChange_13 : decode cX1_bestChange 13 = .ok (.if_icmp .gt 30, 3) := by decide +kernel
theorem dX1_bestChange_16 : decode cX1_bestChange 16 = .ok (.aload_n 0, 1) := by decide +kernel
theorem dX1_bestChange_17 : decode cX1_bestChange 17 = .ok (.getfield 18, 3) := by decide +kernel
theorem dX1_bestChange_20 : decode cX1_bestChange 20 = .ok (.iload_n 2, 1) := by decide +kernel
theorem dX1_bestChange_21 : decode cX1_bestChange 21 = .ok (.iaload, 1) := by decide +kernel
theorem dX1_bestChange_22 : decode cX1_bestChange 22 = .ok (.iload_n 1, 1) := by decide +kernel
theorem dX1_bestChange_23 : decode cX1_bestChange 23 = .ok (.imul, 1) := by decide +kernel
theorem dX1_bestChange_24 : decode cX1_bestChange 24 = .ok (.aload_n 0, 1) := by decide +kernel
theorem dX1_bestChange_25 : decode cX1_bestChange 25 = .ok (.getfield 18, 3) := by decide +kernel
theorem dX1_bestChange_28 : decode cX1_bestChange 28 = .ok (.iload_n 1, 1) := by decide +kernel
theorem dX1_bestChange_29 : decode cX1_bestChange 29 = .ok (.iaload, 1) := by decide +kernel
theorem dX1_bestChange_30 : decode cX1_bestChange 30 = .ok (.iload_n 2, 1) := by decide +kernel
theorem dX1_bestChange_31 : decode cX1_bestChange 31 = .ok (.imul, 1) := by decide +kernel
theorem dX1_bestChange_32 : decode cX1_bestChange 32 = .ok (.if_icmp .ge 5, 3) := by decide +kernel
theorem dX1_bestChange_35 : decode cX1_bestChange 35 = .ok (.iload_n 2, 1) := by decide +kernel
theorem dX1_bestChange_36 : decode cX1_bestChange 36 = .ok (.istore_n 1, 1) := by decide +kernel
theorem dX1_bestChange_37 : decode cX1_bestChange 37 = .ok (.iinc 2 1, 3) := by decide +kernel
theorem dX1_bestChange_40 : decode cX1_bestChange 40 = .ok (.goto (-30), 3) := by decide +kernel
theorem dX1_bestChange_43 : decode cX1_bestChange 43 = .ok (.iload_n 1, 1) := by decide +kernel
theorem dX1_bestChange_44 : decode cX1_bestChange 44 = .ok (.ireturn, 1) := by decide +kernel
theorem dX1_addUp_0 : decode cX1_addUp 0 = .ok (.iconst 0, 1) := by decide +kernel
theorem dX1_addUp_1 : decode cX1_addUp 1 = .ok (.istore_n 2, 1) := by decide +kernel
theorem dX1_addUp_2 : decode cX1_addUp 2 = .ok (.iconst 0, 1) := by decide +kernel
theorem dX1_addUp_3 : decode cX1_addUp 3 = .ok (.istore_n 3, 1) := by decide +kernel
theorem dX1_addUp_4 : decode cX1_addUp 4 = .ok (.aload_n 0, 1) := by decide +kernel
theorem dX1_addUp_5 : decode cX1_addUp 5 = .ok (.getfield 18, 3) := by decide +kernel
theorem dX1_addUp_8 : decode cX1_addUp 8 = .ok (.iconst 0, 1) := by decide +kernel
theorem dX1_addUp_9 : decode cX1_addUp 9 = .ok (.aload_n 0, 1) := by decide +kernel
theorem dX1_addUp_10 : decode cX1_addUp 10 = .ok (.getfield 25, 3) := by decide +kernel
theorem dX1_addUp_13 : decode cX1_addUp 13 = .ok (.iastore, 1) := by decide +kernel
theorem dX1_addUp_14 : decode cX1_addUp 14 = .ok (.iconst 1, 1) := by decide +kernel
theorem dX1_addUp_15 : decode cX1_addUp 15 = .ok (.istore 4, 2) := by decide +kernel
theorem dX1_addUp_17 : decode cX1_addUp 17 = .ok (.iload 4, 2) := by decide +kernel
theorem dX1_addUp_19 : decode cX1_addUp 19 = .ok (.iload_n 1, 1) := by decide +kernel
theorem dX1_addUp_20 : decode cX1_addUp 20 = .ok (.if_icmp .gt 72, 3) := by decide +kernel
theorem dX1_addUp_23 : decode cX1_addUp 23 = .ok (.aload_n 0, 1) := by decide +kernel
theorem dX1_addUp_24 : decode cX1_addUp 24 = .ok (.getfield 18, 3) := by decide +kernel
theorem dX1_addUp_27 : decode cX1_addUp 27 = .ok (.iload 4, 2) := by decide +kernel
theorem dX1_addUp_29 : decode cX1_addUp 29 = .ok (.aload_n 0, 1) := by decide +kernel
theorem dX1_addUp_30 : decode cX1_addUp 30 = .ok (.getfield 18, 3) := by decide +kernel
theorem dX1_addUp_33 : decode cX1_addUp 33 = .ok (.iload 4, 2) := by decide +kernel
theorem dX1_addUp_35 : decode cX1_addUp 35 = .ok (.iconst 1, 1) := by decide +kernel
theorem dX1_addUp_36 : decode cX1_addUp 36 = .ok (.isub, 1) := by decide +kernel
theorem dX1_addUp_37 : decode cX1_addUp 37 = .ok (.iaload, 1) := by decide +kernel
theorem dX1_addUp_38 : decode cX1_addUp 38 = .ok (.aload_n 0, 1) := by decide +kernel
theorem dX1_addUp_39 : decode cX1_addUp 39 = .ok (.getfield 28, 3) := by decide +kernel
theorem dX1_addUp_42 : decode cX1_addUp 42 = .ok (.bipush 8, 2) := by decide +kernel
theorem dX1_addUp_44 : decode cX1_addUp 44 = .ok (.iload_n 2, 1) := by decide +kernel
theorem dX1_addUp_45 : decode cX1_addUp 45 = .ok (.bipush 10, 2) := by decide +kernel
theorem dX1_addUp_47 : decode cX1_addUp 47 = .ok (.idiv, 1) := by decide +kernel
theorem dX1_addUp_48 : decode cX1_addUp 48 = .ok (.invokestatic 35, 3) := by decide +kernel
theorem dX1_addUp_51 : decode cX1_addUp 51 = .ok (.imul, 1) := by decide +kernel
theorem dX1_addUp_52 : decode cX1_addUp 52 = .ok (.iadd, 1) := by decide +kernel
theorem dX1_addUp_53 : decode cX1_addUp 53 = .ok (.iastore, 1) := by decide +kernel
theorem dX1_addUp_54 : decode cX1_addUp 54 = .ok (.iload_n 2, 1) := by decide +kernel
theorem dX1_addUp_55 : decode cX1_addUp 55 = .ok (.aload_n 0, 1) := by decide +kernel
theorem dX1_addUp_56 : decode cX1_addUp 56 = .ok (.getfield 9, 3) := by decide +kernel
theorem dX1_addUp_59 : decode cX1_addUp 59 = .ok (.aload_n 0, 1) := by decide +kernel
theorem dX1_addUp_60 : decode cX1_addUp 60 = .ok (.getfield 15, 3) := by decide +kernel
theorem dX1_addUp_63 : decode cX1_addUp 63 = .ok (.iload_n 3, 1) := by decide +kernel
theorem dX1_addUp_64 : decode cX1_addUp 64 = .ok (.iaload, 1) := by decide +kernel
theorem dX1_addUp_65 : decode cX1_addUp 65 = .ok (.iaload, 1) := by decide +kernel
theorem dX1_addUp_66 : decode cX1_addUp 66 = .ok (.iadd, 1) := by decide +kernel
theorem dX1_addUp_67 : decode cX1_addUp 67 = .ok (.istore_n 2, 1) := by decide +kernel
theorem dX1_addUp_68 : decode cX1_addUp 68 = .ok (.iload_n 3, 1) := by decide +kernel
theorem dX1_addUp_69 : decode cX1_addUp 69 = .ok (.iconst 1, 1) := by decide +kernel
theorem dX1_addUp_70 : decode cX1_addUp 70 = .ok (.iadd, 1) := by decide +kernel
theorem dX1_addUp_71 : decode cX1_addUp 71 = .ok (.aload_n 0, 1) := by decide +kernel
theorem dX1_addUp_72 : decode cX1_addUp 72 = .ok (.getfield 21, 3) := by decide +kernel
theorem dX1_addUp_75 : decode cX1_addUp 75 = .ok (.if_icmp .ge 9, 3) := by decide +kernel
theorem dX1_addUp_78 : decode cX1_addUp 78 = .ok (.iload_n 3, 1) := by decide +kernel
theorem dX1_addUp_79 : decode cX1_addUp 79 = .ok (.iconst 1, 1) := by decide +kernel
theorem dX1_addUp_80 : decode cX1_addUp 80 = .ok (.iadd, 1) := by decide +kernel
theorem dX1_addUp_81 : decode cX1_addUp 81 = .ok (.goto 4, 3) := by decide +kernel
theorem dX1_addUp_84 : decode cX1_addUp 84 = .ok (.iconst 0, 1) := by decide +kernel
theorem dX1_addUp_85 : decode cX1_addUp 85 = .ok (.istore_n 3, 1) := by decide +kernel
theorem dX1_addUp_86 : decode cX1_addUp 86 = .ok (.iinc 4 1, 3) := by decide +kernel
theorem dX1_addUp_89 : decode cX1_addUp 89 = .ok (.goto (-72), 3) := by decide +kernel
theorem dX1_addUp_92 : decode cX1_addUp 92 = .ok (.return_, 1) := by decide +kernel
theorem dX2_rowOf_0 : decode cX2_rowOf 0 = .ok (.iload_n 0, 1) := by decide +kernel
theorem dX2_rowOf_1 : decode cX2_rowOf 1 = .ok (.iconst 4, 1) := by decide +kernel
theorem dX2_rowOf_2 : decode cX2_rowOf 2 = .ok (.idiv, 1) := by decide +kernel
theorem dX2_rowOf_3 : decode cX2_rowOf 3 = .ok (.ireturn, 1) := by decide +kernel
theorem dX2_colOf_0 : decode cX2_colOf 0 = .ok (.iload_n 0, 1) := by decide +kernel
theorem dX2_colOf_1 : decode cX2_colOf 1 = .ok (.iconst 4, 1) := by decide +kernel
theorem dX2_colOf_2 : decode cX2_colOf 2 = .ok (.irem, 1) := by decide +kernel
theorem dX2_colOf_3 : decode cX2_colOf 3 = .ok (.ireturn, 1) := by decide +kernel
set_option maxRecDepth 20000 in
theorem ggX2_far_X2_rowOf : GoodIn wsX2_far wsX2_rowOf := goodIn_r _ [11] (by decide +kernel) (by decide +kernel)
set_option maxRecDepth 20000 in
theorem gX2_far_X2_rowOf : GoodIn wsX2_far (va_wsS RX2 7 yX2_rowOf wsX2_rowOf) := goodIn_app (goodIn_of _ (by decide +kernel)) ggX2_far_X2_rowOf
set_option maxRecDepth 20000 in
theorem ggX2_far_X2_colOf : GoodIn wsX2_far wsX2_colOf := goodIn_r _ [14] (by decide +kernel) (by decide +kernel)
set_option maxRecDepth 20000 in
theorem gX2_far_X2_colOf : GoodIn wsX2_far (va_wsS RX2 18 yX2_colOf wsX2_colOf) := goodIn_app (goodIn_of _ (by decide +kernel)) ggX2_far_X2_colOf
theorem dX2_far_0 : decode cX2_far 0 = .ok (.iload_n 0, 1) := by decide +kernel
theorem dX2_far_1 : decode cX2_far 1 = .ok (.invokestatic 7, 3) := by decide +kernel
theorem dX2_far_4 : decode cX2_far 4 = .ok (.iload_n 1, 1) := by decide +kernel
theorem dX2_far_5 : decode cX2_far 5 = .ok (.invokestatic 7, 3) := by decide +kernel
theorem dX2_far_8 : decode cX2_far 8 = .ok (.isub, 1) := by decide +kernel
theorem dX2_far_9 : decode cX2_far 9 = .ok (.invokestatic 13, 3) := by decide +kernel
theorem dX2_far_12 : decode cX2_far 12 = .ok (.iload_n 0, 1) := by decide +kernel
theorem dX2_far_13 : decode cX2_far 13 = .ok (.invokestatic 18, 3) := by decide +kernel
theorem dX2_far_16 : decode cX2_far 16 = .ok (.iload_n 1, 1) := by decide +kernel
theorem dX2_far_17 : decode cX2_far 17 = .ok (.invokestatic 18, 3) := by decide +kernel
theorem dX2_far_20 : decode cX2_far 20 = .ok (.isub, 1) := by decide +kernel
theorem dX2_far_21 : decode cX2_far 21 = .ok (.invokestatic 13, 3) := by decide +kernel
theorem dX2_far_24 : decode cX2_far 24 = .ok (.invokestatic 21, 3) := by decide +kernel
theorem dX2_far_27 : decode cX2_far 27 = .ok (.ireturn, 1) := by decide +kernel
set_option maxRecDepth 20000 in
theorem ggX2_near_X2_rowOf : GoodIn wsX2_near wsX2_rowOf := goodIn_r _ [12] (by decide +kernel) (by decide +kernel)
set_option maxRecDepth 20000 in
theorem gX2_near_X2_rowOf : GoodIn wsX2_near (va_wsS RX2 7 yX2_rowOf wsX2_rowOf) := goodIn_app (goodIn_of _ (by decide +kernel)) ggX2_near_X2_rowOf
set_option maxRecDepth 20000 in
theorem ggX2_near_X2_colOf : GoodIn wsX2_near wsX2_colOf := goodIn_r _ [15] (by decide +kernel) (by decide +kernel)
set_option maxRecDepth 20000 in
theorem gX2_near_X2_colOf : GoodIn wsX2_near (va_wsS RX2 18 yX2_colOf wsX2_colOf) := goodIn_app (goodIn_of _ (by decide +kernel)) ggX2_near_X2_colOf
theorem dX2_near_0 : decode cX2_near 0 = .ok (.iload_n 1, 1) := by decide +kernel
theorem dX2_near_1 : decode cX2_near 1 = .ok (.iconst 3, 1) := by decide +kernel
theorem dX2_near_2 : decode cX2_near 2 = .ok (.if_icmp .lt 6, 3) := by decide +kernel
theorem dX2_near_5 : decode cX2_near 5 = .ok (.ldc 25, 2) := by decide +kernel
theorem dX2_near_7 : decode cX2_near 7 = .ok (.ireturn, 1) := by decide +kernel
theorem dX2_near_8 : decode cX2_near 8 = .ok (.iconst 0, 1) := by decide +kernel
theorem dX2_near_9 : decode cX2_near 9 = .ok (.iload_n 0, 1) := by decide +kernel
theorem dX2_near_10 : decode cX2_near 10 = .ok (.invokestatic 7, 3) := by decide +kernel
theorem dX2_near_13 : decode cX2_near 13 = .ok (.iload_n 1, 1) := by decide +kernel
theorem dX2_near_14 : decode cX2_near 14 = .ok (.isub, 1) := by decide +kernel
theorem dX2_near_15 : decode cX2_near 15 = .ok (.invokestatic 21, 3) := by decide +kernel
theorem dX2_near_18 : decode cX2_near 18 = .ok (.istore_n 2, 1) := by decide +kernel
theorem dX2_near_19 : decode cX2_near 19 = .ok (.iconst 3, 1) := by decide +kernel
theorem dX2_near_20 : decode cX2_near 20 = .ok (.iload_n 0, 1) := by decide +kernel
theorem dX2_near_21 : decode cX2_near 21 = .ok (.invokestatic 7, 3) := by decide +kernel
theorem dX2_near_24 : decode cX2_near 24 = .ok (.iload_n 1, 1) := by decide +kernel
theorem dX2_near_25 : decode cX2_near 25 = .ok (.iadd, 1) := by decide +kernel
theorem dX2_near_26 : decode cX2_near 26 = .ok (.invokestatic 26, 3) := by decide +kernel
theorem dX2_near_29 : decode cX2_near 29 = .ok (.istore_n 3, 1) := by decide +kernel
theorem dX2_near_30 : decode cX2_near 30 = .ok (.iconst 0, 1) := by decide +kernel
theorem dX2_near_31 : decode cX2_near 31 = .ok (.iload_n 0, 1) := by decide +kernel
theorem dX2_near_32 : decode cX2_near 32 = .ok (.invokestatic 18, 3) := by decide +kernel
theorem dX2_near_35 : decode cX2_near 35 = .ok (.iload_n 1, 1) := by decide +kernel
theorem dX2_near_36 : decode cX2_near 36 = .ok (.isub, 1) := by decide +kernel
theorem dX2_near_37 : decode cX2_near 37 = .ok (.invokestatic 21, 3) := by decide +kernel
theorem dX2_near_40 : decode cX2_near 40 = .ok (.istore 4, 2) := by decide +kernel
theorem dX2_near_42 : decode cX2_near 42 = .ok (.iconst 3, 1) := by decide +kernel
theorem dX2_near_43 : decode cX2_near 43 = .ok (.iload_n 0, 1) := by decide +kernel
theorem dX2_near_44 : decode cX2_near 44 = .ok (.invokestatic 18, 3) := by decide +kernel
theorem dX2_near_47 : decode cX2_near 47 = .ok (.iload_n 1, 1) := by decide +kernel
theorem dX2_near_48 : decode cX2_near 48 = .ok (.iadd, 1) := by decide +kernel
theorem dX2_near_49 : decode cX2_near 49 = .ok (.invokestatic 26, 3) := by decide +kernel
theorem dX2_near_52 : decode cX2_near 52 = .ok (.istore 5, 2) := by decide +kernel
theorem dX2_near_54 : decode cX2_near 54 = .ok (.ldc 25, 2) := by decide +kernel
theorem dX2_near_56 : decode cX2_near 56 = .ok (.iconst 4, 1) := by decide +kernel
theorem dX2_near_57 : decode cX2_near 57 = .ok (.iload_n 2, 1) := by decide +kernel
theorem dX2_near_58 : decode cX2_near 58 = .ok (.imul, 1) := by decide +kernel
theorem dX2_near_59 : decode cX2_near 59 = .ok (.ishl, 1) := by decide +kernel
theorem dX2_near_60 : decode cX2_near 60 = .ok (.ldc 25, 2) := by decide +kernel
theorem dX2_near_62 : decode cX2_near 62 = .ok (.iconst 4, 1) := by decide +kernel
theorem dX2_near_63 : decode cX2_near 63 = .ok (.iconst 3, 1) := by decide +kernel
theorem dX2_near_64 : decode cX2_near 64 = .ok (.iload_n 3, 1) := by decide +kernel
theorem dX2_near_65 : decode cX2_near 65 = .ok (.isub, 1) := by decide +kernel
theorem dX2_near_66 : decode cX2_near 66 = .ok (.imul, 1) := by decide +kernel
theorem dX2_near_67 : decode cX2_near 67 = .ok (.ishr, 1) := by decide +kernel
theorem dX2_near_68 : decode cX2_near 68 = .ok (.iand, 1) := by decide +kernel
theorem dX2_near_69 : decode cX2_near 69 = .ok (.istore 6, 2) := by decide +kernel
theorem dX2_near_71 : decode cX2_near 71 = .ok (.bipush 15, 2) := by decide +kernel
theorem dX2_near_73 : decode cX2_near 73 = .ok (.iload 4, 2) := by decide +kernel
theorem dX2_near_75 : decode cX2_near 75 = .ok (.ishl, 1) := by decide +kernel
theorem dX2_near_76 : decode cX2_near 76 = .ok (.bipush 15, 2) := by decide +kernel
theorem dX2_near_78 : decode cX2_near 78 = .ok (.iconst 3, 1) := by decide +kernel
theorem dX2_near_79 : decode cX2_near 79 = .ok (.iload 5, 2) := by decide +kernel
theorem dX2_near_81 : decode cX2_near 81 = .ok (.isub, 1) := by decide +kernel
theorem dX2_near_82 : decode cX2_near 82 = .ok (.ishr, 1) := by decide +kernel
theorem dX2_near_83 : decode cX2_near 83 = .ok (.iand, 1) := by decide +kernel
theorem dX2_near_84 : decode cX2_near 84 = .ok (.sipush 4369, 3) := by decide +kernel
theorem dX2_near_87 : decode cX2_near 87 = .ok (.imul, 1) := by decide +kernel
theorem dX2_near_88 : decode cX2_near 88 = .ok (.istore 7, 2) := by decide +kernel
theorem dX2_near_90 : decode cX2_near 90 = .ok (.iload 6, 2) := by decide +kernel
theorem dX2_near_92 : decode cX2_near 92 = .ok (.iload 7, 2) := by decide +kernel
theorem dX2_near_94 : decode cX2_near 94 = .ok (.iand, 1) := by decide +kernel
theorem dX2_near_95 : decode cX2_near 95 = .ok (.ireturn, 1) := by decide +kernel
theorem dX2_holds_0 : decode cX2_holds 0 = .ok (.iload_n 0, 1) := by decide +kernel
theorem dX2_holds_1 : decode cX2_holds 1 = .ok (.iload_n 1, 1) := by decide +kernel
theorem dX2_holds_2 : decode cX2_holds 2 = .ok (.ishr, 1) := by decide +kernel
theorem dX2_holds_3 : decode cX2_holds 3 = .ok (.iconst 1, 1) := by decide +kernel
theorem dX2_holds_4 : decode cX2_holds 4 = .ok (.iand, 1) := by decide +kernel
theorem dX2_holds_5 : decode cX2_holds 5 = .ok (.iconst 1, 1) := by decide +kernel
theorem dX2_holds_6 : decode cX2_holds 6 = .ok (.if_icmp .ne 7, 3) := by decide +kernel
theorem dX2_holds_9 : decode cX2_holds 9 = .ok (.iconst 1, 1) := by decide +kernel
theorem dX2_holds_10 : decode cX2_holds 10 = .ok (.goto 4, 3) := by decide +kernel
theorem dX2_holds_13 : decode cX2_holds 13 = .ok (.iconst 0, 1) := by decide +kernel
theorem dX2_holds_14 : decode cX2_holds 14 = .ok (.ireturn, 1) := by decide +kernel
theorem dX3_init_0 : decode cX3_init 0 = .ok (.aload_n 0, 1) := by decide +kernel
theorem dX3_init_1 : decode cX3_init 1 = .ok (.invokespecial 3, 3) := by decide +kernel
theorem dX3_init_4 : decode cX3_init 4 = .ok (.aload_n 0, 1) := by decide +kernel
theorem dX3_init_5 : decode cX3_init 5 = .ok (.bipush 16, 2) := by decide +kernel
theorem dX3_init_7 : decode cX3_init 7 = .ok (.newarray .int, 2) := by decide +kernel
theorem dX3_init_9 : decode cX3_init 9 = .ok (.putfield 9, 3) := by decide +kernel
theorem dX3_init_12 : decode cX3_init 12 = .ok (.aload_n 0, 1) := by decide +kernel
theorem dX3_init_13 : decode cX3_init 13 = .ok (.bipush 16, 2) := by decide +kernel
theorem dX3_init_15 : decode cX3_init 15 = .ok (.newarray .int, 2) := by decide +kernel
theorem dX3_init_17 : decode cX3_init 17 = .ok (.putfield 15, 3) := by decide +kernel
theorem dX3_init_20 : decode cX3_init 20 = .ok (.aload_n 0, 1) := by decide +kernel
theorem dX3_init_21 : decode cX3_init 21 = .ok (.aload_n 1, 1) := by decide +kernel
theorem dX3_init_22 : decode cX3_init 22 = .ok (.putfield 18, 3) := by decide +kernel
theorem dX3_init_25 : decode cX3_init 25 = .ok (.aload_n 0, 1) := by decide +kernel
theorem dX3_init_26 : decode cX3_init 26 = .ok (.aload_n 2, 1) := by decide +kernel
theorem dX3_init_27 : decode cX3_init 27 = .ok (.putfield 22, 3) := by decide +kernel
theorem dX3_init_30 : decode cX3_init 30 = .ok (.return_, 1) := by decide +kernel
set_option maxRecDepth 20000 in
theorem ggX3_slackFor_X0_isNet : GoodIn wsX3_slackFor wsX0_isNet := goodIn_r _ [9, 10, 11, 8, 12, 13] (by decide +kernel) (by decide +kernel)
set_option maxRecDepth 20000 in
theorem gX3_slackFor_X0_isNet : GoodIn wsX3_slackFor (va_wsS RX3 26 yX0_isNet wsX0_isNet) := goodIn_app (goodIn_of _ (by decide +kernel)) ggX3_slackFor_X0_isNet
set_option maxRecDepth 20000 in
theorem ggX3_slackFor_X6_reachOf : GoodIn wsX3_slackFor wsX6_reachOf := goodIn_r _ [18, 19, 52, 53, 54, 55] (by decide +kernel) (by decide +kernel)
set_option maxRecDepth 20000 in
theorem gX3_slackFor_X6_reachOf : GoodIn wsX3_slackFor (wsV RX3 32 RX6 yX6_reachOf wsX6_reachOf) := goodIn_app (goodIn_of _ (by decide +kernel)) ggX3_slackFor_X6_reachOf
set_option maxRecDepth 20000 in
theorem ggX3_slackFor_X0_firstMetOf : GoodIn wsX3_slackFor wsX0_firstMetOf := goodIn_r _ [12, 13] (by decide +kernel) (by decide +kernel)
set_option maxRecDepth 20000 in
theorem gX3_slackFor_X0_firstMetOf : GoodIn wsX3_slackFor (va_wsS RX3 38 yX0_firstMetOf wsX0_firstMetOf) := goodIn_app (goodIn_of _ (by decide +kernel)) ggX3_slackFor_X0_firstMetOf
set_option maxRecDepth 20000 in
theorem ggX3_slackFor_X0_landingOf : GoodIn wsX3_slackFor wsX0_landingOf := goodIn_r _ [23, 13] (by decide +kernel) (by decide +kernel)
set_option maxRecDepth 20000 in
theorem gX3_slackFor_X0_landingOf : GoodIn wsX3_slackFor (va_wsS RX3 42 yX0_landingOf wsX0_landingOf) := goodIn_app (goodIn_of _ (by decide +kernel)) ggX3_slackFor_X0_landingOf
set_option maxRecDepth 20000 in
theorem ggX3_slackFor_X0_cellAt : GoodIn wsX3_slackFor wsX0_cellAt := goodIn_r _ [26, 27, 28, 22, 8, 23, 13] (by decide +kernel) (by decide +kernel)
set_option maxRecDepth 20000 in
theorem gX3_slackFor_X0_cellAt : GoodIn wsX3_slackFor (va_wsS RX3 45 yX0_cellAt wsX0_cellAt) := goodIn_app (goodIn_of _ (by decide +kernel)) ggX3_slackFor_X0_cellAt
set_option maxRecDepth 20000 in
theorem ggX3_slackFor_X2_far : GoodIn wsX3_slackFor wsX2_far := goodIn_r _ [32, 33, 34, 4, 35, 36, 3, 5, 37, 38, 31, 39, 40, 41, 42] (by decide +kernel) (by decide +kernel)
set_option maxRecDepth 20000 in
theorem gX3_slackFor_X2_far : GoodIn wsX3_slackFor (va_wsS RX3 49 yX2_far wsX2_far) := goodIn_app (goodIn_of _ (by decide +kernel)) ggX3_slackFor_X2_far
set_option maxRecDepth 20000 in
theorem ggX3_slackFor_X6_comes : GoodIn wsX3_slackFor wsX6_comes := goodIn_r _ [46, 47, 52, 53, 54, 55] (by decide +kernel) (by decide +kernel)
set_option maxRecDepth 20000 in
theorem gX3_slackFor_X6_comes : GoodIn wsX3_slackFor (wsV RX3 60 RX6 yX6_comes wsX6_comes) := goodIn_app (goodIn_of _ (by decide +kernel)) ggX3_slackFor_X6_comes
theorem dX3_slackFor_0 : decode cX3_slackFor 0 = .ok (.lload_n 3, 1) := by decide +kernel
theorem dX3_slackFor_1 : decode cX3_slackFor 1 = .ok (.invokestatic 26, 3) := by decide +kernel
theorem dX3_slackFor_4 : decode cX3_slackFor 4 = .ok (.ifCond .eq 6, 3) := by decide +kernel
theorem dX3_slackFor_7 : decode cX3_slackFor 7 = .ok (.bipush (-100), 2) := by decide +kernel
theorem dX3_slackFor_9 : decode cX3_slackFor 9 = .ok (.ireturn, 1) := by decide +kernel
theorem dX3_slackFor_10 : decode cX3_slackFor 10 = .ok (.aload_n 0, 1) := by decide +kernel
theorem dX3_slackFor_11 : decode cX3_slackFor 11 = .ok (.getfield 22, 3) := by decide +kernel
theorem dX3_slackFor_14 : decode cX3_slackFor 14 = .ok (.iload_n 1, 1) := by decide +kernel
theorem dX3_slackFor_15 : decode cX3_slackFor 15 = .ok (.invokevirtual 32, 3) := by decide +kernel
theorem dX3_slackFor_18 : decode cX3_slackFor 18 = .ok (.istore 5, 2) := by decide +kernel
theorem dX3_slackFor_20 : decode cX3_slackFor 20 = .ok (.bipush (-100), 2) := by decide +kernel
theorem dX3_slackFor_22 : decode cX3_slackFor 22 = .ok (.istore 6, 2) := by decide +kernel
theorem dX3_slackFor_24 : decode cX3_slackFor 24 = .ok (.lload_n 3, 1) := by decide +kernel
theorem dX3_slackFor_25 : decode cX3_slackFor 25 = .ok (.invokestatic 38, 3) := by decide +kernel
theorem dX3_slackFor_28 : decode cX3_slackFor 28 = .ok (.istore 7, 2) := by decide +kernel
theorem dX3_slackFor_30 : decode cX3_slackFor 30 = .ok (.iload 7, 2) := by decide +kernel
theorem dX3_slackFor_32 : decode cX3_slackFor 32 = .ok (.lload_n 3, 1) := by decide +kernel
theorem dX3_slackFor_33 : decode cX3_slackFor 33 = .ok (.invokestatic 42, 3) := by decide +kernel
theorem dX3_slackFor_36 : decode cX3_slackFor 36 = .ok (.if_icmp .gt 48, 3) := by decide +kernel
theorem dX3_slackFor_39 : decode cX3_slackFor 39 = .ok (.iconst 0, 1) := by decide +kernel
theorem dX3_slackFor_40 : decode cX3_slackFor 40 = .ok (.iload_n 2, 1) := by decide +kernel
theorem dX3_slackFor_41 : decode cX3_slackFor 41 = .ok (.lload_n 3, 1) := by decide +kernel
theorem dX3_slackFor_42 : decode cX3_slackFor 42 = .ok (.iload 7, 2) := by decide +kernel
theorem dX3_slackFor_44 : decode cX3_slackFor 44 = .ok (.invokestatic 45, 3) := by decide +kernel
theorem dX3_slackFor_47 : decode cX3_slackFor 47 = .ok (.invokestatic 49, 3) := by decide +kernel
theorem dX3_slackFor_50 : decode cX3_slackFor 50 = .ok (.iload 5, 2) := by decide +kernel
theorem dX3_slackFor_52 : decode cX3_slackFor 52 = .ok (.isub, 1) := by decide +kernel
theorem dX3_slackFor_53 : decode cX3_slackFor 53 = .ok (.invokestatic 55, 3) := by decide +kernel
theorem dX3_slackFor_56 : decode cX3_slackFor 56 = .ok (.istore 8, 2) := by decide +kernel
theorem dX3_slackFor_58 : decode cX3_slackFor 58 = .ok (.iload 6, 2) := by decide +kernel
theorem dX3_slackFor_60 : decode cX3_slackFor 60 = .ok (.aload_n 0, 1) := by decide +kernel
theorem dX3_slackFor_61 : decode cX3_slackFor 61 = .ok (.getfield 22, 3) := by decide +kernel
theorem dX3_slackFor_64 : decode cX3_slackFor 64 = .ok (.iload_n 1, 1) := by decide +kernel
theorem dX3_slackFor_65 : decode cX3_slackFor 65 = .ok (.iload 7, 2) := by decide +kernel
theorem dX3_slackFor_67 : decode cX3_slackFor 67 = .ok (.invokevirtual 60, 3) := by decide +kernel
theorem dX3_slackFor_70 : decode cX3_slackFor 70 = .ok (.iload 8, 2) := by decide +kernel
theorem dX3_slackFor_72 : decode cX3_slackFor 72 = .ok (.isub, 1) := by decide +kernel
theorem dX3_slackFor_73 : decode cX3_slackFor 73 = .ok (.invokestatic 55, 3) := by decide +kernel
theorem dX3_slackFor_76 : decode cX3_slackFor 76 = .ok (.istore 6, 2) := by decide +kernel
theorem dX3_slackFor_78 : decode cX3_slackFor 78 = .ok (.iinc 7 1, 3) := by decide +kernel
theorem dX3_slackFor_81 : decode cX3_slackFor 81 = .ok (.goto (-51), 3) := by decide +kernel
theorem dX3_slackFor_84 : decode cX3_slackFor 84 = .ok (.iload 6, 2) := by decide +kernel
theorem dX3_slackFor_86 : decode cX3_slackFor 86 = .ok (.ireturn, 1) := by decide +kernel
set_option maxRecDepth 20000 in
theorem ggX3_bestStrike_X0_knownPath : GoodIn wsX3_bestStrike wsX0_knownPath := goodIn_r _ [6, 7, 63, 64, 65, 66, 67] (by decide +kernel) (by decide +kernel)
set_option maxRecDepth 20000 in
theorem gX3_bestStrike_X0_knownPath : GoodIn wsX3_bestStrike (wsV RX3 63 RX0 yX0_knownPath wsX0_knownPath) := goodIn_app (goodIn_of _ (by decide +kernel)) ggX3_bestStrike_X0_knownPath
set_option maxRecDepth 20000 in
theorem ggX3_bestStrike_X0_isNet : GoodIn wsX3_bestStrike wsX0_isNet := goodIn_r _ [10, 11, 12, 5, 13, 14] (by decide +kernel) (by decide +kernel)
set_option maxRecDepth 20000 in
theorem gX3_bestStrike_X0_isNet : GoodIn wsX3_bestStrike (va_wsS RX3 26 yX0_isNet wsX0_isNet) := goodIn_app (goodIn_of _ (by decide +kernel)) ggX3_bestStrike_X0_isNet
set_option maxRecDepth 20000 in
theorem ggX3_bestStrike_X3_slackFor : GoodIn wsX3_bestStrike wsX3_slackFor := goodIn_r _ [19, 20, 21, 22, 23, 24, 8, 9, 5, 10, 11, 12, 13, 14, 25, 26, 27, 28, 29, 30, 31, 32, 33, 34, 35, 36, 37, 38, 39, 40, 41, 42, 43, 44, 45, 46, 47, 48, 49, 50, 51, 52, 53, 54, 55, 56, 57, 58, 59, 60, 61, 62, 68, 69, 70, 71] (by decide +kernel) (by decide +kernel)
set_option maxRecDepth 20000 in
theorem gX3_bestStrike_X3_slackFor : GoodIn wsX3_bestStrike (wsV RX3 67 RX3 yX3_slackFor wsX3_slackFor) := goodIn_app (goodIn_of _ (by decide +kernel)) ggX3_bestStrike_X3_slackFor
theorem dX3_bestStrike_0 : decode cX3_bestStrike 0 = .ok (.iconst (-1), 1) := by decide +kernel
theorem dX3_bestStrike_1 : decode cX3_bestStrike 1 = .ok (.istore 4, 2) := by decide +kernel
theorem dX3_bestStrike_3 : decode cX3_bestStrike 3 = .ok (.iconst 0, 1) := by decide +kernel
theorem dX3_bestStrike_4 : decode cX3_bestStrike 4 = .ok (.istore 5, 2) := by decide +kernel
theorem dX3_bestStrike_6 : decode cX3_bestStrike 6 = .ok (.iconst 0, 1) := by decide +kernel
theorem dX3_bestStrike_7 : decode cX3_bestStrike 7 = .ok (.istore 6, 2) := by decide +kernel
theorem dX3_bestStrike_9 : decode cX3_bestStrike 9 = .ok (.iload 6, 2) := by decide +kernel
theorem dX3_bestStrike_11 : decode cX3_bestStrike 11 = .ok (.bipush 64, 2) := by decide +kernel
theorem dX3_bestStrike_13 : decode cX3_bestStrike 13 = .ok (.if_icmp .ge 63, 3) := by decide +kernel
theorem dX3_bestStrike_16 : decode cX3_bestStrike 16 = .ok (.aload_n 0, 1) := by decide +kernel
theorem dX3_bestStrike_17 : decode cX3_bestStrike 17 = .ok (.getfield 18, 3) := by decide +kernel
theorem dX3_bestStrike_20 : decode cX3_bestStrike 20 = .ok (.iload_n 1, 1) := by decide +kernel
theorem dX3_bestStrike_21 : decode cX3_bestStrike 21 = .ok (.iload 6, 2) := by decide +kernel
theorem dX3_bestStrike_23 : decode cX3_bestStrike 23 = .ok (.invokevirtual 63, 3) := by decide +kernel
theorem dX3_bestStrike_26 : decode cX3_bestStrike 26 = .ok (.lstore 7, 2) := by decide +kernel
theorem dX3_bestStrike_28 : decode cX3_bestStrike 28 = .ok (.lload 7, 2) := by decide +kernel
theorem dX3_bestStrike_30 : decode cX3_bestStrike 30 = .ok (.invokestatic 26, 3) := by decide +kernel
theorem dX3_bestStrike_33 : decode cX3_bestStrike 33 = .ok (.ifCond .eq 6, 3) := by decide +kernel
theorem dX3_bestStrike_36 : decode cX3_bestStrike 36 = .ok (.goto 34, 3) := by decide +kernel
theorem dX3_bestStrike_39 : decode cX3_bestStrike 39 = .ok (.aload_n 0, 1) := by decide +kernel
theorem dX3_bestStrike_40 : decode cX3_bestStrike 40 = .ok (.iload_n 2, 1) := by decide +kernel
theorem dX3_bestStrike_41 : decode cX3_bestStrike 41 = .ok (.iload_n 3, 1) := by decide +kernel
theorem dX3_bestStrike_42 : decode cX3_bestStrike 42 = .ok (.lload 7, 2) := by decide +kernel
theorem dX3_bestStrike_44 : decode cX3_bestStrike 44 = .ok (.invokevirtual 67, 3) := by decide +kernel
theorem dX3_bestStrike_47 : decode cX3_bestStrike 47 = .ok (.istore 9, 2) := by decide +kernel
theorem dX3_bestStrike_49 : decode cX3_bestStrike 49 = .ok (.iload 4, 2) := by decide +kernel
theorem dX3_bestStrike_51 : decode cX3_bestStrike 51 = .ok (.iconst (-1), 1) := by decide +kernel
theorem dX3_bestStrike_52 : decode cX3_bestStrike 52 = .ok (.if_icmp .eq 10, 3) := by decide +kernel
theorem dX3_bestStrike_55 : decode cX3_bestStrike 55 = .ok (.iload 9, 2) := by decide +kernel
theorem dX3_bestStrike_57 : decode cX3_bestStrike 57 = .ok (.iload 5, 2) := by decide +kernel
theorem dX3_bestStrike_59 : decode cX3_bestStrike 59 = .ok (.if_icmp .ge 11, 3) := by decide +kernel
theorem dX3_bestStrike_62 : decode cX3_bestStrike 62 = .ok (.iload 6, 2) := by decide +kernel
theorem dX3_bestStrike_64 : decode cX3_bestStrike 64 = .ok (.istore 4, 2) := by decide +kernel
theorem dX3_bestStrike_66 : decode cX3_bestStrike 66 = .ok (.iload 9, 2) := by decide +kernel
theorem dX3_bestStrike_68 : decode cX3_bestStrike 68 = .ok (.istore 5, 2) := by decide +kernel
theorem dX3_bestStrike_70 : decode cX3_bestStrike 70 = .ok (.iinc 6 1, 3) := by decide +kernel
theorem dX3_bestStrike_73 : decode cX3_bestStrike 73 = .ok (.goto (-64), 3) := by decide +kernel
theorem dX3_bestStrike_76 : decode cX3_bestStrike 76 = .ok (.iload 4, 2) := by decide +kernel
theorem dX3_bestStrike_78 : decode cX3_bestStrike 78 = .ok (.ireturn, 1) := by decide +kernel
set_option maxRecDepth 20000 in
theorem ggX3_leastSlack_X3_bestStrike : GoodIn wsX3_leastSlack wsX3_bestStrike := goodIn_r _ [6, 1, 7, 8, 9, 10, 11, 12, 13, 14, 15, 16, 17, 18, 19, 20, 21, 22, 5, 23, 24, 25, 26, 27, 28, 29, 30, 31, 32, 33, 34, 35, 36, 37, 38, 39, 40, 41, 42, 43, 44, 45, 46, 47, 48, 49, 50, 51, 52, 53, 54, 55, 56, 57, 58, 59, 60, 61, 62, 63, 64, 65, 66, 67, 68, 69, 70, 71, 72, 73, 74, 75] (by decide +kernel) (by decide +kernel)
set_option maxRecDepth 20000 in
theorem gX3_leastSlack_X3_bestStrike : GoodIn wsX3_leastSlack (wsV RX3 71 RX3 yX3_bestStrike wsX3_bestStrike) := goodIn_app (goodIn_of _ (by decide +kernel)) ggX3_leastSlack_X3_bestStrike
set_option maxRecDepth 20000 in
theorem ggX3_leastSlack_X0_knownPath : GoodIn wsX3_leastSlack wsX0_knownPath := goodIn_r _ [11, 12, 67, 68, 69, 70, 71] (by decide +kernel) (by decide +kernel)
set_option maxRecDepth 20000 in
theorem gX3_leastSlack_X0_knownPath : GoodIn wsX3_leastSlack (wsV RX3 63 RX0 yX0_knownPath wsX0_knownPath) := goodIn_app (goodIn_of _ (by decide +kernel)) ggX3_leastSlack_X0_knownPath
set_option maxRecDepth 20000 in
theorem ggX3_leastSlack_X3_slackFor : GoodIn wsX3_leastSlack wsX3_slackFor := goodIn_r _ [23, 24, 25, 26, 27, 28, 13, 14, 10, 15, 16, 17, 18, 19, 29, 30, 31, 32, 33, 34, 35, 36, 37, 38, 39, 40, 41, 42, 43, 44, 45, 46, 47, 48, 49, 50, 51, 52, 53, 54, 55, 56, 57, 58, 59, 60, 61, 62, 63, 64, 65, 66, 72, 73, 74, 75] (by decide +kernel) (by decide +kernel)
set_option maxRecDepth 20000 in
theorem gX3_leastSlack_X3_slackFor : GoodIn wsX3_leastSlack (wsV RX3 67 RX3 yX3_slackFor wsX3_slackFor) := goodIn_app (goodIn_of _ (by decide +kernel)) ggX3_leastSlack_X3_slackFor
theorem dX3_leastSlack_0 : decode cX3_leastSlack 0 = .ok (.aload_n 0, 1) := by decide +kernel
theorem dX3_leastSlack_1 : decode cX3_leastSlack 1 = .ok (.iload_n 1, 1) := by decide +kernel
theorem dX3_leastSlack_2 : decode cX3_leastSlack 2 = .ok (.iload_n 2, 1) := by decide +kernel
theorem dX3_leastSlack_3 : decode cX3_leastSlack 3 = .ok (.iload_n 3, 1) := by decide +kernel
theorem dX3_leastSlack_4 : decode cX3_leastSlack 4 = .ok (.invokevirtual 71, 3) := by decide +kernel
theorem dX3_leastSlack_7 : decode cX3_leastSlack 7 = .ok (.istore 4, 2) := by decide +kernel
theorem dX3_leastSlack_9 : decode cX3_leastSlack 9 = .ok (.iload 4, 2) := by decide +kernel
theorem dX3_leastSlack_11 : decode cX3_leastSlack 11 = .ok (.iconst (-1), 1) := by decide +kernel
theorem dX3_leastSlack_12 : decode cX3_leastSlack 12 = .ok (.if_icmp .ne 8, 3) := by decide +kernel
theorem dX3_leastSlack_15 : decode cX3_leastSlack 15 = .ok (.bipush (-100), 2) := by decide +kernel
theorem dX3_leastSlack_17 : decode cX3_leastSlack 17 = .ok (.goto 19, 3) := by decide +kernel
theorem dX3_leastSlack_20 : decode cX3_leastSlack 20 = .ok (.aload_n 0, 1) := by decide +kernel
theorem dX3_leastSlack_21 : decode cX3_leastSlack 21 = .ok (.iload_n 2, 1) := by decide +kernel
theorem dX3_leastSlack_22 : decode cX3_leastSlack 22 = .ok (.iload_n 3, 1) := by decide +kernel
theorem dX3_leastSlack_23 : decode cX3_leastSlack 23 = .ok (.aload_n 0, 1) := by decide +kernel
theorem dX3_leastSlack_24 : decode cX3_leastSlack 24 = .ok (.getfield 18, 3) := by decide +kernel
theorem dX3_leastSlack_27 : decode cX3_leastSlack 27 = .ok (.iload_n 1, 1) := by decide +kernel
theorem dX3_leastSlack_28 : decode cX3_leastSlack 28 = .ok (.iload 4, 2) := by decide +kernel
theorem dX3_leastSlack_30 : decode cX3_leastSlack 30 = .ok (.invokevirtual 63, 3) := by decide +kernel
theorem dX3_leastSlack_33 : decode cX3_leastSlack 33 = .ok (.invokevirtual 67, 3) := by decide +kernel
theorem dX3_leastSlack_36 : decode cX3_leastSlack 36 = .ok (.ireturn, 1) := by decide +kernel
set_option maxRecDepth 20000 in
theorem ggX3_bestStand_X3_leastSlack : GoodIn wsX3_bestStand wsX3_leastSlack := goodIn_r _ [5, 6, 7, 8, 9, 4, 10, 11, 12, 13, 14, 15, 16, 17, 18, 19, 20, 21, 22, 23, 24, 25, 26, 27, 28, 29, 30, 31, 32, 33, 34, 35, 36, 37, 38, 39, 40, 41, 42, 43, 44, 45, 46, 47, 48, 49, 50, 51, 52, 53, 54, 55, 56, 57, 58, 59, 60, 61, 62, 63, 64, 65, 66, 67, 68, 69, 70, 71, 72, 73, 74, 75, 76, 77, 78, 79] (by decide +kernel) (by decide +kernel)
set_option maxRecDepth 20000 in
theorem gX3_bestStand_X3_leastSlack : GoodIn wsX3_bestStand (wsV RX3 75 RX3 yX3_leastSlack wsX3_leastSlack) := goodIn_app (goodIn_of _ (by decide +kernel)) ggX3_bestStand_X3_leastSlack
theorem dX3_bestStand_0 : decode cX3_bestStand 0 = .ok (.iconst (-1), 1) := by decide +kernel
theorem dX3_bestStand_1 : decode cX3_bestStand 1 = .ok (.istore_n 3, 1) := by decide +kernel
theorem dX3_bestStand_2 : decode cX3_bestStand 2 = .ok (.bipush (-100), 2) := by decide +kernel
theorem dX3_bestStand_4 : decode cX3_bestStand 4 = .ok (.istore 4, 2) := by decide +kernel
theorem dX3_bestStand_6 : decode cX3_bestStand 6 = .ok (.iconst 0, 1) := by decide +kernel
theorem dX3_bestStand_7 : decode cX3_bestStand 7 = .ok (.istore 5, 2) := by decide +kernel
theorem dX3_bestStand_9 : decode cX3_bestStand 9 = .ok (.iload 5, 2) := by decide +kernel
theorem dX3_bestStand_11 : decode cX3_bestStand 11 = .ok (.bipush 16, 2) := by decide +kernel
theorem dX3_bestStand_13 : decode cX3_bestStand 13 = .ok (.if_icmp .ge 33, 3) := by decide +kernel
theorem dX3_bestStand_16 : decode cX3_bestStand 16 = .ok (.aload_n 0, 1) := by decide +kernel
theorem dX3_bestStand_17 : decode cX3_bestStand 17 = .ok (.iload_n 2, 1) := by decide +kernel
theorem dX3_bestStand_18 : decode cX3_bestStand 18 = .ok (.iload_n 1, 1) := by decide +kernel
theorem dX3_bestStand_19 : decode cX3_bestStand 19 = .ok (.iload 5, 2) := by decide +kernel
theorem dX3_bestStand_21 : decode cX3_bestStand 21 = .ok (.invokevirtual 75, 3) := by decide +kernel
theorem dX3_bestStand_24 : decode cX3_bestStand 24 = .ok (.istore 6, 2) := by decide +kernel
theorem dX3_bestStand_26 : decode cX3_bestStand 26 = .ok (.iload 6, 2) := by decide +kernel
theorem dX3_bestStand_28 : decode cX3_bestStand 28 = .ok (.iload 4, 2) := by decide +kernel
theorem dX3_bestStand_30 : decode cX3_bestStand 30 = .ok (.if_icmp .le 10, 3) := by decide +kernel
theorem dX3_bestStand_33 : decode cX3_bestStand 33 = .ok (.iload 5, 2) := by decide +kernel
theorem dX3_bestStand_35 : decode cX3_bestStand 35 = .ok (.istore_n 3, 1) := by decide +kernel
theorem dX3_bestStand_36 : decode cX3_bestStand 36 = .ok (.iload 6, 2) := by decide +kernel
theorem dX3_bestStand_38 : decode cX3_bestStand 38 = .ok (.istore 4, 2) := by decide +kernel
theorem dX3_bestStand_40 : decode cX3_bestStand 40 = .ok (.iinc 5 1, 3) := by decide +kernel
theorem dX3_bestStand_43 : decode cX3_bestStand 43 = .ok (.goto (-34), 3) := by decide +kernel
theorem dX3_bestStand_46 : decode cX3_bestStand 46 = .ok (.iload_n 3, 1) := by decide +kernel
theorem dX3_bestStand_47 : decode cX3_bestStand 47 = .ok (.ireturn, 1) := by decide +kernel
set_option maxRecDepth 20000 in
theorem ggX3_canForce_X0_workOutFrom : GoodIn wsX3_canForce wsX0_workOutFrom := goodIn_r _ [7, 8, 9, 10, 6, 11, 12, 13, 14, 15, 16, 17, 18, 19, 20, 21, 22, 23, 24, 25, 26, 27, 28, 29, 30, 31, 32, 33, 34, 35, 36, 37, 38, 39, 40, 41, 42, 43, 44, 45, 46, 47, 48, 49, 50, 51, 52, 121, 122, 123, 124, 125] (by decide +kernel) (by decide +kernel)
set_option maxRecDepth 20000 in
theorem gX3_canForce_X0_workOutFrom : GoodIn wsX3_canForce (wsV RX3 78 RX0 yX0_workOutFrom wsX0_workOutFrom) := goodIn_app (goodIn_of _ (by decide +kernel)) ggX3_canForce_X0_workOutFrom
set_option maxRecDepth 20000 in
theorem ggX3_canForce_X3_missedFrom : GoodIn wsX3_canForce wsX3_missedFrom := goodIn_r _ [57, 1, 58, 59, 60, 61, 62, 6, 63, 12, 64, 65, 66, 67, 68, 69, 70, 71, 72, 73, 74, 75, 76, 77, 78, 79, 80, 81, 82, 83, 84, 85, 86, 87, 88, 89, 90, 91, 92, 32, 93, 94, 95, 48, 20, 49, 96, 19, 21, 97, 31, 33, 98, 35, 36, 117, 118, 119, 120, 121, 122, 123, 124, 125, 126, 127, 128, 129] (by decide +kernel) (by decide +kernel)
set_option maxRecDepth 20000 in
theorem gX3_canForce_X3_missedFrom : GoodIn wsX3_canForce (wsV RX3 82 RX3 yX3_missedFrom wsX3_missedFrom) := goodIn_app (goodIn_of _ (by decide +kernel)) ggX3_canForce_X3_missedFrom
set_option maxRecDepth 20000 in
theorem ggX3_canForce_X2_holds : GoodIn wsX3_canForce wsX2_holds := goodIn_r _ [101] (by decide +kernel) (by decide +kernel)
set_option maxRecDepth 20000 in
theorem gX3_canForce_X2_holds : GoodIn wsX3_canForce (va_wsS RX3 85 yX2_holds wsX2_holds) := goodIn_app (goodIn_of _ (by decide +kernel)) ggX3_canForce_X2_holds
set_option maxRecDepth 20000 in
theorem ggX3_canForce_X3_widenWon : GoodIn wsX3_canForce wsX3_widenWon := goodIn_r _ [105, 106, 2, 107, 108, 109, 56, 110, 59, 1, 58, 60, 61, 62, 6, 63, 12, 64, 65, 66, 67, 68, 69, 70, 71, 72, 73, 74, 75, 76, 77, 78, 79, 80, 81, 82, 83, 84, 85, 86, 87, 88, 89, 90, 91, 92, 32, 93, 94, 95, 48, 20, 49, 96, 19, 21, 97, 31, 33, 98, 35, 36, 111, 112, 113, 114, 115, 116, 117, 118, 119, 120, 121, 122, 123, 124, 125, 126, 127, 128, 129] (by decide +kernel) (by decide +kernel)
set_option maxRecDepth 20000 in
theorem gX3_canForce_X3_widenWon : GoodIn wsX3_canForce (wsV RX3 89 RX3 yX3_widenWon wsX3_widenWon) := goodIn_app (goodIn_of _ (by decide +kernel)) ggX3_canForce_X3_widenWon
theorem dX3_canForce_0 : decode cX3_canForce 0 = .ok (.aload_n 0, 1) := by decide +kernel
theorem dX3_canForce_1 : decode cX3_canForce 1 = .ok (.getfield 18, 3) := by decide +kernel
theorem dX3_canForce_4 : decode cX3_canForce 4 = .ok (.iload_n 3, 1) := by decide +kernel
theorem dX3_canForce_5 : decode cX3_canForce 5 = .ok (.invokevirtual 78, 3) := by decide +kernel
theorem dX3_canForce_8 : decode cX3_canForce 8 = .ok (.aload_n 0, 1) := by decide +kernel
theorem dX3_canForce_9 : decode cX3_canForce 9 = .ok (.iload_n 2, 1) := by decide +kernel
theorem dX3_canForce_10 : decode cX3_canForce 10 = .ok (.iload_n 3, 1) := by decide +kernel
theorem dX3_canForce_11 : decode cX3_canForce 11 = .ok (.invokevirtual 82, 3) := by decide +kernel
theorem dX3_canForce_14 : decode cX3_canForce 14 = .ok (.iload 4, 2) := by decide +kernel
theorem dX3_canForce_16 : decode cX3_canForce 16 = .ok (.invokestatic 85, 3) := by decide +kernel
theorem dX3_canForce_19 : decode cX3_canForce 19 = .ok (.ifCond .eq 5, 3) := by decide +kernel
theorem dX3_canForce_22 : decode cX3_canForce 22 = .ok (.iconst 1, 1) := by decide +kernel
theorem dX3_canForce_23 : decode cX3_canForce 23 = .ok (.ireturn, 1) := by decide +kernel
theorem dX3_canForce_24 : decode cX3_canForce 24 = .ok (.iload 5, 2) := by decide +kernel
theorem dX3_canForce_26 : decode cX3_canForce 26 = .ok (.iconst 1, 1) := by decide +kernel
theorem dX3_canForce_27 : decode cX3_canForce 27 = .ok (.if_icmp .ne 5, 3) := by decide +kernel
theorem dX3_canForce_30 : decode cX3_canForce 30 = .ok (.iconst 0, 1) := by decide +kernel
theorem dX3_canForce_31 : decode cX3_canForce 31 = .ok (.ireturn, 1) := by decide +kernel
theorem dX3_canForce_32 : decode cX3_canForce 32 = .ok (.iconst 0, 1) := by decide +kernel
theorem dX3_canForce_33 : decode cX3_canForce 33 = .ok (.istore 6, 2) := by decide +kernel
theorem dX3_canForce_35 : decode cX3_canForce 35 = .ok (.iload 6, 2) := by decide +kernel
theorem dX3_canForce_37 : decode cX3_canForce 37 = .ok (.bipush 16, 2) := by decide +kernel
theorem dX3_canForce_39 : decode cX3_canForce 39 = .ok (.if_icmp .ge 32, 3) := by decide +kernel
theorem dX3_canForce_42 : decode cX3_canForce 42 = .ok (.aload_n 0, 1) := by decide +kernel
theorem dX3_canForce_43 : decode cX3_canForce 43 = .ok (.getfield 18, 3) := by decide +kernel
theorem dX3_canForce_46 : decode cX3_canForce 46 = .ok (.iload 6, 2) := by decide +kernel
theorem dX3_canForce_48 : decode cX3_canForce 48 = .ok (.invokevirtual 78, 3) := by decide +kernel
theorem dX3_canForce_51 : decode cX3_canForce 51 = .ok (.aload_n 0, 1) := by decide +kernel
theorem dX3_canForce_52 : decode cX3_canForce 52 = .ok (.getfield 9, 3) := by decide +kernel
theorem dX3_canForce_55 : decode cX3_canForce 55 = .ok (.iload 6, 2) := by decide +kernel
theorem dX3_canForce_57 : decode cX3_canForce 57 = .ok (.aload_n 0, 1) := by decide +kernel
theorem dX3_canForce_58 : decode cX3_canForce 58 = .ok (.iload_n 2, 1) := by decide +kernel
theorem dX3_canForce_59 : decode cX3_canForce 59 = .ok (.iload 6, 2) := by decide +kernel
theorem dX3_canForce_61 : decode cX3_canForce 61 = .ok (.invokevirtual 82, 3) := by decide +kernel
theorem dX3_canForce_64 : decode cX3_canForce 64 = .ok (.iastore, 1) := by decide +kernel
theorem dX3_canForce_65 : decode cX3_canForce 65 = .ok (.iinc 6 1, 3) := by decide +kernel
theorem dX3_canForce_68 : decode cX3_canForce 68 = .ok (.goto (-33), 3) := by decide +kernel
theorem dX3_canForce_71 : decode cX3_canForce 71 = .ok (.iconst 1, 1) := by decide +kernel
theorem dX3_canForce_72 : decode cX3_canForce 72 = .ok (.istore 6, 2) := by decide +kernel
theorem dX3_canForce_74 : decode cX3_canForce 74 = .ok (.iconst 2, 1) := by decide +kernel
theorem dX3_canForce_75 : decode cX3_canForce 75 = .ok (.istore 7, 2) := by decide +kernel
theorem dX3_canForce_77 : decode cX3_canForce 77 = .ok (.iload 7, 2) := by decide +kernel
theorem dX3_canForce_79 : decode cX3_canForce 79 = .ok (.iload 5, 2) := by decide +kernel
theorem dX3_canForce_81 : decode cX3_canForce 81 = .ok (.if_icmp .gt 22, 3) := by decide +kernel
theorem dX3_canForce_84 : decode cX3_canForce 84 = .ok (.iload 6, 2) := by decide +kernel
theorem dX3_canForce_86 : decode cX3_canForce 86 = .ok (.ifCond .eq 17, 3) := by decide +kernel
theorem dX3_canForce_89 : decode cX3_canForce 89 = .ok (.aload_n 0, 1) := by decide +kernel
theorem dX3_canForce_90 : decode cX3_canForce 90 = .ok (.iload_n 1, 1) := by decide +kernel
theorem dX3_canForce_91 : decode cX3_canForce 91 = .ok (.iload_n 2, 1) := by decide +kernel
theorem dX3_canForce_92 : decode cX3_canForce 92 = .ok (.invokevirtual 89, 3) := by decide +kernel
theorem dX3_canForce_95 : decode cX3_canForce 95 = .ok (.istore 6, 2) := by decide +kernel
theorem dX3_canForce_97 : decode cX3_canForce 97 = .ok (.iinc 7 1, 3) := by decide +kernel
theorem dX3_canForce_100 : decode cX3_canForce 100 = .ok (.goto (-23), 3) := by decide +kernel
theorem dX3_canForce_103 : decode cX3_canForce 103 = .ok (.aload_n 0, 1) := by decide +kernel
theorem dX3_canForce_104 : decode cX3_canForce 104 = .ok (.getfield 9, 3) := by decide +kernel
theorem dX3_canForce_107 : decode cX3_canForce 107 = .ok (.iload_n 3, 1) := by decide +kernel
theorem dX3_canForce_108 : decode cX3_canForce 108 = .ok (.iaload, 1) := by decide +kernel
theorem dX3_canForce_109 : decode cX3_canForce 109 = .ok (.iload 4, 2) := by decide +kernel
theorem dX3_canForce_111 : decode cX3_canForce 111 = .ok (.invokestatic 85, 3) := by decide +kernel
theorem dX3_canForce_114 : decode cX3_canForce 114 = .ok (.ireturn, 1) := by decide +kernel
set_option maxRecDepth 20000 in
theorem ggX3_widenWon_X3_heldAgainst : GoodIn wsX3_widenWon wsX3_heldAgainst := goodIn_r _ [7, 8, 9, 10, 2, 11, 12, 13, 14, 15, 16, 17, 18, 19, 20, 21, 22, 23, 24, 25, 26, 27, 28, 29, 30, 31, 32, 33, 34, 35, 36, 37, 38, 39, 40, 41, 42, 43, 44, 45, 46, 47, 48, 49, 50, 51, 52, 53, 54, 55, 56, 57, 58, 59, 60, 61, 62, 63, 68, 69, 70, 71, 72, 73, 74, 75, 76, 77, 78, 79, 80] (by decide +kernel) (by decide +kernel)
set_option maxRecDepth 20000 in
theorem gX3_widenWon_X3_heldAgainst : GoodIn wsX3_widenWon (wsV RX3 92 RX3 yX3_heldAgainst wsX3_heldAgainst) := goodIn_app (goodIn_of _ (by decide +kernel)) ggX3_widenWon_X3_heldAgainst
set_option maxRecDepth 20000 in
theorem ggX3_widenWon_X3_forcedFrom : GoodIn wsX3_widenWon wsX3_forcedFrom := goodIn_r _ [67, 9, 10, 1, 11, 12, 13, 14, 15, 16, 17, 18, 19, 20, 21, 22, 23, 24, 25, 26, 27, 28, 29, 30, 31, 32, 33, 34, 35, 36, 37, 38, 39, 40, 41, 42, 43, 44, 45, 46, 47, 48, 49, 50, 51, 52, 53, 54, 55, 56, 57, 58, 59, 60, 61, 62, 63, 68, 69, 70, 71, 72, 73, 74, 75, 76, 77, 78, 79, 80] (by decide +kernel) (by decide +kernel)
set_option maxRecDepth 20000 in
theorem gX3_widenWon_X3_forcedFrom : GoodIn wsX3_widenWon (wsV RX3 95 RX3 yX3_forcedFrom wsX3_forcedFrom) := goodIn_app (goodIn_of _ (by decide +kernel)) ggX3_widenWon_X3_forcedFrom
theorem dX3_widenWon_0 : decode cX3_widenWon 0 = .ok (.iconst 0, 1) := by decide +kernel
theorem dX3_widenWon_1 : decode cX3_widenWon 1 = .ok (.istore_n 3, 1) := by decide +kernel
theorem dX3_widenWon_2 : decode cX3_widenWon 2 = .ok (.iload_n 3, 1) := by decide +kernel
theorem dX3_widenWon_3 : decode cX3_widenWon 3 = .ok (.bipush 16, 2) := by decide +kernel
theorem dX3_widenWon_5 : decode cX3_widenWon 5 = .ok (.if_icmp .ge 22, 3) := by decide +kernel
theorem dX3_widenWon_8 : decode cX3_widenWon 8 = .ok (.aload_n 0, 1) := by decide +kernel
theorem dX3_widenWon_9 : decode cX3_widenWon 9 = .ok (.getfield 15, 3) := by decide +kernel
theorem dX3_widenWon_12 : decode cX3_widenWon 12 = .ok (.iload_n 3, 1) := by decide +kernel
theorem dX3_widenWon_13 : decode cX3_widenWon 13 = .ok (.aload_n 0, 1) := by decide +kernel
theorem dX3_widenWon_14 : decode cX3_widenWon 14 = .ok (.iload_n 1, 1) := by decide +kernel
theorem dX3_widenWon_15 : decode cX3_widenWon 15 = .ok (.iload_n 2, 1) := by decide +kernel
theorem dX3_widenWon_16 : decode cX3_widenWon 16 = .ok (.iload_n 3, 1) := by decide +kernel
theorem dX3_widenWon_17 : decode cX3_widenWon 17 = .ok (.invokevirtual 92, 3) := by decide +kernel
theorem dX3_widenWon_20 : decode cX3_widenWon 20 = .ok (.iastore, 1) := by decide +kernel
theorem dX3_widenWon_21 : decode cX3_widenWon 21 = .ok (.iinc 3 1, 3) := by decide +kernel
theorem dX3_widenWon_24 : decode cX3_widenWon 24 = .ok (.goto (-22), 3) := by decide +kernel
theorem dX3_widenWon_27 : decode cX3_widenWon 27 = .ok (.iconst 0, 1) := by decide +kernel
theorem dX3_widenWon_28 : decode cX3_widenWon 28 = .ok (.istore_n 3, 1) := by decide +kernel
theorem dX3_widenWon_29 : decode cX3_widenWon 29 = .ok (.iconst 0, 1) := by decide +kernel
theorem dX3_widenWon_30 : decode cX3_widenWon 30 = .ok (.istore 4, 2) := by decide +kernel
theorem dX3_widenWon_32 : decode cX3_widenWon 32 = .ok (.iload 4, 2) := by decide +kernel
theorem dX3_widenWon_34 : decode cX3_widenWon 34 = .ok (.bipush 16, 2) := by decide +kernel
theorem dX3_widenWon_36 : decode cX3_widenWon 36 = .ok (.if_icmp .ge 58, 3) := by decide +kernel
theorem dX3_widenWon_39 : decode cX3_widenWon 39 = .ok (.aload_n 0, 1) := by decide +kernel
theorem dX3_widenWon_40 : decode cX3_widenWon 40 = .ok (.getfield 9, 3) := by decide +kernel
theorem dX3_widenWon_43 : decode cX3_widenWon 43 = .ok (.iload 4, 2) := by decide +kernel
theorem dX3_widenWon_45 : decode cX3_widenWon 45 = .ok (.iaload, 1) := by decide +kernel
theorem dX3_widenWon_46 : decode cX3_widenWon 46 = .ok (.aload_n 0, 1) := by decide +kernel
theorem dX3_widenWon_47 : decode cX3_widenWon 47 = .ok (.iload_n 1, 1) := by decide +kernel
theorem dX3_widenWon_48 : decode cX3_widenWon 48 = .ok (.iload_n 2, 1) := by decide +kernel
theorem dX3_widenWon_49 : decode cX3_widenWon 49 = .ok (.iload 4, 2) := by decide +kernel
theorem dX3_widenWon_51 : decode cX3_widenWon 51 = .ok (.invokevirtual 95, 3) := by decide +kernel
theorem dX3_widenWon_54 : decode cX3_widenWon 54 = .ok (.ior, 1) := by decide +kernel
theorem dX3_widenWon_55 : decode cX3_widenWon 55 = .ok (.istore 5, 2) := by decide +kernel
theorem dX3_widenWon_57 : decode cX3_widenWon 57 = .ok (.iload_n 3, 1) := by decide +kernel
theorem dX3_widenWon_58 : decode cX3_widenWon 58 = .ok (.ifCond .ne 15, 3) := by decide +kernel
theorem dX3_widenWon_61 : decode cX3_widenWon 61 = .ok (.iload 5, 2) := by decide +kernel
theorem dX3_widenWon_63 : decode cX3_widenWon 63 = .ok (.aload_n 0, 1) := by decide +kernel
theorem dX3_widenWon_64 : decode cX3_widenWon 64 = .ok (.getfield 9, 3) := by decide +kernel
theorem dX3_widenWon_67 : decode cX3_widenWon 67 = .ok (.iload 4, 2) := by decide +kernel
theorem dX3_widenWon_69 : decode cX3_widenWon 69 = .ok (.iaload, 1) := by decide +kernel
theorem dX3_widenWon_70 : decode cX3_widenWon 70 = .ok (.if_icmp .eq 7, 3) := by decide +kernel
theorem dX3_widenWon_73 : decode cX3_widenWon 73 = .ok (.iconst 1, 1) := by decide +kernel
theorem dX3_widenWon_74 : decode cX3_widenWon 74 = .ok (.goto 4, 3) := by decide +kernel
theorem dX3_widenWon_77 : decode cX3_widenWon 77 = .ok (.iconst 0, 1) := by decide +kernel
theorem dX3_widenWon_78 : decode cX3_widenWon 78 = .ok (.istore_n 3, 1) := by decide +kernel
theorem dX3_widenWon_79 : decode cX3_widenWon 79 = .ok (.aload_n 0, 1) := by decide +kernel
theorem dX3_widenWon_80 : decode cX3_widenWon 80 = .ok (.getfield 9, 3) := by decide +kernel
theorem dX3_widenWon_83 : decode cX3_widenWon 83 = .ok (.iload 4, 2) := by decide +kernel
theorem dX3_widenWon_85 : decode cX3_widenWon 85 = .ok (.iload 5, 2) := by decide +kernel
theorem dX3_widenWon_87 : decode cX3_widenWon 87 = .ok (.iastore, 1) := by decide +kernel
theorem dX3_widenWon_88 : decode cX3_widenWon 88 = .ok (.iinc 4 1, 3) := by decide +kernel
theorem dX3_widenWon_91 : decode cX3_widenWon 91 = .ok (.goto (-59), 3) := by decide +kernel
theorem dX3_widenWon_94 : decode cX3_widenWon 94 = .ok (.iload_n 3, 1) := by decide +kernel
theorem dX3_widenWon_95 : decode cX3_widenWon 95 = .ok (.ireturn, 1) := by decide +kernel
set_option maxRecDepth 20000 in
theorem ggX3_missedFrom_X0_knownPath : GoodIn wsX3_missedFrom wsX0_knownPath := goodIn_r _ [8, 9, 59, 60, 61, 62, 63] (by decide +kernel) (by decide +kernel)
set_option maxRecDepth 20000 in
theorem gX3_missedFrom_X0_knownPath : GoodIn wsX3_missedFrom (wsV RX3 63 RX0 yX0_knownPath wsX0_knownPath) := goodIn_app (goodIn_of _ (by decide +kernel)) ggX3_missedFrom_X0_knownPath
set_option maxRecDepth 20000 in
theorem ggX3_missedFrom_X0_isNet : GoodIn wsX3_missedFrom wsX0_isNet := goodIn_r _ [12, 13, 14, 7, 15, 16] (by decide +kernel) (by decide +kernel)
set_option maxRecDepth 20000 in
theorem gX3_missedFrom_X0_isNet : GoodIn wsX3_missedFrom (va_wsS RX3 26 yX0_isNet wsX0_isNet) := goodIn_app (goodIn_of _ (by decide +kernel)) ggX3_missedFrom_X0_isNet
set_option maxRecDepth 20000 in
theorem ggX3_missedFrom_X0_firstMetOf : GoodIn wsX3_missedFrom wsX0_firstMetOf := goodIn_r _ [15, 16] (by decide +kernel) (by decide +kernel)
set_option maxRecDepth 20000 in
theorem gX3_missedFrom_X0_firstMetOf : GoodIn wsX3_missedFrom (va_wsS RX3 38 yX0_firstMetOf wsX0_firstMetOf) := goodIn_app (goodIn_of _ (by decide +kernel)) ggX3_missedFrom_X0_firstMetOf
set_option maxRecDepth 20000 in
theorem ggX3_missedFrom_X0_landingOf : GoodIn wsX3_missedFrom wsX0_landingOf := goodIn_r _ [20, 16] (by decide +kernel) (by decide +kernel)
set_option maxRecDepth 20000 in
theorem gX3_missedFrom_X0_landingOf : GoodIn wsX3_missedFrom (va_wsS RX3 42 yX0_landingOf wsX0_landingOf) := goodIn_app (goodIn_of _ (by decide +kernel)) ggX3_missedFrom_X0_landingOf
set_option maxRecDepth 20000 in
theorem ggX3_missedFrom_X0_cellAt : GoodIn wsX3_missedFrom wsX0_cellAt := goodIn_r _ [23, 24, 25, 19, 7, 20, 16] (by decide +kernel) (by decide +kernel)
set_option maxRecDepth 20000 in
theorem gX3_missedFrom_X0_cellAt : GoodIn wsX3_missedFrom (va_wsS RX3 45 yX0_cellAt wsX0_cellAt) := goodIn_app (goodIn_of _ (by decide +kernel)) ggX3_missedFrom_X0_cellAt
set_option maxRecDepth 20000 in
theorem ggX3_missedFrom_X6_meetingCells : GoodIn wsX3_missedFrom wsX6_meetingCells := goodIn_r _ [30, 31, 32, 33, 34, 29, 35, 36, 37, 38, 39, 40, 41, 42, 43, 44, 45, 46, 47, 48, 49, 50, 51, 52, 53, 54, 64, 65, 66, 67] (by decide +kernel) (by decide +kernel)
set_option maxRecDepth 20000 in
theorem gX3_missedFrom_X6_meetingCells : GoodIn wsX3_missedFrom (wsV RX3 98 RX6 yX6_meetingCells wsX6_meetingCells) := goodIn_app (goodIn_of _ (by decide +kernel)) ggX3_missedFrom_X6_meetingCells
theorem dX3_missedFrom_0 : decode cX3_missedFrom 0 = .ok (.iconst 0, 1) := by decide +kernel
theorem dX3_missedFrom_1 : decode cX3_missedFrom 1 = .ok (.istore_n 3, 1) := by decide +kernel
theorem dX3_missedFrom_2 : decode cX3_missedFrom 2 = .ok (.iconst 0, 1) := by decide +kernel
theorem dX3_missedFrom_3 : decode cX3_missedFrom 3 = .ok (.istore 4, 2) := by decide +kernel
theorem dX3_missedFrom_5 : decode cX3_missedFrom 5 = .ok (.iload 4, 2) := by decide +kernel
theorem dX3_missedFrom_7 : decode cX3_missedFrom 7 = .ok (.bipush 64, 2) := by decide +kernel
theorem dX3_missedFrom_9 : decode cX3_missedFrom 9 = .ok (.if_icmp .ge 90, 3) := by decide +kernel
theorem dX3_missedFrom_12 : decode cX3_missedFrom 12 = .ok (.aload_n 0, 1) := by decide +kernel
theorem dX3_missedFrom_13 : decode cX3_missedFrom 13 = .ok (.getfield 18, 3) := by decide +kernel
theorem dX3_missedFrom_16 : decode cX3_missedFrom 16 = .ok (.iload_n 2, 1) := by decide +kernel
theorem dX3_missedFrom_17 : decode cX3_missedFrom 17 = .ok (.iload 4, 2) := by decide +kernel
theorem dX3_missedFrom_19 : decode cX3_missedFrom 19 = .ok (.invokevirtual 63, 3) := by decide +kernel
theorem dX3_missedFrom_22 : decode cX3_missedFrom 22 = .ok (.lstore 5, 2) := by decide +kernel
theorem dX3_missedFrom_24 : decode cX3_missedFrom 24 = .ok (.lload 5, 2) := by decide +kernel
theorem dX3_missedFrom_26 : decode cX3_missedFrom 26 = .ok (.invokestatic 26, 3) := by decide +kernel
theorem dX3_missedFrom_29 : decode cX3_missedFrom 29 = .ok (.ifCond .eq 6, 3) := by decide +kernel
theorem dX3_missedFrom_32 : decode cX3_missedFrom 32 = .ok (.goto 61, 3) := by decide +kernel
theorem dX3_missedFrom_35 : decode cX3_missedFrom 35 = .ok (.iconst 0, 1) := by decide +kernel
theorem dX3_missedFrom_36 : decode cX3_missedFrom 36 = .ok (.istore 7, 2) := by decide +kernel
theorem dX3_missedFrom_38 : decode cX3_missedFrom 38 = .ok (.lload 5, 2) := by decide +kernel
theorem dX3_missedFrom_40 : decode cX3_missedFrom 40 = .ok (.invokestatic 38, 3) := by decide +kernel
theorem dX3_missedFrom_43 : decode cX3_missedFrom 43 = .ok (.istore 8, 2) := by decide +kernel
theorem dX3_missedFrom_45 : decode cX3_missedFrom 45 = .ok (.iload 8, 2) := by decide +kernel
theorem dX3_missedFrom_47 : decode cX3_missedFrom 47 = .ok (.lload 5, 2) := by decide +kernel
theorem dX3_missedFrom_49 : decode cX3_missedFrom 49 = .ok (.invokestatic 42, 3) := by decide +kernel
theorem dX3_missedFrom_52 : decode cX3_missedFrom 52 = .ok (.if_icmp .gt 31, 3) := by decide +kernel
theorem dX3_missedFrom_55 : decode cX3_missedFrom 55 = .ok (.iload 7, 2) := by decide +kernel
theorem dX3_missedFrom_57 : decode cX3_missedFrom 57 = .ok (.aload_n 0, 1) := by decide +kernel
theorem dX3_missedFrom_58 : decode cX3_missedFrom 58 = .ok (.getfield 22, 3) := by decide +kernel
theorem dX3_missedFrom_61 : decode cX3_missedFrom 61 = .ok (.iload_n 1, 1) := by decide +kernel
theorem dX3_missedFrom_62 : decode cX3_missedFrom 62 = .ok (.lload 5, 2) := by decide +kernel
theorem dX3_missedFrom_64 : decode cX3_missedFrom 64 = .ok (.iload 8, 2) := by decide +kernel
theorem dX3_missedFrom_66 : decode cX3_missedFrom 66 = .ok (.invokestatic 45, 3) := by decide +kernel
theorem dX3_missedFrom_69 : decode cX3_missedFrom 69 = .ok (.iload 8, 2) := by decide +kernel
theorem dX3_missedFrom_71 : decode cX3_missedFrom 71 = .ok (.invokevirtual 98, 3) := by decide +kernel
theorem dX3_missedFrom_74 : decode cX3_missedFrom 74 = .ok (.ior, 1) := by decide +kernel
theorem dX3_missedFrom_75 : decode cX3_missedFrom 75 = .ok (.istore 7, 2) := by decide +kernel
theorem dX3_missedFrom_77 : decode cX3_missedFrom 77 = .ok (.iinc 8 1, 3) := by decide +kernel
theorem dX3_missedFrom_80 : decode cX3_missedFrom 80 = .ok (.goto (-35), 3) := by decide +kernel
theorem dX3_missedFrom_83 : decode cX3_missedFrom 83 = .ok (.iload_n 3, 1) := by decide +kernel
theorem dX3_missedFrom_84 : decode cX3_missedFrom 84 = .ok (.ldc 101, 2) := by decide +kernel
theorem dX3_missedFrom_86 : decode cX3_missedFrom 86 = .ok (.iload 7, 2) := by decide +kernel
theorem dX3_missedFrom_88 : decode cX3_missedFrom 88 = .ok (.iconst (-1), 1) := by decide +kernel
theorem dX3_missedFrom_89 : decode cX3_missedFrom 89 = .ok (.ixor, 1) := by decide +kernel
theorem dX3_missedFrom_90 : decode cX3_missedFrom 90 = .ok (.iand, 1) := by decide +kernel
theorem dX3_missedFrom_91 : decode cX3_missedFrom 91 = .ok (.ior, 1) := by decide +kernel
theorem dX3_missedFrom_92 : decode cX3_missedFrom 92 = .ok (.istore_n 3, 1) := by decide +kernel
theorem dX3_missedFrom_93 : decode cX3_missedFrom 93 = .ok (.iinc 4 1, 3) := by decide +kernel
theorem dX3_missedFrom_96 : decode cX3_missedFrom 96 = .ok (.goto (-91), 3) := by decide +kernel
theorem dX3_missedFrom_99 : decode cX3_missedFrom 99 = .ok (.iload_n 3, 1) := by decide +kernel
theorem dX3_missedFrom_100 : decode cX3_missedFrom 100 = .ok (.ireturn, 1) := by decide +kernel
set_option maxRecDepth 20000 in
theorem ggX3_heldAgainst_X0_knownPath : GoodIn wsX3_heldAgainst wsX0_knownPath := goodIn_r _ [9, 10, 62, 63, 64, 65, 66] (by decide +kernel) (by decide +kernel)
set_option maxRecDepth 20000 in
theorem gX3_heldAgainst_X0_knownPath : GoodIn wsX3_heldAgainst (wsV RX3 63 RX0 yX0_knownPath wsX0_knownPath) := goodIn_app (goodIn_of _ (by decide +kernel)) ggX3_heldAgainst_X0_knownPath
set_option maxRecDepth 20000 in
theorem ggX3_heldAgainst_X0_isNet : GoodIn wsX3_heldAgainst wsX0_isNet := goodIn_r _ [13, 14, 15, 8, 16, 17] (by decide +kernel) (by decide +kernel)
set_option maxRecDepth 20000 in
theorem gX3_heldAgainst_X0_isNet : GoodIn wsX3_heldAgainst (va_wsS RX3 26 yX0_isNet wsX0_isNet) := goodIn_app (goodIn_of _ (by decide +kernel)) ggX3_heldAgainst_X0_isNet
set_option maxRecDepth 20000 in
theorem ggX3_heldAgainst_X0_firstMetOf : GoodIn wsX3_heldAgainst wsX0_firstMetOf := goodIn_r _ [16, 17] (by decide +kernel) (by decide +kernel)
set_option maxRecDepth 20000 in
theorem gX3_heldAgainst_X0_firstMetOf : GoodIn wsX3_heldAgainst (va_wsS RX3 38 yX0_firstMetOf wsX0_firstMetOf) := goodIn_app (goodIn_of _ (by decide +kernel)) ggX3_heldAgainst_X0_firstMetOf
set_option maxRecDepth 20000 in
theorem ggX3_heldAgainst_X0_landingOf : GoodIn wsX3_heldAgainst wsX0_landingOf := goodIn_r _ [21, 17] (by decide +kernel) (by decide +kernel)
set_option maxRecDepth 20000 in
theorem gX3_heldAgainst_X0_landingOf : GoodIn wsX3_heldAgainst (va_wsS RX3 42 yX0_landingOf wsX0_landingOf) := goodIn_app (goodIn_of _ (by decide +kernel)) ggX3_heldAgainst_X0_landingOf
set_option maxRecDepth 20000 in
theorem ggX3_heldAgainst_X0_cellAt : GoodIn wsX3_heldAgainst wsX0_cellAt := goodIn_r _ [24, 25, 26, 20, 8, 21, 17] (by decide +kernel) (by decide +kernel)
set_option maxRecDepth 20000 in
theorem gX3_heldAgainst_X0_cellAt : GoodIn wsX3_heldAgainst (va_wsS RX3 45 yX0_cellAt wsX0_cellAt) := goodIn_app (goodIn_of _ (by decide +kernel)) ggX3_heldAgainst_X0_cellAt
set_option maxRecDepth 20000 in
theorem ggX3_heldAgainst_X6_meetingCells : GoodIn wsX3_heldAgainst wsX6_meetingCells := goodIn_r _ [31, 32, 33, 34, 35, 30, 36, 37, 38, 39, 40, 41, 42, 43, 44, 45, 46, 47, 48, 49, 50, 51, 52, 53, 54, 55, 67, 68, 69, 70] (by decide +kernel) (by decide +kernel)
set_option maxRecDepth 20000 in
theorem gX3_heldAgainst_X6_meetingCells : GoodIn wsX3_heldAgainst (wsV RX3 98 RX6 yX6_meetingCells wsX6_meetingCells) := goodIn_app (goodIn_of _ (by decide +kernel)) ggX3_heldAgainst_X6_meetingCells
set_option maxRecDepth 20000 in
theorem ggX3_heldAgainst_X6_comes : GoodIn wsX3_heldAgainst wsX6_comes := goodIn_r _ [36, 37, 67, 68, 69, 70] (by decide +kernel) (by decide +kernel)
set_option maxRecDepth 20000 in
theorem gX3_heldAgainst_X6_comes : GoodIn wsX3_heldAgainst (wsV RX3 60 RX6 yX6_comes wsX6_comes) := goodIn_app (goodIn_of _ (by decide +kernel)) ggX3_heldAgainst_X6_comes
set_option maxRecDepth 20000 in
theorem ggX3_heldAgainst_X2_near : GoodIn wsX3_heldAgainst wsX2_near := goodIn_r _ [41, 42, 43, 44, 45, 46, 47, 48, 49, 50, 51, 40, 52, 53, 54, 55] (by decide +kernel) (by decide +kernel)
set_option maxRecDepth 20000 in
theorem gX3_heldAgainst_X2_near : GoodIn wsX3_heldAgainst (va_wsS RX3 102 yX2_near wsX2_near) := goodIn_app (goodIn_of _ (by decide +kernel)) ggX3_heldAgainst_X2_near
theorem dX3_heldAgainst_0 : decode cX3_heldAgainst 0 = .ok (.ldc 101, 2) := by decide +kernel
theorem dX3_heldAgainst_2 : decode cX3_heldAgainst 2 = .ok (.istore 4, 2) := by decide +kernel
theorem dX3_heldAgainst_4 : decode cX3_heldAgainst 4 = .ok (.iconst 0, 1) := by decide +kernel
theorem dX3_heldAgainst_5 : decode cX3_heldAgainst 5 = .ok (.istore 5, 2) := by decide +kernel
theorem dX3_heldAgainst_7 : decode cX3_heldAgainst 7 = .ok (.iload 5, 2) := by decide +kernel
theorem dX3_heldAgainst_9 : decode cX3_heldAgainst 9 = .ok (.bipush 64, 2) := by decide +kernel
theorem dX3_heldAgainst_11 : decode cX3_heldAgainst 11 = .ok (.if_icmp .ge 142, 3) := by decide +kernel
theorem dX3_heldAgainst_14 : decode cX3_heldAgainst 14 = .ok (.iload 4, 2) := by decide +kernel
theorem dX3_heldAgainst_16 : decode cX3_heldAgainst 16 = .ok (.ifCond .eq 137, 3) := by decide +kernel
theorem dX3_heldAgainst_19 : decode cX3_heldAgainst 19 = .ok (.aload_n 0, 1) := by decide +kernel
theorem dX3_heldAgainst_20 : decode cX3_heldAgainst 20 = .ok (.getfield 18, 3) := by decide +kernel
theorem dX3_heldAgainst_23 : decode cX3_heldAgainst 23 = .ok (.iload_n 3, 1) := by decide +kernel
theorem dX3_heldAgainst_24 : decode cX3_heldAgainst 24 = .ok (.iload 5, 2) := by decide +kernel
theorem dX3_heldAgainst_26 : decode cX3_heldAgainst 26 = .ok (.invokevirtual 63, 3) := by decide +kernel
theorem dX3_heldAgainst_29 : decode cX3_heldAgainst 29 = .ok (.lstore 6, 2) := by decide +kernel
theorem dX3_heldAgainst_31 : decode cX3_heldAgainst 31 = .ok (.lload 6, 2) := by decide +kernel
theorem dX3_heldAgainst_33 : decode cX3_heldAgainst 33 = .ok (.invokestatic 26, 3) := by decide +kernel
theorem dX3_heldAgainst_36 : decode cX3_heldAgainst 36 = .ok (.ifCond .eq 6, 3) := by decide +kernel
theorem dX3_heldAgainst_39 : decode cX3_heldAgainst 39 = .ok (.goto 108, 3) := by decide +kernel
theorem dX3_heldAgainst_42 : decode cX3_heldAgainst 42 = .ok (.iconst 0, 1) := by decide +kernel
theorem dX3_heldAgainst_43 : decode cX3_heldAgainst 43 = .ok (.istore 8, 2) := by decide +kernel
theorem dX3_heldAgainst_45 : decode cX3_heldAgainst 45 = .ok (.iconst 0, 1) := by decide +kernel
theorem dX3_heldAgainst_46 : decode cX3_heldAgainst 46 = .ok (.istore 9, 2) := by decide +kernel
theorem dX3_heldAgainst_48 : decode cX3_heldAgainst 48 = .ok (.lload 6, 2) := by decide +kernel
theorem dX3_heldAgainst_50 : decode cX3_heldAgainst 50 = .ok (.invokestatic 38, 3) := by decide +kernel
theorem dX3_heldAgainst_53 : decode cX3_heldAgainst 53 = .ok (.istore 10, 2) := by decide +kernel
theorem dX3_heldAgainst_55 : decode cX3_heldAgainst 55 = .ok (.iload 10, 2) := by decide +kernel
theorem dX3_heldAgainst_57 : decode cX3_heldAgainst 57 = .ok (.lload 6, 2) := by decide +kernel
theorem dX3_heldAgainst_59 : decode cX3_heldAgainst 59 = .ok (.invokestatic 42, 3) := by decide +kernel
theorem dX3_heldAgainst_62 : decode cX3_heldAgainst 62 = .ok (.if_icmp .gt 78, 3) := by decide +kernel
theorem dX3_heldAgainst_65 : decode cX3_heldAgainst 65 = .ok (.lload 6, 2) := by decide +kernel
theorem dX3_heldAgainst_67 : decode cX3_heldAgainst 67 = .ok (.iload 10, 2) := by decide +kernel
theorem dX3_heldAgainst_69 : decode cX3_heldAgainst 69 = .ok (.invokestatic 45, 3) := by decide +kernel
theorem dX3_heldAgainst_72 : decode cX3_heldAgainst 72 = .ok (.istore 11, 2) := by decide +kernel
theorem dX3_heldAgainst_74 : decode cX3_heldAgainst 74 = .ok (.aload_n 0, 1) := by decide +kernel
theorem dX3_heldAgainst_75 : decode cX3_heldAgainst 75 = .ok (.getfield 22, 3) := by decide +kernel
theorem dX3_heldAgainst_78 : decode cX3_heldAgainst 78 = .ok (.iload_n 1, 1) := by decide +kernel
theorem dX3_heldAgainst_79 : decode cX3_heldAgainst 79 = .ok (.iload 11, 2) := by decide +kernel
theorem dX3_heldAgainst_81 : decode cX3_heldAgainst 81 = .ok (.iload 10, 2) := by decide +kernel
theorem dX3_heldAgainst_83 : decode cX3_heldAgainst 83 = .ok (.invokevirtual 98, 3) := by decide +kernel
theorem dX3_heldAgainst_86 : decode cX3_heldAgainst 86 = .ok (.iload 8, 2) := by decide +kernel
theorem dX3_heldAgainst_88 : decode cX3_heldAgainst 88 = .ok (.iconst (-1), 1) := by decide +kernel
theorem dX3_heldAgainst_89 : decode cX3_heldAgainst 89 = .ok (.ixor, 1) := by decide +kernel
theorem dX3_heldAgainst_90 : decode cX3_heldAgainst 90 = .ok (.iand, 1) := by decide +kernel
theorem dX3_heldAgainst_91 : decode cX3_heldAgainst 91 = .ok (.istore 12, 2) := by decide +kernel
theorem dX3_heldAgainst_93 : decode cX3_heldAgainst 93 = .ok (.iload 8, 2) := by decide +kernel
theorem dX3_heldAgainst_95 : decode cX3_heldAgainst 95 = .ok (.iload 12, 2) := by decide +kernel
theorem dX3_heldAgainst_97 : decode cX3_heldAgainst 97 = .ok (.ior, 1) := by decide +kernel
theorem dX3_heldAgainst_98 : decode cX3_heldAgainst 98 = .ok (.istore 8, 2) := by decide +kernel
theorem dX3_heldAgainst_100 : decode cX3_heldAgainst 100 = .ok (.iload_n 3, 1) := by decide +kernel
theorem dX3_heldAgainst_101 : decode cX3_heldAgainst 101 = .ok (.aload_n 0, 1) := by decide +kernel
theorem dX3_heldAgainst_102 : decode cX3_heldAgainst 102 = .ok (.getfield 22, 3) := by decide +kernel
theorem dX3_heldAgainst_105 : decode cX3_heldAgainst 105 = .ok (.iload_n 2, 1) := by decide +kernel
theorem dX3_heldAgainst_106 : decode cX3_heldAgainst 106 = .ok (.iload 10, 2) := by decide +kernel
theorem dX3_heldAgainst_108 : decode cX3_heldAgainst 108 = .ok (.invokevirtual 60, 3) := by decide +kernel
theorem dX3_heldAgainst_111 : decode cX3_heldAgainst 111 = .ok (.invokestatic 102, 3) := by decide +kernel
theorem dX3_heldAgainst_114 : decode cX3_heldAgainst 114 = .ok (.aload_n 0, 1) := by decide +kernel
theorem dX3_heldAgainst_115 : decode cX3_heldAgainst 115 = .ok (.getfield 9, 3) := by decide +kernel
theorem dX3_heldAgainst_118 : decode cX3_heldAgainst 118 = .ok (.iload 11, 2) := by decide +kernel
theorem dX3_heldAgainst_120 : decode cX3_heldAgainst 120 = .ok (.iaload, 1) := by decide +kernel
theorem dX3_heldAgainst_121 : decode cX3_heldAgainst 121 = .ok (.iconst (-1), 1) := by decide +kernel
theorem dX3_heldAgainst_122 : decode cX3_heldAgainst 122 = .ok (.ixor, 1) := by decide +kernel
theorem dX3_heldAgainst_123 : decode cX3_heldAgainst 123 = .ok (.iand, 1) := by decide +kernel
theorem dX3_heldAgainst_124 : decode cX3_heldAgainst 124 = .ok (.ifCond .ne 10, 3) := by decide +kernel
theorem dX3_heldAgainst_127 : decode cX3_heldAgainst 127 = .ok (.iload 9, 2) := by decide +kernel
theorem dX3_heldAgainst_129 : decode cX3_heldAgainst 129 = .ok (.iload 12, 2) := by decide +kernel
theorem dX3_heldAgainst_131 : decode cX3_heldAgainst 131 = .ok (.ior, 1) := by decide +kernel
theorem dX3_heldAgainst_132 : decode cX3_heldAgainst 132 = .ok (.istore 9, 2) := by decide +kernel
theorem dX3_heldAgainst_134 : decode cX3_heldAgainst 134 = .ok (.iinc 10 1, 3) := by decide +kernel
theorem dX3_heldAgainst_137 : decode cX3_heldAgainst 137 = .ok (.goto (-82), 3) := by decide +kernel
theorem dX3_heldAgainst_140 : decode cX3_heldAgainst 140 = .ok (.iload 4, 2) := by decide +kernel
theorem dX3_heldAgainst_142 : decode cX3_heldAgainst 142 = .ok (.iload 9, 2) := by decide +kernel
theorem dX3_heldAgainst_144 : decode cX3_heldAgainst 144 = .ok (.iand, 1) := by decide +kernel
theorem dX3_heldAgainst_145 : decode cX3_heldAgainst 145 = .ok (.istore 4, 2) := by decide +kernel
theorem dX3_heldAgainst_147 : decode cX3_heldAgainst 147 = .ok (.iinc 5 1, 3) := by decide +kernel
theorem dX3_heldAgainst_150 : decode cX3_heldAgainst 150 = .ok (.goto (-143), 3) := by decide +kernel
theorem dX3_heldAgainst_153 : decode cX3_heldAgainst 153 = .ok (.iload 4, 2) := by decide +kernel
theorem dX3_heldAgainst_155 : decode cX3_heldAgainst 155 = .ok (.ireturn, 1) := by decide +kernel
set_option maxRecDepth 20000 in
theorem ggX3_forcedFrom_X0_knownPath : GoodIn wsX3_forcedFrom wsX0_knownPath := goodIn_r _ [8, 9, 61, 62, 63, 64, 65] (by decide +kernel) (by decide +kernel)
set_option maxRecDepth 20000 in
theorem gX3_forcedFrom_X0_knownPath : GoodIn wsX3_forcedFrom (wsV RX3 63 RX0 yX0_knownPath wsX0_knownPath) := goodIn_app (goodIn_of _ (by decide +kernel)) ggX3_forcedFrom_X0_knownPath
set_option maxRecDepth 20000 in
theorem ggX3_forcedFrom_X0_isNet : GoodIn wsX3_forcedFrom wsX0_isNet := goodIn_r _ [12, 13, 14, 7, 15, 16] (by decide +kernel) (by decide +kernel)
set_option maxRecDepth 20000 in
theorem gX3_forcedFrom_X0_isNet : GoodIn wsX3_forcedFrom (va_wsS RX3 26 yX0_isNet wsX0_isNet) := goodIn_app (goodIn_of _ (by decide +kernel)) ggX3_forcedFrom_X0_isNet
set_option maxRecDepth 20000 in
theorem ggX3_forcedFrom_X0_firstMetOf : GoodIn wsX3_forcedFrom wsX0_firstMetOf := goodIn_r _ [15, 16] (by decide +kernel) (by decide +kernel)
set_option maxRecDepth 20000 in
theorem gX3_forcedFrom_X0_firstMetOf : GoodIn wsX3_forcedFrom (va_wsS RX3 38 yX0_firstMetOf wsX0_firstMetOf) := goodIn_app (goodIn_of _ (by decide +kernel)) ggX3_forcedFrom_X0_firstMetOf
set_option maxRecDepth 20000 in
theorem ggX3_forcedFrom_X0_landingOf : GoodIn wsX3_forcedFrom wsX0_landingOf := goodIn_r _ [20, 16] (by decide +kernel) (by decide +kernel)
set_option maxRecDepth 20000 in
theorem gX3_forcedFrom_X0_landingOf : GoodIn wsX3_forcedFrom (va_wsS RX3 42 yX0_landingOf wsX0_landingOf) := goodIn_app (goodIn_of _ (by decide +kernel)) ggX3_forcedFrom_X0_landingOf
set_option maxRecDepth 20000 in
theorem ggX3_forcedFrom_X0_cellAt : GoodIn wsX3_forcedFrom wsX0_cellAt := goodIn_r _ [23, 24, 25, 19, 7, 20, 16] (by decide +kernel) (by decide +kernel)
set_option maxRecDepth 20000 in
theorem gX3_forcedFrom_X0_cellAt : GoodIn wsX3_forcedFrom (va_wsS RX3 45 yX0_cellAt wsX0_cellAt) := goodIn_app (goodIn_of _ (by decide +kernel)) ggX3_forcedFrom_X0_cellAt
set_option maxRecDepth 20000 in
theorem ggX3_forcedFrom_X6_meetingCells : GoodIn wsX3_forcedFrom wsX6_meetingCells := goodIn_r _ [30, 31, 32, 33, 34, 29, 35, 36, 37, 38, 39, 40, 41, 42, 43, 44, 45, 46, 47, 48, 49, 50, 51, 52, 53, 54, 66, 67, 68, 69] (by decide +kernel) (by decide +kernel)
set_option maxRecDepth 20000 in
theorem gX3_forcedFrom_X6_meetingCells : GoodIn wsX3_forcedFrom (wsV RX3 98 RX6 yX6_meetingCells wsX6_meetingCells) := goodIn_app (goodIn_of _ (by decide +kernel)) ggX3_forcedFrom_X6_meetingCells
set_option maxRecDepth 20000 in
theorem ggX3_forcedFrom_X6_comes : GoodIn wsX3_forcedFrom wsX6_comes := goodIn_r _ [35, 36, 66, 67, 68, 69] (by decide +kernel) (by decide +kernel)
set_option maxRecDepth 20000 in
theorem gX3_forcedFrom_X6_comes : GoodIn wsX3_forcedFrom (wsV RX3 60 RX6 yX6_comes wsX6_comes) := goodIn_app (goodIn_of _ (by decide +kernel)) ggX3_forcedFrom_X6_comes
set_option maxRecDepth 20000 in
theorem ggX3_forcedFrom_X2_near : GoodIn wsX3_forcedFrom wsX2_near := goodIn_r _ [40, 41, 42, 43, 44, 45, 46, 47, 48, 49, 50, 39, 51, 52, 53, 54] (by decide +kernel) (by decide +kernel)
set_option maxRecDepth 20000 in
theorem gX3_forcedFrom_X2_near : GoodIn wsX3_forcedFrom (va_wsS RX3 102 yX2_near wsX2_near) := goodIn_app (goodIn_of _ (by decide +kernel)) ggX3_forcedFrom_X2_near
theorem dX3_forcedFrom_0 : decode cX3_forcedFrom 0 = .ok (.iconst 0, 1) := by decide +kernel
theorem dX3_forcedFrom_1 : decode cX3_forcedFrom 1 = .ok (.istore 4, 2) := by decide +kernel
theorem dX3_forcedFrom_3 : decode cX3_forcedFrom 3 = .ok (.iconst 0, 1) := by decide +kernel
theorem dX3_forcedFrom_4 : decode cX3_forcedFrom 4 = .ok (.istore 5, 2) := by decide +kernel
theorem dX3_forcedFrom_6 : decode cX3_forcedFrom 6 = .ok (.iload 5, 2) := by decide +kernel
theorem dX3_forcedFrom_8 : decode cX3_forcedFrom 8 = .ok (.bipush 64, 2) := by decide +kernel
theorem dX3_forcedFrom_10 : decode cX3_forcedFrom 10 = .ok (.if_icmp .ge 125, 3) := by decide +kernel
theorem dX3_forcedFrom_13 : decode cX3_forcedFrom 13 = .ok (.aload_n 0, 1) := by decide +kernel
theorem dX3_forcedFrom_14 : decode cX3_forcedFrom 14 = .ok (.getfield 18, 3) := by decide +kernel
theorem dX3_forcedFrom_17 : decode cX3_forcedFrom 17 = .ok (.iload_n 3, 1) := by decide +kernel
theorem dX3_forcedFrom_18 : decode cX3_forcedFrom 18 = .ok (.iload 5, 2) := by decide +kernel
theorem dX3_forcedFrom_20 : decode cX3_forcedFrom 20 = .ok (.invokevirtual 63, 3) := by decide +kernel
theorem dX3_forcedFrom_23 : decode cX3_forcedFrom 23 = .ok (.lstore 6, 2) := by decide +kernel
theorem dX3_forcedFrom_25 : decode cX3_forcedFrom 25 = .ok (.lload 6, 2) := by decide +kernel
theorem dX3_forcedFrom_27 : decode cX3_forcedFrom 27 = .ok (.invokestatic 26, 3) := by decide +kernel
theorem dX3_forcedFrom_30 : decode cX3_forcedFrom 30 = .ok (.ifCond .eq 6, 3) := by decide +kernel
theorem dX3_forcedFrom_33 : decode cX3_forcedFrom 33 = .ok (.goto 96, 3) := by decide +kernel
theorem dX3_forcedFrom_36 : decode cX3_forcedFrom 36 = .ok (.iconst 0, 1) := by decide +kernel
theorem dX3_forcedFrom_37 : decode cX3_forcedFrom 37 = .ok (.istore 8, 2) := by decide +kernel
theorem dX3_forcedFrom_39 : decode cX3_forcedFrom 39 = .ok (.lload 6, 2) := by decide +kernel
theorem dX3_forcedFrom_41 : decode cX3_forcedFrom 41 = .ok (.invokestatic 38, 3) := by decide +kernel
theorem dX3_forcedFrom_44 : decode cX3_forcedFrom 44 = .ok (.istore 9, 2) := by decide +kernel
theorem dX3_forcedFrom_46 : decode cX3_forcedFrom 46 = .ok (.iload 9, 2) := by decide +kernel
theorem dX3_forcedFrom_48 : decode cX3_forcedFrom 48 = .ok (.lload 6, 2) := by decide +kernel
theorem dX3_forcedFrom_50 : decode cX3_forcedFrom 50 = .ok (.invokestatic 42, 3) := by decide +kernel
theorem dX3_forcedFrom_53 : decode cX3_forcedFrom 53 = .ok (.if_icmp .gt 76, 3) := by decide +kernel
theorem dX3_forcedFrom_56 : decode cX3_forcedFrom 56 = .ok (.lload 6, 2) := by decide +kernel
theorem dX3_forcedFrom_58 : decode cX3_forcedFrom 58 = .ok (.iload 9, 2) := by decide +kernel
theorem dX3_forcedFrom_60 : decode cX3_forcedFrom 60 = .ok (.invokestatic 45, 3) := by decide +kernel
theorem dX3_forcedFrom_63 : decode cX3_forcedFrom 63 = .ok (.istore 10, 2) := by decide +kernel
theorem dX3_forcedFrom_65 : decode cX3_forcedFrom 65 = .ok (.aload_n 0, 1) := by decide +kernel
theorem dX3_forcedFrom_66 : decode cX3_forcedFrom 66 = .ok (.getfield 22, 3) := by decide +kernel
theorem dX3_forcedFrom_69 : decode cX3_forcedFrom 69 = .ok (.iload_n 2, 1) := by decide +kernel
theorem dX3_forcedFrom_70 : decode cX3_forcedFrom 70 = .ok (.iload 10, 2) := by decide +kernel
theorem dX3_forcedFrom_72 : decode cX3_forcedFrom 72 = .ok (.iload 9, 2) := by decide +kernel
theorem dX3_forcedFrom_74 : decode cX3_forcedFrom 74 = .ok (.invokevirtual 98, 3) := by decide +kernel
theorem dX3_forcedFrom_77 : decode cX3_forcedFrom 77 = .ok (.iload 8, 2) := by decide +kernel
theorem dX3_forcedFrom_79 : decode cX3_forcedFrom 79 = .ok (.iconst (-1), 1) := by decide +kernel
theorem dX3_forcedFrom_80 : decode cX3_forcedFrom 80 = .ok (.ixor, 1) := by decide +kernel
theorem dX3_forcedFrom_81 : decode cX3_forcedFrom 81 = .ok (.iand, 1) := by decide +kernel
theorem dX3_forcedFrom_82 : decode cX3_forcedFrom 82 = .ok (.istore 11, 2) := by decide +kernel
theorem dX3_forcedFrom_84 : decode cX3_forcedFrom 84 = .ok (.iload 8, 2) := by decide +kernel
theorem dX3_forcedFrom_86 : decode cX3_forcedFrom 86 = .ok (.iload 11, 2) := by decide +kernel
theorem dX3_forcedFrom_88 : decode cX3_forcedFrom 88 = .ok (.ior, 1) := by decide +kernel
theorem dX3_forcedFrom_89 : decode cX3_forcedFrom 89 = .ok (.istore 8, 2) := by decide +kernel
theorem dX3_forcedFrom_91 : decode cX3_forcedFrom 91 = .ok (.iload_n 3, 1) := by decide +kernel
theorem dX3_forcedFrom_92 : decode cX3_forcedFrom 92 = .ok (.aload_n 0, 1) := by decide +kernel
theorem dX3_forcedFrom_93 : decode cX3_forcedFrom 93 = .ok (.getfield 22, 3) := by decide +kernel
theorem dX3_forcedFrom_96 : decode cX3_forcedFrom 96 = .ok (.iload_n 1, 1) := by decide +kernel
theorem dX3_forcedFrom_97 : decode cX3_forcedFrom 97 = .ok (.iload 9, 2) := by decide +kernel
theorem dX3_forcedFrom_99 : decode cX3_forcedFrom 99 = .ok (.invokevirtual 60, 3) := by decide +kernel
theorem dX3_forcedFrom_102 : decode cX3_forcedFrom 102 = .ok (.invokestatic 102, 3) := by decide +kernel
theorem dX3_forcedFrom_105 : decode cX3_forcedFrom 105 = .ok (.aload_n 0, 1) := by decide +kernel
theorem dX3_forcedFrom_106 : decode cX3_forcedFrom 106 = .ok (.getfield 15, 3) := by decide +kernel
theorem dX3_forcedFrom_109 : decode cX3_forcedFrom 109 = .ok (.iload 10, 2) := by decide +kernel
theorem dX3_forcedFrom_111 : decode cX3_forcedFrom 111 = .ok (.iaload, 1) := by decide +kernel
theorem dX3_forcedFrom_112 : decode cX3_forcedFrom 112 = .ok (.iand, 1) := by decide +kernel
theorem dX3_forcedFrom_113 : decode cX3_forcedFrom 113 = .ok (.ifCond .eq 10, 3) := by decide +kernel
theorem dX3_forcedFrom_116 : decode cX3_forcedFrom 116 = .ok (.iload 4, 2) := by decide +kernel
theorem dX3_forcedFrom_118 : decode cX3_forcedFrom 118 = .ok (.iload 11, 2) := by decide +kernel
theorem dX3_forcedFrom_120 : decode cX3_forcedFrom 120 = .ok (.ior, 1) := by decide +kernel
theorem dX3_forcedFrom_121 : decode cX3_forcedFrom 121 = .ok (.istore 4, 2) := by decide +kernel
theorem dX3_forcedFrom_123 : decode cX3_forcedFrom 123 = .ok (.iinc 9 1, 3) := by decide +kernel
theorem dX3_forcedFrom_126 : decode cX3_forcedFrom 126 = .ok (.goto (-80), 3) := by decide +kernel
theorem dX3_forcedFrom_129 : decode cX3_forcedFrom 129 = .ok (.iinc 5 1, 3) := by decide +kernel
theorem dX3_forcedFrom_132 : decode cX3_forcedFrom 132 = .ok (.goto (-126), 3) := by decide +kernel
theorem dX3_forcedFrom_135 : decode cX3_forcedFrom 135 = .ok (.iload 4, 2) := by decide +kernel
theorem dX3_forcedFrom_137 : decode cX3_forcedFrom 137 = .ok (.ireturn, 1) := by decide +kernel
theorem dX4_init_0 : decode cX4_init 0 = .ok (.aload_n 0, 1) := by decide +kernel
theorem dX4_init_1 : decode cX4_init 1 = .ok (.invokespecial 3, 3) := by decide +kernel
theorem dX4_init_4 : decode cX4_init 4 = .ok (.aload_n 0, 1) := by decide +kernel
theorem dX4_init_5 : decode cX4_init 5 = .ok (.bipush 8, 2) := by decide +kernel
theorem dX4_init_7 : decode cX4_init 7 = .ok (.newarray .boolean, 2) := by decide +kernel
theorem dX4_init_9 : decode cX4_init 9 = .ok (.putfield 9, 3) := by decide +kernel
theorem dX4_init_12 : decode cX4_init 12 = .ok (.aload_n 0, 1) := by decide +kernel
theorem dX4_init_13 : decode cX4_init 13 = .ok (.bipush 8, 2) := by decide +kernel
theorem dX4_init_15 : decode cX4_init 15 = .ok (.newarray .int, 2) := by decide +kernel
theorem dX4_init_17 : decode cX4_init 17 = .ok (.putfield 15, 3) := by decide +kernel
theorem dX4_init_20 : decode cX4_init 20 = .ok (.aload_n 0, 1) := by decide +kernel
theorem dX4_init_21 : decode cX4_init 21 = .ok (.bipush 8, 2) := by decide +kernel
theorem dX4_init_23 : decode cX4_init 23 = .ok (.newarray .int, 2) := by decide +kernel
theorem dX4_init_25 : decode cX4_init 25 = .ok (.putfield 19, 3) := by decide +kernel
theorem dX4_init_28 : decode cX4_init 28 = .ok (.aload_n 0, 1) := by decide +kernel
theorem dX4_init_29 : decode cX4_init 29 = .ok (.bipush 64, 2) := by decide +kernel
theorem dX4_init_31 : decode cX4_init 31 = .ok (.newarray .int, 2) := by decide +kernel
theorem dX4_init_33 : decode cX4_init 33 = .ok (.putfield 22, 3) := by decide +kernel
theorem dX4_init_36 : decode cX4_init 36 = .ok (.aload_n 0, 1) := by decide +kernel
theorem dX4_init_37 : decode cX4_init 37 = .ok (.bipush 8, 2) := by decide +kernel
theorem dX4_init_39 : decode cX4_init 39 = .ok (.newarray .int, 2) := by decide +kernel
theorem dX4_init_41 : decode cX4_init 41 = .ok (.putfield 25, 3) := by decide +kernel
theorem dX4_init_44 : decode cX4_init 44 = .ok (.aload_n 0, 1) := by decide +kernel
theorem dX4_init_45 : decode cX4_init 45 = .ok (.bipush 8, 2) := by decide +kernel
theorem dX4_init_47 : decode cX4_init 47 = .ok (.newarray .int, 2) := by decide +kernel
theorem dX4_init_49 : decode cX4_init 49 = .ok (.putfield 28, 3) := by decide +kernel
theorem dX4_init_52 : decode cX4_init 52 = .ok (.aload_n 0, 1) := by decide +kernel
theorem dX4_init_53 : decode cX4_init 53 = .ok (.iconst 2, 1) := by decide +kernel
theorem dX4_init_54 : decode cX4_init 54 = .ok (.putfield 31, 3) := by decide +kernel
theorem dX4_init_57 : decode cX4_init 57 = .ok (.aload_n 0, 1) := by decide +kernel
theorem dX4_init_58 : decode cX4_init 58 = .ok (.iconst 0, 1) := by decide +kernel
theorem dX4_init_59 : decode cX4_init 59 = .ok (.putfield 35, 3) := by decide +kernel
theorem dX4_init_62 : decode cX4_init 62 = .ok (.aload_n 0, 1) := by decide +kernel
theorem dX4_init_63 : decode cX4_init 63 = .ok (.iconst 0, 1) := by decide +kernel
theorem dX4_init_64 : decode cX4_init 64 = .ok (.putfield 38, 3) := by decide +kernel
theorem dX4_init_67 : decode cX4_init 67 = .ok (.aload_n 0, 1) := by decide +kernel
theorem dX4_init_68 : decode cX4_init 68 = .ok (.iconst 0, 1) := by decide +kernel
theorem dX4_init_69 : decode cX4_init 69 = .ok (.putfield 41, 3) := by decide +kernel
theorem dX4_init_72 : decode cX4_init 72 = .ok (.aload_n 0, 1) := by decide +kernel
theorem dX4_init_73 : decode cX4_init 73 = .ok (.iconst 0, 1) := by decide +kernel
theorem dX4_init_74 : decode cX4_init 74 = .ok (.putfield 45, 3) := by decide +kernel
theorem dX4_init_77 : decode cX4_init 77 = .ok (.aload_n 0, 1) := by decide +kernel
theorem dX4_init_78 : decode cX4_init 78 = .ok (.iconst 0, 1) := by decide +kernel
theorem dX4_init_79 : decode cX4_init 79 = .ok (.putfield 48, 3) := by decide +kernel
theorem dX4_init_82 : decode cX4_init 82 = .ok (.aload_n 0, 1) := by decide +kernel
theorem dX4_init_83 : decode cX4_init 83 = .ok (.iconst 0, 1) := by decide +kernel
theorem dX4_init_84 : decode cX4_init 84 = .ok (.putfield 51, 3) := by decide +kernel
theorem dX4_init_87 : decode cX4_init 87 = .ok (.aload_n 0, 1) := by decide +kernel
theorem dX4_init_88 : decode cX4_init 88 = .ok (.iconst 0, 1) := by decide +kernel
theorem dX4_init_89 : decode cX4_init 89 = .ok (.putfield 54, 3) := by decide +kernel
theorem dX4_init_92 : decode cX4_init 92 = .ok (.return_, 1) := by decide +kernel
theorem dX4_setCourts_0 : decode cX4_setCourts 0 = .ok (.aload_n 0, 1) := by decide +kernel
theorem dX4_setCourts_1 : decode cX4_setCourts 1 = .ok (.getfield 31, 3) := by decide +kernel
theorem dX4_setCourts_4 : decode cX4_setCourts 4 = .ok (.istore_n 2, 1) := by decide +kernel
theorem dX4_setCourts_5 : decode cX4_setCourts 5 = .ok (.aload_n 0, 1) := by decide +kernel
theorem dX4_setCourts_6 : decode cX4_setCourts 6 = .ok (.iload_n 1, 1) := by decide +kernel
theorem dX4_setCourts_7 : decode cX4_setCourts 7 = .ok (.putfield 31, 3) := by decide +kernel
theorem dX4_setCourts_10 : decode cX4_setCourts 10 = .ok (.aload_n 0, 1) := by decide +kernel
theorem dX4_setCourts_11 : decode cX4_setCourts 11 = .ok (.iconst 0, 1) := by decide +kernel
theorem dX4_setCourts_12 : decode cX4_setCourts 12 = .ok (.putfield 41, 3) := by decide +kernel
theorem dX4_setCourts_15 : decode cX4_setCourts 15 = .ok (.iload_n 2, 1) := by decide +kernel
theorem dX4_setCourts_16 : decode cX4_setCourts 16 = .ok (.ireturn, 1) := by decide +kernel
theorem dX4_isThere_0 : decode cX4_isThere 0 = .ok (.aload_n 0, 1) := by decide +kernel
theorem dX4_isThere_1 : decode cX4_isThere 1 = .ok (.getfield 9, 3) := by decide +kernel
theorem dX4_isThere_4 : decode cX4_isThere 4 = .ok (.iload_n 1, 1) := by decide +kernel
theorem dX4_isThere_5 : decode cX4_isThere 5 = .ok (.baload, 1) := by decide +kernel
theorem dX4_isThere_6 : decode cX4_isThere 6 = .ok (.ireturn, 1) := by decide +kernel
theorem dX4_enter_0 : decode cX4_enter 0 = .ok (.aload_n 0, 1) := by decide +kernel
theorem dX4_enter_1 : decode cX4_enter 1 = .ok (.getfield 9, 3) := by decide +kernel
theorem dX4_enter_4 : decode cX4_enter 4 = .ok (.iload_n 1, 1) := by decide +kernel
theorem dX4_enter_5 : decode cX4_enter 5 = .ok (.iconst 1, 1) := by decide +kernel
theorem dX4_enter_6 : decode cX4_enter 6 = .ok (.bastore, 1) := by decide +kernel
theorem dX4_enter_7 : decode cX4_enter 7 = .ok (.aload_n 0, 1) := by decide +kernel
theorem dX4_enter_8 : decode cX4_enter 8 = .ok (.getfield 15, 3) := by decide +kernel
theorem dX4_enter_11 : decode cX4_enter 11 = .ok (.iload_n 1, 1) := by decide +kernel
theorem dX4_enter_12 : decode cX4_enter 12 = .ok (.iload_n 2, 1) := by decide +kernel
theorem dX4_enter_13 : decode cX4_enter 13 = .ok (.iastore, 1) := by decide +kernel
theorem dX4_enter_14 : decode cX4_enter 14 = .ok (.aload_n 0, 1) := by decide +kernel
theorem dX4_enter_15 : decode cX4_enter 15 = .ok (.getfield 19, 3) := by decide +kernel
theorem dX4_enter_18 : decode cX4_enter 18 = .ok (.iload_n 1, 1) := by decide +kernel
theorem dX4_enter_19 : decode cX4_enter 19 = .ok (.iconst 0, 1) := by decide +kernel
theorem dX4_enter_20 : decode cX4_enter 20 = .ok (.iastore, 1) := by decide +kernel
theorem dX4_enter_21 : decode cX4_enter 21 = .ok (.aload_n 0, 1) := by decide +kernel
theorem dX4_enter_22 : decode cX4_enter 22 = .ok (.dup, 1) := by decide +kernel
theorem dX4_enter_23 : decode cX4_enter 23 = .ok (.getfield 35, 3) := by decide +kernel
theorem dX4_enter_26 : decode cX4_enter 26 = .ok (.iconst 1, 1) := by decide +kernel
theorem dX4_enter_27 : decode cX4_enter 27 = .ok (.iadd, 1) := by decide +kernel
theorem dX4_enter_28 : decode cX4_enter 28 = .ok (.putfield 35, 3) := by decide +kernel
theorem dX4_enter_31 : decode cX4_enter 31 = .ok (.aload_n 0, 1) := by decide +kernel
theorem dX4_enter_32 : decode cX4_enter 32 = .ok (.iconst 0, 1) := by decide +kernel
theorem dX4_enter_33 : decode cX4_enter 33 = .ok (.putfield 41, 3) := by decide +kernel
theorem dX4_enter_36 : decode cX4_enter 36 = .ok (.aload_n 0, 1) := by decide +kernel
theorem dX4_enter_37 : decode cX4_enter 37 = .ok (.getfield 35, 3) := by decide +kernel
theorem dX4_enter_40 : decode cX4_enter 40 = .ok (.ireturn, 1) := by decide +kernel
theorem dX4_exit_0 : decode cX4_exit 0 = .ok (.aload_n 0, 1) := by decide +kernel
theorem dX4_exit_1 : decode cX4_exit 1 = .ok (.getfield 9, 3) := by decide +kernel
theorem dX4_exit_4 : decode cX4_exit 4 = .ok (.iload_n 1, 1) := by decide +kernel
theorem dX4_exit_5 : decode cX4_exit 5 = .ok (.iconst 0, 1) := by decide +kernel
theorem dX4_exit_6 : decode cX4_exit 6 = .ok (.bastore, 1) := by decide +kernel
theorem dX4_exit_7 : decode cX4_exit 7 = .ok (.aload_n 0, 1) := by decide +kernel
theorem dX4_exit_8 : decode cX4_exit 8 = .ok (.dup, 1) := by decide +kernel
theorem dX4_exit_9 : decode cX4_exit 9 = .ok (.getfield 35, 3) := by decide +kernel
theorem dX4_exit_12 : decode cX4_exit 12 = .ok (.iconst 1, 1) := by decide +kernel
theorem dX4_exit_13 : decode cX4_exit 13 = .ok (.isub, 1) := by decide +kernel
theorem dX4_exit_14 : decode cX4_exit 14 = .ok (.putfield 35, 3) := by decide +kernel
theorem dX4_exit_17 : decode cX4_exit 17 = .ok (.aload_n 0, 1) := by decide +kernel
theorem dX4_exit_18 : decode cX4_exit 18 = .ok (.iconst 0, 1) := by decide +kernel
theorem dX4_exit_19 : decode cX4_exit 19 = .ok (.putfield 41, 3) := by decide +kernel
theorem dX4_exit_22 : decode cX4_exit 22 = .ok (.aload_n 0, 1) := by decide +kernel
theorem dX4_exit_23 : decode cX4_exit 23 = .ok (.getfield 35, 3) := by decide +kernel
theorem dX4_exit_26 : decode cX4_exit 26 = .ok (.ireturn, 1) := by decide +kernel
set_option maxRecDepth 20000 in
theorem ggX4_mateOf_X4_seek : GoodIn wsX4_mateOf wsX4_seek := goodIn_r _ [6, 7, 8, 9, 10, 11, 12, 13, 14, 15, 16, 5, 17, 18, 19, 20, 21, 22, 23, 24, 25, 26, 27, 28, 29, 30, 31, 32, 33, 34, 35, 36, 37, 38, 39, 40, 1, 41, 42, 43, 44, 45, 46, 47, 48, 49, 50, 51, 52, 53, 54, 55, 56, 57, 58, 59, 60, 61, 62, 63, 64, 65, 66, 67] (by decide +kernel) (by decide +kernel)
set_option maxRecDepth 20000 in
theorem gX4_mateOf_X4_seek : GoodIn wsX4_mateOf (wsV RX4 57 RX4 yX4_seek wsX4_seek) := goodIn_app (goodIn_of _ (by decide +kernel)) ggX4_mateOf_X4_seek
theorem dX4_mateOf_0 : decode cX4_mateOf 0 = .ok (.aload_n 0, 1) := by decide +kernel
theorem dX4_mateOf_1 : decode cX4_mateOf 1 = .ok (.invokevirtual 57, 3) := by decide +kernel
theorem dX4_mateOf_4 : decode cX4_mateOf 4 = .ok (.aload_n 0, 1) := by decide +kernel
theorem dX4_mateOf_5 : decode cX4_mateOf 5 = .ok (.getfield 28, 3) := by decide +kernel
theorem dX4_mateOf_8 : decode cX4_mateOf 8 = .ok (.iload_n 1, 1) := by decide +kernel
theorem dX4_mateOf_9 : decode cX4_mateOf 9 = .ok (.iaload, 1) := by decide +kernel
theorem dX4_mateOf_10 : decode cX4_mateOf 10 = .ok (.ireturn, 1) := by decide +kernel
set_option maxRecDepth 20000 in
theorem ggX4_readRound_X4_seek : GoodIn wsX4_readRound wsX4_seek := goodIn_r _ [8, 9, 10, 11, 12, 13, 14, 15, 16, 17, 18, 7, 19, 20, 21, 22, 23, 24, 25, 26, 27, 28, 29, 30, 31, 32, 33, 34, 35, 36, 37, 38, 39, 1, 2, 3, 40, 41, 42, 43, 44, 45, 46, 47, 48, 49, 50, 51, 52, 53, 54, 55, 56, 57, 58, 59, 60, 61, 62, 63, 64, 65, 66, 67] (by decide +kernel) (by decide +kernel)
set_option maxRecDepth 20000 in
theorem gX4_readRound_X4_seek : GoodIn wsX4_readRound (wsV RX4 57 RX4 yX4_seek wsX4_seek) := goodIn_app (goodIn_of _ (by decide +kernel)) ggX4_readRound_X4_seek
set_option maxRecDepth 20000 in
theorem ggX4_readRound_X4_gamesAtOnce : GoodIn wsX4_readRound wsX4_gamesAtOnce := goodIn_r _ [19, 20, 21, 22, 23, 24, 25, 54, 55, 56, 57, 58, 59, 60, 61, 62, 63, 64, 65, 66, 67] (by decide +kernel) (by decide +kernel)
set_option maxRecDepth 20000 in
theorem gX4_readRound_X4_gamesAtOnce : GoodIn wsX4_readRound (wsV RX4 60 RX4 yX4_gamesAtOnce wsX4_gamesAtOnce) := goodIn_app (goodIn_of _ (by decide +kernel)) ggX4_readRound_X4_gamesAtOnce
theorem dX4_readRound_0 : decode cX4_readRound 0 = .ok (.aload_n 0, 1) := by decide +kernel
theorem dX4_readRound_1 : decode cX4_readRound 1 = .ok (.invokevirtual 57, 3) := by decide +kernel
theorem dX4_readRound_4 : decode cX4_readRound 4 = .ok (.iload_n 1, 1) := by decide +kernel
theorem dX4_readRound_5 : decode cX4_readRound 5 = .ok (.tableswitch 42 0 2 #[27, 32, 37], 27) := by decide +kernel
theorem dX4_readRound_32 : decode cX4_readRound 32 = .ok (.aload_n 0, 1) := by decide +kernel
theorem dX4_readRound_33 : decode cX4_readRound 33 = .ok (.invokevirtual 60, 3) := by decide +kernel
theorem dX4_readRound_36 : decode cX4_readRound 36 = .ok (.ireturn, 1) := by decide +kernel
theorem dX4_readRound_37 : decode cX4_readRound 37 = .ok (.aload_n 0, 1) := by decide +kernel
theorem dX4_readRound_38 : decode cX4_readRound 38 = .ok (.getfield 48, 3) := by decide +kernel
theorem dX4_readRound_41 : decode cX4_readRound 41 = .ok (.ireturn, 1) := by decide +kernel
theorem dX4_readRound_42 : decode cX4_readRound 42 = .ok (.aload_n 0, 1) := by decide +kernel
theorem dX4_readRound_43 : decode cX4_readRound 43 = .ok (.getfield 51, 3) := by decide +kernel
theorem dX4_readRound_46 : decode cX4_readRound 46 = .ok (.ireturn, 1) := by decide +kernel
theorem dX4_readRound_47 : decode cX4_readRound 47 = .ok (.aload_n 0, 1) := by decide +kernel
theorem dX4_readRound_48 : decode cX4_readRound 48 = .ok (.getfield 54, 3) := by decide +kernel
theorem dX4_readRound_51 : decode cX4_readRound 51 = .ok (.ireturn, 1) := by decide +kernel
set_option maxRecDepth 20000 in
theorem ggX4_playRound_X4_seek : GoodIn wsX4_playRound wsX4_seek := goodIn_r _ [11, 6, 12, 13, 14, 15, 16, 17, 18, 19, 20, 10, 21, 22, 23, 24, 25, 26, 27, 28, 29, 30, 31, 2, 3, 32, 33, 34, 35, 36, 37, 38, 39, 40, 41, 42, 1, 43, 44, 45, 46, 47, 48, 49, 50, 51, 52, 53, 54, 4, 55, 56, 57, 58, 59, 60, 61, 62, 63, 64, 65, 66, 67, 68] (by decide +kernel) (by decide +kernel)
set_option maxRecDepth 20000 in
theorem gX4_playRound_X4_seek : GoodIn wsX4_playRound (wsV RX4 57 RX4 yX4_seek wsX4_seek) := goodIn_app (goodIn_of _ (by decide +kernel)) ggX4_playRound_X4_seek
set_option maxRecDepth 20000 in
theorem ggX4_playRound_X4_gamesAtOnce : GoodIn wsX4_playRound wsX4_gamesAtOnce := goodIn_r _ [21, 22, 23, 24, 25, 26, 27, 55, 56, 57, 58, 59, 60, 61, 62, 63, 64, 65, 66, 67, 68] (by decide +kernel) (by decide +kernel)
set_option maxRecDepth 20000 in
theorem gX4_playRound_X4_gamesAtOnce : GoodIn wsX4_playRound (wsV RX4 60 RX4 yX4_gamesAtOnce wsX4_gamesAtOnce) := goodIn_app (goodIn_of _ (by decide +kernel)) ggX4_playRound_X4_gamesAtOnce
theorem dX4_playRound_0 : decode cX4_playRound 0 = .ok (.aload_n 0, 1) := by decide +kernel
theorem dX4_playRound_1 : decode cX4_playRound 1 = .ok (.invokevirtual 57, 3) := by decide +kernel
theorem dX4_playRound_4 : decode cX4_playRound 4 = .ok (.iconst 0, 1) := by decide +kernel
theorem dX4_playRound_5 : decode cX4_playRound 5 = .ok (.istore_n 1, 1) := by decide +kernel
theorem dX4_playRound_6 : decode cX4_playRound 6 = .ok (.iload_n 1, 1) := by decide +kernel
theorem dX4_playRound_7 : decode cX4_playRound 7 = .ok (.bipush 8, 2) := by decide +kernel
theorem dX4_playRound_9 : decode cX4_playRound 9 = .ok (.if_icmp .ge 65, 3) := by decide +kernel
theorem dX4_playRound_12 : decode cX4_playRound 12 = .ok (.aload_n 0, 1) := by decide +kernel
theorem dX4_playRound_13 : decode cX4_playRound 13 = .ok (.getfield 28, 3) := by decide +kernel
theorem dX4_playRound_16 : decode cX4_playRound 16 = .ok (.iload_n 1, 1) := by decide +kernel
theorem dX4_playRound_17 : decode cX4_playRound 17 = .ok (.iaload, 1) := by decide +kernel
theorem dX4_playRound_18 : decode cX4_playRound 18 = .ok (.istore_n 2, 1) := by decide +kernel
theorem dX4_playRound_19 : decode cX4_playRound 19 = .ok (.iload_n 2, 1) := by decide +kernel
theorem dX4_playRound_20 : decode cX4_playRound 20 = .ok (.iconst (-1), 1) := by decide +kernel
theorem dX4_playRound_21 : decode cX4_playRound 21 = .ok (.if_icmp .eq 28, 3) := by decide +kernel
theorem dX4_playRound_24 : decode cX4_playRound 24 = .ok (.aload_n 0, 1) := by decide +kernel
theorem dX4_playRound_25 : decode cX4_playRound 25 = .ok (.getfield 19, 3) := by decide +kernel
theorem dX4_playRound_28 : decode cX4_playRound 28 = .ok (.iload_n 1, 1) := by decide +kernel
theorem dX4_playRound_29 : decode cX4_playRound 29 = .ok (.iconst 0, 1) := by decide +kernel
theorem dX4_playRound_30 : decode cX4_playRound 30 = .ok (.iastore, 1) := by decide +kernel
theorem dX4_playRound_31 : decode cX4_playRound 31 = .ok (.aload_n 0, 1) := by decide +kernel
theorem dX4_playRound_32 : decode cX4_playRound 32 = .ok (.getfield 22, 3) := by decide +kernel
theorem dX4_playRound_35 : decode cX4_playRound 35 = .ok (.iload_n 1, 1) := by decide +kernel
theorem dX4_playRound_36 : decode cX4_playRound 36 = .ok (.bipush 8, 2) := by decide +kernel
theorem dX4_playRound_38 : decode cX4_playRound 38 = .ok (.imul, 1) := by decide +kernel
theorem dX4_playRound_39 : decode cX4_playRound 39 = .ok (.iload_n 2, 1) := by decide +kernel
theorem dX4_playRound_40 : decode cX4_playRound 40 = .ok (.iadd, 1) := by decide +kernel
theorem dX4_playRound_41 : decode cX4_playRound 41 = .ok (.dup2, 1) := by decide +kernel
theorem dX4_playRound_42 : decode cX4_playRound 42 = .ok (.iaload, 1) := by decide +kernel
theorem dX4_playRound_43 : decode cX4_playRound 43 = .ok (.iconst 1, 1) := by decide +kernel
theorem dX4_playRound_44 : decode cX4_playRound 44 = .ok (.iadd, 1) := by decide +kernel
theorem dX4_playRound_45 : decode cX4_playRound 45 = .ok (.iastore, 1) := by decide +kernel
theorem dX4_playRound_46 : decode cX4_playRound 46 = .ok (.goto 22, 3) := by decide +kernel
theorem dX4_playRound_49 : decode cX4_playRound 49 = .ok (.aload_n 0, 1) := by decide +kernel
theorem dX4_playRound_50 : decode cX4_playRound 50 = .ok (.getfield 9, 3) := by decide +kernel
theorem dX4_playRound_53 : decode cX4_playRound 53 = .ok (.iload_n 1, 1) := by decide +kernel
theorem dX4_playRound_54 : decode cX4_playRound 54 = .ok (.baload, 1) := by decide +kernel
theorem dX4_playRound_55 : decode cX4_playRound 55 = .ok (.ifCond .eq 13, 3) := by decide +kernel
theorem dX4_playRound_58 : decode cX4_playRound 58 = .ok (.aload_n 0, 1) := by decide +kernel
theorem dX4_playRound_59 : decode cX4_playRound 59 = .ok (.getfield 19, 3) := by decide +kernel
theorem dX4_playRound_62 : decode cX4_playRound 62 = .ok (.iload_n 1, 1) := by decide +kernel
theorem dX4_playRound_63 : decode cX4_playRound 63 = .ok (.dup2, 1) := by decide +kernel
theorem dX4_playRound_64 : decode cX4_playRound 64 = .ok (.iaload, 1) := by decide +kernel
theorem dX4_playRound_65 : decode cX4_playRound 65 = .ok (.iconst 1, 1) := by decide +kernel
theorem dX4_playRound_66 : decode cX4_playRound 66 = .ok (.iadd, 1) := by decide +kernel
theorem dX4_playRound_67 : decode cX4_playRound 67 = .ok (.iastore, 1) := by decide +kernel
theorem dX4_playRound_68 : decode cX4_playRound 68 = .ok (.iinc 1 1, 3) := by decide +kernel
theorem dX4_playRound_71 : decode cX4_playRound 71 = .ok (.goto (-65), 3) := by decide +kernel
theorem dX4_playRound_74 : decode cX4_playRound 74 = .ok (.aload_n 0, 1) := by decide +kernel
theorem dX4_playRound_75 : decode cX4_playRound 75 = .ok (.dup, 1) := by decide +kernel
theorem dX4_playRound_76 : decode cX4_playRound 76 = .ok (.getfield 38, 3) := by decide +kernel
theorem dX4_playRound_79 : decode cX4_playRound 79 = .ok (.iconst 1, 1) := by decide +kernel
theorem dX4_playRound_80 : decode cX4_playRound 80 = .ok (.iadd, 1) := by decide +kernel
theorem dX4_playRound_81 : decode cX4_playRound 81 = .ok (.putfield 38, 3) := by decide +kernel
theorem dX4_playRound_84 : decode cX4_playRound 84 = .ok (.aload_n 0, 1) := by decide +kernel
theorem dX4_playRound_85 : decode cX4_playRound 85 = .ok (.iconst 0, 1) := by decide +kernel
theorem dX4_playRound_86 : decode cX4_playRound 86 = .ok (.putfield 41, 3) := by decide +kernel
theorem dX4_playRound_89 : decode cX4_playRound 89 = .ok (.aload_n 0, 1) := by decide +kernel
theorem dX4_playRound_90 : decode cX4_playRound 90 = .ok (.invokevirtual 60, 3) := by decide +kernel
theorem dX4_playRound_93 : decode cX4_playRound 93 = .ok (.ireturn, 1) := by decide +kernel
theorem dX4_gamesOfBoth_0 : decode cX4_gamesOfBoth 0 = .ok (.aload_n 0, 1) := by decide +kernel
theorem dX4_gamesOfBoth_1 : decode cX4_gamesOfBoth 1 = .ok (.getfield 22, 3) := by decide +kernel
theorem dX4_gamesOfBoth_4 : decode cX4_gamesOfBoth 4 = .ok (.iload_n 1, 1) := by decide +kernel
theorem dX4_gamesOfBoth_5 : decode cX4_gamesOfBoth 5 = .ok (.bipush 8, 2) := by decide +kernel
theorem dX4_gamesOfBoth_7 : decode cX4_gamesOfBoth 7 = .ok (.imul, 1) := by decide +kernel
theorem dX4_gamesOfBoth_8 : decode cX4_gamesOfBoth 8 = .ok (.iload_n 2, 1) := by decide +kernel
theorem dX4_gamesOfBoth_9 : decode cX4_gamesOfBoth 9 = .ok (.iadd, 1) := by decide +kernel
theorem dX4_gamesOfBoth_10 : decode cX4_gamesOfBoth 10 = .ok (.iaload, 1) := by decide +kernel
theorem dX4_gamesOfBoth_11 : decode cX4_gamesOfBoth 11 = .ok (.ireturn, 1) := by decide +kernel
theorem dX4_gamesOf_0 : decode cX4_gamesOf 0 = .ok (.iconst 0, 1) := by decide +kernel
theorem dX4_gamesOf_1 : decode cX4_gamesOf 1 = .ok (.istore_n 2, 1) := by decide +kernel
theorem dX4_gamesOf_2 : decode cX4_gamesOf 2 = .ok (.iconst 0, 1) := by decide +kernel
theorem dX4_gamesOf_3 : decode cX4_gamesOf 3 = .ok (.istore_n 3, 1) := by decide +kernel
theorem dX4_gamesOf_4 : decode cX4_gamesOf 4 = .ok (.iload_n 3, 1) := by decide +kernel
theorem dX4_gamesOf_5 : decode cX4_gamesOf 5 = .ok (.bipush 8, 2) := by decide +kernel
theorem dX4_gamesOf_7 : decode cX4_gamesOf 7 = .ok (.if_icmp .ge 23, 3) := by decide +kernel
theorem dX4_gamesOf_10 : decode cX4_gamesOf 10 = .ok (.iload_n 2, 1) := by decide +kernel
theorem dX4_gamesOf_11 : decode cX4_gamesOf 11 = .ok (.aload_n 0, 1) := by decide +kernel
theorem dX4_gamesOf_12 : decode cX4_gamesOf 12 = .ok (.getfield 22, 3) := by decide +kernel
theorem dX4_gamesOf_15 : decode cX4_gamesOf 15 = .ok (.iload_n 1, 1) := by decide +kernel
theorem dX4_gamesOf_16 : decode cX4_gamesOf 16 = .ok (.bipush 8, 2) := by decide +kernel
theorem dX4_gamesOf_18 : decode cX4_gamesOf 18 = .ok (.imul, 1) := by decide +kernel
theorem dX4_gamesOf_19 : decode cX4_gamesOf 19 = .ok (.iload_n 3, 1) := by decide +kernel
theorem dX4_gamesOf_20 : decode cX4_gamesOf 20 = .ok (.iadd, 1) := by decide +kernel
theorem dX4_gamesOf_21 : decode cX4_gamesOf 21 = .ok (.iaload, 1) := by decide +kernel
theorem dX4_gamesOf_22 : decode cX4_gamesOf 22 = .ok (.iadd, 1) := by decide +kernel
theorem dX4_gamesOf_23 : decode cX4_gamesOf 23 = .ok (.istore_n 2, 1) := by decide +kernel
theorem dX4_gamesOf_24 : decode cX4_gamesOf 24 = .ok (.iinc 3 1, 3) := by decide +kernel
theorem dX4_gamesOf_27 : decode cX4_gamesOf 27 = .ok (.goto (-23), 3) := by decide +kernel
theorem dX4_gamesOf_30 : decode cX4_gamesOf 30 = .ok (.iload_n 2, 1) := by decide +kernel
theorem dX4_gamesOf_31 : decode cX4_gamesOf 31 = .ok (.ireturn, 1) := by decide +kernel
theorem dX4_waitedOf_0 : decode cX4_waitedOf 0 = .ok (.aload_n 0, 1) := by decide +kernel
theorem dX4_waitedOf_1 : decode cX4_waitedOf 1 = .ok (.getfield 9, 3) := by decide +kernel
theorem dX4_waitedOf_4 : decode cX4_waitedOf 4 = .ok (.iload_n 1, 1) := by decide +kernel
theorem dX4_waitedOf_5 : decode cX4_waitedOf 5 = .ok (.baload, 1) := by decide +kernel
theorem dX4_waitedOf_6 : decode cX4_waitedOf 6 = .ok (.ifCond .eq 12, 3) := by decide +kernel
theorem dX4_waitedOf_9 : decode cX4_waitedOf 9 = .ok (.aload_n 0, 1) := by decide +kernel
theorem dX4_waitedOf_10 : decode cX4_waitedOf 10 = .ok (.getfield 19, 3) := by decide +kernel
theorem dX4_waitedOf_13 : decode cX4_waitedOf 13 = .ok (.iload_n 1, 1) := by decide +kernel
theorem dX4_waitedOf_14 : decode cX4_waitedOf 14 = .ok (.iaload, 1) := by decide +kernel
theorem dX4_waitedOf_15 : decode cX4_waitedOf 15 = .ok (.goto 4, 3) := by decide +kernel
theorem dX4_waitedOf_18 : decode cX4_waitedOf 18 = .ok (.iconst (-1), 1) := by decide +kernel
theorem dX4_waitedOf_19 : decode cX4_waitedOf 19 = .ok (.ireturn, 1) := by decide +kernel
theorem dX4_gradeOf_0 : decode cX4_gradeOf 0 = .ok (.aload_n 0, 1) := by decide +kernel
theorem dX4_gradeOf_1 : decode cX4_gradeOf 1 = .ok (.getfield 9, 3) := by decide +kernel
theorem dX4_gradeOf_4 : decode cX4_gradeOf 4 = .ok (.iload_n 1, 1) := by decide +kernel
theorem dX4_gradeOf_5 : decode cX4_gradeOf 5 = .ok (.baload, 1) := by decide +kernel
theorem dX4_gradeOf_6 : decode cX4_gradeOf 6 = .ok (.ifCond .eq 12, 3) := by decide +kernel
theorem dX4_gradeOf_9 : decode cX4_gradeOf 9 = .ok (.aload_n 0, 1) := by decide +kernel
theorem dX4_gradeOf_10 : decode cX4_gradeOf 10 = .ok (.getfield 15, 3) := by decide +kernel
theorem dX4_gradeOf_13 : decode cX4_gradeOf 13 = .ok (.iload_n 1, 1) := by decide +kernel
theorem dX4_gradeOf_14 : decode cX4_gradeOf 14 = .ok (.iaload, 1) := by decide +kernel
theorem dX4_gradeOf_15 : decode cX4_gradeOf 15 = .ok (.goto 4, 3) := by decide +kernel
theorem dX4_gradeOf_18 : decode cX4_gradeOf 18 = .ok (.iconst (-1), 1) := by decide +kernel
theorem dX4_gradeOf_19 : decode cX4_gradeOf 19 = .ok (.ireturn, 1) := by decide +kernel
theorem dX4_thereNow_0 : decode cX4_thereNow 0 = .ok (.aload_n 0, 1) := by decide +kernel
theorem dX4_thereNow_1 : decode cX4_thereNow 1 = .ok (.getfield 35, 3) := by decide +kernel
theorem dX4_thereNow_4 : decode cX4_thereNow 4 = .ok (.ireturn, 1) := by decide +kernel
theorem dX4_roundsPlayed_0 : decode cX4_roundsPlayed 0 = .ok (.aload_n 0, 1) := by decide +kernel
theorem dX4_roundsPlayed_1 : decode cX4_roundsPlayed 1 = .ok (.getfield 38, 3) := by decide +kernel
theorem dX4_roundsPlayed_4 : decode cX4_roundsPlayed 4 = .ok (.ireturn, 1) := by decide +kernel
theorem dX4_gamesAtOnce_0 : decode cX4_gamesAtOnce 0 = .ok (.aload_n 0, 1) := by decide +kernel
theorem dX4_gamesAtOnce_1 : decode cX4_gamesAtOnce 1 = .ok (.getfield 31, 3) := by decide +kernel
theorem dX4_gamesAtOnce_4 : decode cX4_gamesAtOnce 4 = .ok (.aload_n 0, 1) := by decide +kernel
theorem dX4_gamesAtOnce_5 : decode cX4_gamesAtOnce 5 = .ok (.getfield 35, 3) := by decide +kernel
theorem dX4_gamesAtOnce_8 : decode cX4_gamesAtOnce 8 = .ok (.iconst 2, 1) := by decide +kernel
theorem dX4_gamesAtOnce_9 : decode cX4_gamesAtOnce 9 = .ok (.idiv, 1) := by decide +kernel
theorem dX4_gamesAtOnce_10 : decode cX4_gamesAtOnce 10 = .ok (.invokestatic 64, 3) := by decide +kernel
theorem dX4_gamesAtOnce_13 : decode cX4_gamesAtOnce 13 = .ok (.ireturn, 1) := by decide +kernel
set_option maxRecDepth 20000 in
theorem ggX4_seek_J7_fill_53178 : GoodIn wsX4_seek wsJ7_fill_53178 := goodIn_r _ [7] (by decide +kernel) (by decide +kernel)
set_option maxRecDepth 20000 in
theorem gX4_seek_J7_fill_53178 : GoodIn wsX4_seek (va_wsS RX4 70 yJ7_fill_53178 wsJ7_fill_53178) := goodIn_app (goodIn_of _ (by decide +kernel)) ggX4_seek_J7_fill_53178
set_option maxRecDepth 20000 in
theorem ggX4_seek_X4_gamesAtOnce : GoodIn wsX4_seek wsX4_gamesAtOnce := goodIn_r _ [12, 13, 14, 15, 16, 17, 18, 50, 51, 52, 53, 54, 55, 56, 57, 58, 59, 60, 61, 62, 63] (by decide +kernel) (by decide +kernel)
set_option maxRecDepth 20000 in
theorem gX4_seek_X4_gamesAtOnce : GoodIn wsX4_seek (wsV RX4 60 RX4 yX4_gamesAtOnce wsX4_gamesAtOnce) := goodIn_app (goodIn_of _ (by decide +kernel)) ggX4_seek_X4_gamesAtOnce
set_option maxRecDepth 20000 in
theorem ggX4_seek_X4_pairFrom : GoodIn wsX4_seek wsX4_pairFrom := goodIn_r _ [22, 3, 23, 24, 25, 26, 27, 17, 28, 29, 30, 31, 11, 32, 2, 33, 34, 35, 36, 37, 38, 39, 40, 41, 42, 43, 44, 45, 46, 47, 48, 49, 19, 20, 21, 50, 51, 52, 53, 54, 55, 56, 57, 58, 59, 60, 61, 62, 63] (by decide +kernel) (by decide +kernel)
set_option maxRecDepth 20000 in
theorem gX4_seek_X4_pairFrom : GoodIn wsX4_seek (wsV RX4 76 RX4 yX4_pairFrom wsX4_pairFrom) := goodIn_app (goodIn_of _ (by decide +kernel)) ggX4_seek_X4_pairFrom
theorem dX4_seek_0 : decode cX4_seek 0 = .ok (.aload_n 0, 1) := by decide +kernel
theorem dX4_seek_1 : decode cX4_seek 1 = .ok (.getfield 41, 3) := by decide +kernel
theorem dX4_seek_4 : decode cX4_seek 4 = .ok (.ifCond .eq 4, 3) := by decide +kernel
theorem dX4_seek_7 : decode cX4_seek 7 = .ok (.return_, 1) := by decide +kernel
theorem dX4_seek_8 : decode cX4_seek 8 = .ok (.aload_n 0, 1) := by decide +kernel
theorem dX4_seek_9 : decode cX4_seek 9 = .ok (.iconst 1, 1) := by decide +kernel
theorem dX4_seek_10 : decode cX4_seek 10 = .ok (.putfield 41, 3) := by decide +kernel
theorem dX4_seek_13 : decode cX4_seek 13 = .ok (.aload_n 0, 1) := by decide +kernel
theorem dX4_seek_14 : decode cX4_seek 14 = .ok (.iconst 0, 1) := by decide +kernel
theorem dX4_seek_15 : decode cX4_seek 15 = .ok (.putfield 45, 3) := by decide +kernel
theorem dX4_seek_18 : decode cX4_seek 18 = .ok (.aload_n 0, 1) := by decide +kernel
theorem dX4_seek_19 : decode cX4_seek 19 = .ok (.getfield 25, 3) := by decide +kernel
theorem dX4_seek_22 : decode cX4_seek 22 = .ok (.iconst (-1), 1) := by decide +kernel
theorem dX4_seek_23 : decode cX4_seek 23 = .ok (.invokestatic 70, 3) := by decide +kernel
theorem dX4_seek_26 : decode cX4_seek 26 = .ok (.aload_n 0, 1) := by decide +kernel
theorem dX4_seek_27 : decode cX4_seek 27 = .ok (.iconst 0, 1) := by decide +kernel
theorem dX4_seek_28 : decode cX4_seek 28 = .ok (.aload_n 0, 1) := by decide +kernel
theorem dX4_seek_29 : decode cX4_seek 29 = .ok (.invokevirtual 60, 3) := by decide +kernel
theorem dX4_seek_32 : decode cX4_seek 32 = .ok (.iconst 0, 1) := by decide +kernel
theorem dX4_seek_33 : decode cX4_seek 33 = .ok (.iconst 0, 1) := by decide +kernel
theorem dX4_seek_34 : decode cX4_seek 34 = .ok (.iconst 0, 1) := by decide +kernel
theorem dX4_seek_35 : decode cX4_seek 35 = .ok (.invokevirtual 76, 3) := by decide +kernel
theorem dX4_seek_38 : decode cX4_seek 38 = .ok (.return_, 1) := by decide +kernel
set_option maxRecDepth 20000 in
theorem ggX4_pairFrom_X4_keepIfBetter : GoodIn wsX4_pairFrom wsX4_keepIfBetter := goodIn_r _ [13, 14, 15, 16, 17, 1, 18, 19, 20, 21, 22, 23, 24, 25, 12, 26, 35, 36, 37, 38, 39, 40, 41, 42, 43, 44, 45, 46, 47, 48] (by decide +kernel) (by decide +kernel)
set_option maxRecDepth 20000 in
theorem gX4_pairFrom_X4_keepIfBetter : GoodIn wsX4_pairFrom (wsV RX4 80 RX4 yX4_keepIfBetter wsX4_keepIfBetter) := goodIn_app (goodIn_of _ (by decide +kernel)) ggX4_pairFrom_X4_keepIfBetter
set_option maxRecDepth 20000 in
theorem ggX4_pairFrom_X4_isFree : GoodIn wsX4_pairFrom wsX4_isFree := goodIn_r _ [30, 31, 1, 35, 36, 37, 38, 39, 40, 41, 42, 43, 44, 45, 46, 47, 48] (by decide +kernel) (by decide +kernel)
set_option maxRecDepth 20000 in
theorem gX4_pairFrom_X4_isFree : GoodIn wsX4_pairFrom (wsV RX4 84 RX4 yX4_isFree wsX4_isFree) := goodIn_app (goodIn_of _ (by decide +kernel)) ggX4_pairFrom_X4_isFree
set_option maxRecDepth 20000 in
theorem ggX4_pairFrom_X4_pairFrom : GoodIn wsX4_pairFrom wsX4_pairFrom := goodIn_r _ [0, 1, 2, 3, 4, 5, 6, 7, 8, 9, 10, 11, 12, 13, 14, 15, 16, 17, 18, 19, 20, 21, 22, 23, 24, 25, 26, 27, 28, 29, 30, 31, 32, 33, 34, 35, 36, 37, 38, 39, 40, 41, 42, 43, 44, 45, 46, 47, 48] (by decide +kernel) (by decide +kernel)
set_option maxRecDepth 20000 in
theorem gX4_pairFrom_X4_pairFrom : GoodIn wsX4_pairFrom (wsV RX4 76 RX4 yX4_pairFrom wsX4_pairFrom) := goodIn_app (goodIn_of _ (by decide +kernel)) ggX4_pairFrom_X4_pairFrom
theorem dX4_pairFrom_0 : decode cX4_pairFrom 0 = .ok (.iload_n 2, 1) := by decide +kernel
theorem dX4_pairFrom_1 : decode cX4_pairFrom 1 = .ok (.ifCond .ne 13, 3) := by decide +kernel
theorem dX4_pairFrom_4 : decode cX4_pairFrom 4 = .ok (.aload_n 0, 1) := by decide +kernel
theorem dX4_pairFrom_5 : decode cX4_pairFrom 5 = .ok (.iload_n 3, 1) := by decide +kernel
theorem dX4_pairFrom_6 : decode cX4_pairFrom 6 = .ok (.iload 4, 2) := by decide +kernel
theorem dX4_pairFrom_8 : decode cX4_pairFrom 8 = .ok (.iload 5, 2) := by decide +kernel
theorem dX4_pairFrom_10 : decode cX4_pairFrom 10 = .ok (.invokevirtual 80, 3) := by decide +kernel
theorem dX4_pairFrom_13 : decode cX4_pairFrom 13 = .ok (.return_, 1) := by decide +kernel
theorem dX4_pairFrom_14 : decode cX4_pairFrom 14 = .ok (.iload_n 1, 1) := by decide +kernel
theorem dX4_pairFrom_15 : decode cX4_pairFrom 15 = .ok (.bipush 8, 2) := by decide +kernel
theorem dX4_pairFrom_17 : decode cX4_pairFrom 17 = .ok (.if_icmp .lt 4, 3) := by decide +kernel
theorem dX4_pairFrom_20 : decode cX4_pairFrom 20 = .ok (.return_, 1) := by decide +kernel
theorem dX4_pairFrom_21 : decode cX4_pairFrom 21 = .ok (.aload_n 0, 1) := by decide +kernel
theorem dX4_pairFrom_22 : decode cX4_pairFrom 22 = .ok (.iload_n 1, 1) := by decide +kernel
theorem dX4_pairFrom_23 : decode cX4_pairFrom 23 = .ok (.invokevirtual 84, 3) := by decide +kernel
theorem dX4_pairFrom_26 : decode cX4_pairFrom 26 = .ok (.ifCond .eq 122, 3) := by decide +kernel
theorem dX4_pairFrom_29 : decode cX4_pairFrom 29 = .ok (.iload_n 1, 1) := by decide +kernel
theorem dX4_pairFrom_30 : decode cX4_pairFrom 30 = .ok (.iconst 1, 1) := by decide +kernel
theorem dX4_pairFrom_31 : decode cX4_pairFrom 31 = .ok (.iadd, 1) := by decide +kernel
theorem dX4_pairFrom_32 : decode cX4_pairFrom 32 = .ok (.istore 6, 2) := by decide +kernel
theorem dX4_pairFrom_34 : decode cX4_pairFrom 34 = .ok (.iload 6, 2) := by decide +kernel
theorem dX4_pairFrom_36 : decode cX4_pairFrom 36 = .ok (.bipush 8, 2) := by decide +kernel
theorem dX4_pairFrom_38 : decode cX4_pairFrom 38 = .ok (.if_icmp .ge 110, 3) := by decide +kernel
theorem dX4_pairFrom_41 : decode cX4_pairFrom 41 = .ok (.aload_n 0, 1) := by decide +kernel
theorem dX4_pairFrom_42 : decode cX4_pairFrom 42 = .ok (.iload 6, 2) := by decide +kernel
theorem dX4_pairFrom_44 : decode cX4_pairFrom 44 = .ok (.invokevirtual 84, 3) := by decide +kernel
theorem dX4_pairFrom_47 : decode cX4_pairFrom 47 = .ok (.ifCond .eq 95, 3) := by decide +kernel
theorem dX4_pairFrom_50 : decode cX4_pairFrom 50 = .ok (.aload_n 0, 1) := by decide +kernel
theorem dX4_pairFrom_51 : decode cX4_pairFrom 51 = .ok (.getfield 25, 3) := by decide +kernel
theorem dX4_pairFrom_54 : decode cX4_pairFrom 54 = .ok (.iload_n 1, 1) := by decide +kernel
theorem dX4_pairFrom_55 : decode cX4_pairFrom 55 = .ok (.iload 6, 2) := by decide +kernel
theorem dX4_pairFrom_57 : decode cX4_pairFrom 57 = .ok (.iastore, 1) := by decide +kernel
theorem dX4_pairFrom_58 : decode cX4_pairFrom 58 = .ok (.aload_n 0, 1) := by decide +kernel
theorem dX4_pairFrom_59 : decode cX4_pairFrom 59 = .ok (.getfield 25, 3) := by decide +kernel
theorem dX4_pairFrom_62 : decode cX4_pairFrom 62 = .ok (.iload 6, 2) := by decide +kernel
theorem dX4_pairFrom_64 : decode cX4_pairFrom 64 = .ok (.iload_n 1, 1) := by decide +kernel
theorem dX4_pairFrom_65 : decode cX4_pairFrom 65 = .ok (.iastore, 1) := by decide +kernel
theorem dX4_pairFrom_66 : decode cX4_pairFrom 66 = .ok (.aload_n 0, 1) := by decide +kernel
theorem dX4_pairFrom_67 : decode cX4_pairFrom 67 = .ok (.iload_n 1, 1) := by decide +kernel
theorem dX4_pairFrom_68 : decode cX4_pairFrom 68 = .ok (.iconst 1, 1) := by decide +kernel
theorem dX4_pairFrom_69 : decode cX4_pairFrom 69 = .ok (.iadd, 1) := by decide +kernel
theorem dX4_pairFrom_70 : decode cX4_pairFrom 70 = .ok (.iload_n 2, 1) := by decide +kernel
theorem dX4_pairFrom_71 : decode cX4_pairFrom 71 = .ok (.iconst 1, 1) := by decide +kernel
theorem dX4_pairFrom_72 : decode cX4_pairFrom 72 = .ok (.isub, 1) := by decide +kernel
theorem dX4_pairFrom_73 : decode cX4_pairFrom 73 = .ok (.iload_n 3, 1) := by decide +kernel
theorem dX4_pairFrom_74 : decode cX4_pairFrom 74 = .ok (.aload_n 0, 1) := by decide +kernel
theorem dX4_pairFrom_75 : decode cX4_pairFrom 75 = .ok (.getfield 19, 3) := by decide +kernel
theorem dX4_pairFrom_78 : decode cX4_pairFrom 78 = .ok (.iload_n 1, 1) := by decide +kernel
theorem dX4_pairFrom_79 : decode cX4_pairFrom 79 = .ok (.iaload, 1) := by decide +kernel
theorem dX4_pairFrom_80 : decode cX4_pairFrom 80 = .ok (.iadd, 1) := by decide +kernel
theorem dX4_pairFrom_81 : decode cX4_pairFrom 81 = .ok (.aload_n 0, 1) := by decide +kernel
theorem dX4_pairFrom_82 : decode cX4_pairFrom 82 = .ok (.getfield 19, 3) := by decide +kernel
theorem dX4_pairFrom_85 : decode cX4_pairFrom 85 = .ok (.iload 6, 2) := by decide +kernel
theorem dX4_pairFrom_87 : decode cX4_pairFrom 87 = .ok (.iaload, 1) := by decide +kernel
theorem dX4_pairFrom_88 : decode cX4_pairFrom 88 = .ok (.iadd, 1) := by decide +kernel
theorem dX4_pairFrom_89 : decode cX4_pairFrom 89 = .ok (.iload 4, 2) := by decide +kernel
theorem dX4_pairFrom_91 : decode cX4_pairFrom 91 = .ok (.aload_n 0, 1) := by decide +kernel
theorem dX4_pairFrom_92 : decode cX4_pairFrom 92 = .ok (.getfield 22, 3) := by decide +kernel
theorem dX4_pairFrom_95 : decode cX4_pairFrom 95 = .ok (.iload_n 1, 1) := by decide +kernel
theorem dX4_pairFrom_96 : decode cX4_pairFrom 96 = .ok (.bipush 8, 2) := by decide +kernel
theorem dX4_pairFrom_98 : decode cX4_pairFrom 98 = .ok (.imul, 1) := by decide +kernel
theorem dX4_pairFrom_99 : decode cX4_pairFrom 99 = .ok (.iload 6, 2) := by decide +kernel
theorem dX4_pairFrom_101 : decode cX4_pairFrom 101 = .ok (.iadd, 1) := by decide +kernel
theorem dX4_pairFrom_102 : decode cX4_pairFrom 102 = .ok (.iaload, 1) := by decide +kernel
theorem dX4_pairFrom_103 : decode cX4_pairFrom 103 = .ok (.iadd, 1) := by decide +kernel
theorem dX4_pairFrom_104 : decode cX4_pairFrom 104 = .ok (.iload 5, 2) := by decide +kernel
theorem dX4_pairFrom_106 : decode cX4_pairFrom 106 = .ok (.aload_n 0, 1) := by decide +kernel
theorem dX4_pairFrom_107 : decode cX4_pairFrom 107 = .ok (.getfield 15, 3) := by decide +kernel
theorem dX4_pairFrom_110 : decode cX4_pairFrom 110 = .ok (.iload_n 1, 1) := by decide +kernel
theorem dX4_pairFrom_111 : decode cX4_pairFrom 111 = .ok (.iaload, 1) := by decide +kernel
theorem dX4_pairFrom_112 : decode cX4_pairFrom 112 = .ok (.aload_n 0, 1) := by decide +kernel
theorem dX4_pairFrom_113 : decode cX4_pairFrom 113 = .ok (.getfield 15, 3) := by decide +kernel
theorem dX4_pairFrom_116 : decode cX4_pairFrom 116 = .ok (.iload 6, 2) := by decide +kernel
theorem dX4_pairFrom_118 : decode cX4_pairFrom 118 = .ok (.iaload, 1) := by decide +kernel
theorem dX4_pairFrom_119 : decode cX4_pairFrom 119 = .ok (.isub, 1) := by decide +kernel
theorem dX4_pairFrom_120 : decode cX4_pairFrom 120 = .ok (.invokestatic 88, 3) := by decide +kernel
theorem dX4_pairFrom_123 : decode cX4_pairFrom 123 = .ok (.iadd, 1) := by decide +kernel
theorem dX4_pairFrom_124 : decode cX4_pairFrom 124 = .ok (.invokevirtual 76, 3) := by decide +kernel
theorem dX4_pairFrom_127 : decode cX4_pairFrom 127 = .ok (.aload_n 0, 1) := by decide +kernel
theorem dX4_pairFrom_128 : decode cX4_pairFrom 128 = .ok (.getfield 25, 3) := by decide +kernel
theorem dX4_pairFrom_131 : decode cX4_pairFrom 131 = .ok (.iload_n 1, 1) := by decide +kernel
theorem dX4_pairFrom_132 : decode cX4_pairFrom 132 = .ok (.iconst (-1), 1) := by decide +kernel
theorem dX4_pairFrom_133 : decode cX4_pairFrom 133 = .ok (.iastore, 1) := by decide +kernel
theorem dX4_pairFrom_134 : decode cX4_pairFrom 134 = .ok (.aload_n 0, 1) := by decide +kernel
theorem dX4_pairFrom_135 : decode cX4_pairFrom 135 = .ok (.getfield 25, 3) := by decide +kernel
theorem dX4_pairFrom_138 : decode cX4_pairFrom 138 = .ok (.iload 6, 2) := by decide +kernel
theorem dX4_pairFrom_140 : decode cX4_pairFrom 140 = .ok (.iconst (-1), 1) := by decide +kernel
theorem dX4_pairFrom_141 : decode cX4_pairFrom 141 = .ok (.iastore, 1) := by decide +kernel
theorem dX4_pairFrom_142 : decode cX4_pairFrom 142 = .ok (.iinc 6 1, 3) := by decide +kernel
theorem dX4_pairFrom_145 : decode cX4_pairFrom 145 = .ok (.goto (-111), 3) := by decide +kernel
theorem dX4_pairFrom_148 : decode cX4_pairFrom 148 = .ok (.aload_n 0, 1) := by decide +kernel
theorem dX4_pairFrom_149 : decode cX4_pairFrom 149 = .ok (.iload_n 1, 1) := by decide +kernel
theorem dX4_pairFrom_150 : decode cX4_pairFrom 150 = .ok (.iconst 1, 1) := by decide +kernel
theorem dX4_pairFrom_151 : decode cX4_pairFrom 151 = .ok (.iadd, 1) := by decide +kernel
theorem dX4_pairFrom_152 : decode cX4_pairFrom 152 = .ok (.iload_n 2, 1) := by decide +kernel
theorem dX4_pairFrom_153 : decode cX4_pairFrom 153 = .ok (.iload_n 3, 1) := by decide +kernel
theorem dX4_pairFrom_154 : decode cX4_pairFrom 154 = .ok (.iload 4, 2) := by decide +kernel
theorem dX4_pairFrom_156 : decode cX4_pairFrom 156 = .ok (.iload 5, 2) := by decide +kernel
theorem dX4_pairFrom_158 : decode cX4_pairFrom 158 = .ok (.invokevirtual 76, 3) := by decide +kernel
theorem dX4_pairFrom_161 : decode cX4_pairFrom 161 = .ok (.return_, 1) := by decide +kernel
theorem dX4_isFree_0 : decode cX4_isFree 0 = .ok (.aload_n 0, 1) := by decide +kernel
theorem dX4_isFree_1 : decode cX4_isFree 1 = .ok (.getfield 9, 3) := by decide +kernel
theorem dX4_isFree_4 : decode cX4_isFree 4 = .ok (.iload_n 1, 1) := by decide +kernel
theorem dX4_isFree_5 : decode cX4_isFree 5 = .ok (.baload, 1) := by decide +kernel
theorem dX4_isFree_6 : decode cX4_isFree 6 = .ok (.ifCond .eq 17, 3) := by decide +kernel
theorem dX4_isFree_9 : decode cX4_isFree 9 = .ok (.aload_n 0, 1) := by decide +kernel
theorem dX4_isFree_10 : decode cX4_isFree 10 = .ok (.getfield 25, 3) := by decide +kernel
theorem dX4_isFree_13 : decode cX4_isFree 13 = .ok (.iload_n 1, 1) := by decide +kernel
theorem dX4_isFree_14 : decode cX4_isFree 14 = .ok (.iaload, 1) := by decide +kernel
theorem dX4_isFree_15 : decode cX4_isFree 15 = .ok (.iconst (-1), 1) := by decide +kernel
theorem dX4_isFree_16 : decode cX4_isFree 16 = .ok (.if_icmp .ne 7, 3) := by decide +kernel
theorem dX4_isFree_19 : decode cX4_isFree 19 = .ok (.iconst 1, 1) := by decide +kernel
theorem dX4_isFree_20 : decode cX4_isFree 20 = .ok (.goto 4, 3) := by decide +kernel
theorem dX4_isFree_23 : decode cX4_isFree 23 = .ok (.iconst 0, 1) := by decide +kernel
theorem dX4_isFree_24 : decode cX4_isFree 24 = .ok (.ireturn, 1) := by decide +kernel
set_option maxRecDepth 20000 in
theorem ggX4_keepIfBetter_X4_isBetter : GoodIn wsX4_keepIfBetter wsX4_isBetter := goodIn_r _ [15, 2, 3, 4, 16, 17, 18, 19, 20, 21, 22, 23, 24, 25, 26, 27, 28, 29] (by decide +kernel) (by decide +kernel)
set_option maxRecDepth 20000 in
theorem gX4_keepIfBetter_X4_isBetter : GoodIn wsX4_keepIfBetter (wsV RX4 92 RX4 yX4_isBetter wsX4_isBetter) := goodIn_app (goodIn_of _ (by decide +kernel)) ggX4_keepIfBetter_X4_isBetter
theorem dX4_keepIfBetter_0 : decode cX4_keepIfBetter 0 = .ok (.aload_n 0, 1) := by decide +kernel
theorem dX4_keepIfBetter_1 : decode cX4_keepIfBetter 1 = .ok (.getfield 45, 3) := by decide +kernel
theorem dX4_keepIfBetter_4 : decode cX4_keepIfBetter 4 = .ok (.ifCond .eq 14, 3) := by decide +kernel
theorem dX4_keepIfBetter_7 : decode cX4_keepIfBetter 7 = .ok (.aload_n 0, 1) := by decide +kernel
theorem dX4_keepIfBetter_8 : decode cX4_keepIfBetter 8 = .ok (.iload_n 1, 1) := by decide +kernel
theorem dX4_keepIfBetter_9 : decode cX4_keepIfBetter 9 = .ok (.iload_n 2, 1) := by decide +kernel
theorem dX4_keepIfBetter_10 : decode cX4_keepIfBetter 10 = .ok (.iload_n 3, 1) := by decide +kernel
theorem dX4_keepIfBetter_11 : decode cX4_keepIfBetter 11 = .ok (.invokevirtual 92, 3) := by decide +kernel
theorem dX4_keepIfBetter_14 : decode cX4_keepIfBetter 14 = .ok (.ifCond .ne 4, 3) := by decide +kernel
theorem dX4_keepIfBetter_17 : decode cX4_keepIfBetter 17 = .ok (.return_, 1) := by decide +kernel
theorem dX4_keepIfBetter_18 : decode cX4_keepIfBetter 18 = .ok (.aload_n 0, 1) := by decide +kernel
theorem dX4_keepIfBetter_19 : decode cX4_keepIfBetter 19 = .ok (.iconst 1, 1) := by decide +kernel
theorem dX4_keepIfBetter_20 : decode cX4_keepIfBetter 20 = .ok (.putfield 45, 3) := by decide +kernel
theorem dX4_keepIfBetter_23 : decode cX4_keepIfBetter 23 = .ok (.aload_n 0, 1) := by decide +kernel
theorem dX4_keepIfBetter_24 : decode cX4_keepIfBetter 24 = .ok (.iload_n 1, 1) := by decide +kernel
theorem dX4_keepIfBetter_25 : decode cX4_keepIfBetter 25 = .ok (.putfield 48, 3) := by decide +kernel
theorem dX4_keepIfBetter_28 : decode cX4_keepIfBetter 28 = .ok (.aload_n 0, 1) := by decide +kernel
theorem dX4_keepIfBetter_29 : decode cX4_keepIfBetter 29 = .ok (.iload_n 2, 1) := by decide +kernel
theorem dX4_keepIfBetter_30 : decode cX4_keepIfBetter 30 = .ok (.putfield 51, 3) := by decide +kernel
theorem dX4_keepIfBetter_33 : decode cX4_keepIfBetter 33 = .ok (.aload_n 0, 1) := by decide +kernel
theorem dX4_keepIfBetter_34 : decode cX4_keepIfBetter 34 = .ok (.iload_n 3, 1) := by decide +kernel
theorem dX4_keepIfBetter_35 : decode cX4_keepIfBetter 35 = .ok (.putfield 54, 3) := by decide +kernel
theorem dX4_keepIfBetter_38 : decode cX4_keepIfBetter 38 = .ok (.aload_n 0, 1) := by decide +kernel
theorem dX4_keepIfBetter_39 : decode cX4_keepIfBetter 39 = .ok (.getfield 25, 3) := by decide +kernel
theorem dX4_keepIfBetter_42 : decode cX4_keepIfBetter 42 = .ok (.iconst 0, 1) := by decide +kernel
theorem dX4_keepIfBetter_43 : decode cX4_keepIfBetter 43 = .ok (.aload_n 0, 1) := by decide +kernel
theorem dX4_keepIfBetter_44 : decode cX4_keepIfBetter 44 = .ok (.getfield 28, 3) := by decide +kernel
theorem dX4_keepIfBetter_47 : decode cX4_keepIfBetter 47 = .ok (.iconst 0, 1) := by decide +kernel
theorem dX4_keepIfBetter_48 : decode cX4_keepIfBetter 48 = .ok (.bipush 8, 2) := by decide +kernel
theorem dX4_keepIfBetter_50 : decode cX4_keepIfBetter 50 = .ok (.invokestatic 96, 3) := by decide +kernel
theorem dX4_keepIfBetter_53 : decode cX4_keepIfBetter 53 = .ok (.return_, 1) := by decide +kernel
theorem dX4_isBetter_0 : decode cX4_isBetter 0 = .ok (.iload_n 1, 1) := by decide +kernel
theorem dX4_isBetter_1 : decode cX4_isBetter 1 = .ok (.aload_n 0, 1) := by decide +kernel
theorem dX4_isBetter_2 : decode cX4_isBetter 2 = .ok (.getfield 48, 3) := by decide +kernel
theorem dX4_isBetter_5 : decode cX4_isBetter 5 = .ok (.if_icmp .eq 17, 3) := by decide +kernel
theorem dX4_isBetter_8 : decode cX4_isBetter 8 = .ok (.iload_n 1, 1) := by decide +kernel
theorem dX4_isBetter_9 : decode cX4_isBetter 9 = .ok (.aload_n 0, 1) := by decide +kernel
theorem dX4_isBetter_10 : decode cX4_isBetter 10 = .ok (.getfield 48, 3) := by decide +kernel
theorem dX4_isBetter_13 : decode cX4_isBetter 13 = .ok (.if_icmp .le 7, 3) := by decide +kernel
theorem dX4_isBetter_16 : decode cX4_isBetter 16 = .ok (.iconst 1, 1) := by decide +kernel
theorem dX4_isBetter_17 : decode cX4_isBetter 17 = .ok (.goto 4, 3) := by decide +kernel
theorem dX4_isBetter_20 : decode cX4_isBetter 20 = .ok (.iconst 0, 1) := by decide +kernel
theorem dX4_isBetter_21 : decode cX4_isBetter 21 = .ok (.ireturn, 1) := by decide +kernel
theorem dX4_isBetter_22 : decode cX4_isBetter 22 = .ok (.iload_n 2, 1) := by decide +kernel
theorem dX4_isBetter_23 : decode cX4_isBetter 23 = .ok (.aload_n 0, 1) := by decide +kernel
theorem dX4_isBetter_24 : decode cX4_isBetter 24 = .ok (.getfield 51, 3) := by decide +kernel
theorem dX4_isBetter_27 : decode cX4_isBetter 27 = .ok (.if_icmp .eq 17, 3) := by decide +kernel
theorem dX4_isBetter_30 : decode cX4_isBetter 30 = .ok (.iload_n 2, 1) := by decide +kernel
theorem dX4_isBetter_31 : decode cX4_isBetter 31 = .ok (.aload_n 0, 1) := by decide +kernel
theorem dX4_isBetter_32 : decode cX4_isBetter 32 = .ok (.getfield 51, 3) := by decide +kernel
theorem dX4_isBetter_35 : decode cX4_isBetter 35 = .ok (.if_icmp .ge 7, 3) := by decide +kernel
theorem dX4_isBetter_38 : decode cX4_isBetter 38 = .ok (.iconst 1, 1) := by decide +kernel
theorem dX4_isBetter_39 : decode cX4_isBetter 39 = .ok (.goto 4, 3) := by decide +kernel
theorem dX4_isBetter_42 : decode cX4_isBetter 42 = .ok (.iconst 0, 1) := by decide +kernel
theorem dX4_isBetter_43 : decode cX4_isBetter 43 = .ok (.ireturn, 1) := by decide +kernel
theorem dX4_isBetter_44 : decode cX4_isBetter 44 = .ok (.iload_n 3, 1) := by decide +kernel
theorem dX4_isBetter_45 : decode cX4_isBetter 45 = .ok (.aload_n 0, 1) := by decide +kernel
theorem dX4_isBetter_46 : decode cX4_isBetter 46 = .ok (.getfield 54, 3) := by decide +kernel
theorem dX4_isBetter_49 : decode cX4_isBetter 49 = .ok (.if_icmp .ge 7, 3) := by decide +kernel
theorem dX4_isBetter_52 : decode cX4_isBetter 52 = .ok (.iconst 1, 1) := by decide +kernel
theorem dX4_isBetter_53 : decode cX4_isBetter 53 = .ok (.goto 4, 3) := by decide +kernel
theorem dX4_isBetter_56 : decode cX4_isBetter 56 = .ok (.iconst 0, 1) := by decide +kernel
theorem dX4_isBetter_57 : decode cX4_isBetter 57 = .ok (.ireturn, 1) := by decide +kernel
theorem dX5_init_0 : decode cX5_init 0 = .ok (.aload_n 0, 1) := by decide +kernel
theorem dX5_init_1 : decode cX5_init 1 = .ok (.invokespecial 3, 3) := by decide +kernel
theorem dX5_init_4 : decode cX5_init 4 = .ok (.aload_n 0, 1) := by decide +kernel
theorem dX5_init_5 : decode cX5_init 5 = .ok (.bipush 16, 2) := by decide +kernel
theorem dX5_init_7 : decode cX5_init 7 = .ok (.newarray .int, 2) := by decide +kernel
theorem dX5_init_9 : decode cX5_init 9 = .ok (.putfield 9, 3) := by decide +kernel
theorem dX5_init_12 : decode cX5_init 12 = .ok (.aload_n 0, 1) := by decide +kernel
theorem dX5_init_13 : decode cX5_init 13 = .ok (.iconst 4, 1) := by decide +kernel
theorem dX5_init_14 : decode cX5_init 14 = .ok (.newarray .int, 2) := by decide +kernel
theorem dX5_init_16 : decode cX5_init 16 = .ok (.putfield 15, 3) := by decide +kernel
theorem dX5_init_19 : decode cX5_init 19 = .ok (.aload_n 0, 1) := by decide +kernel
theorem dX5_init_20 : decode cX5_init 20 = .ok (.iconst 4, 1) := by decide +kernel
theorem dX5_init_21 : decode cX5_init 21 = .ok (.newarray .int, 2) := by decide +kernel
theorem dX5_init_23 : decode cX5_init 23 = .ok (.putfield 18, 3) := by decide +kernel
theorem dX5_init_26 : decode cX5_init 26 = .ok (.aload_n 0, 1) := by decide +kernel
theorem dX5_init_27 : decode cX5_init 27 = .ok (.iconst 0, 1) := by decide +kernel
theorem dX5_init_28 : decode cX5_init 28 = .ok (.putfield 21, 3) := by decide +kernel
theorem dX5_init_31 : decode cX5_init 31 = .ok (.aload_n 0, 1) := by decide +kernel
theorem dX5_init_32 : decode cX5_init 32 = .ok (.iconst 0, 1) := by decide +kernel
theorem dX5_init_33 : decode cX5_init 33 = .ok (.putfield 25, 3) := by decide +kernel
theorem dX5_init_36 : decode cX5_init 36 = .ok (.return_, 1) := by decide +kernel
theorem dX5_size_0 : decode cX5_size 0 = .ok (.aload_n 0, 1) := by decide +kernel
theorem dX5_size_1 : decode cX5_size 1 = .ok (.getfield 25, 3) := by decide +kernel
theorem dX5_size_4 : decode cX5_size 4 = .ok (.ireturn, 1) := by decide +kernel
theorem dX5_add_0 : decode cX5_add 0 = .ok (.aload_n 0, 1) := by decide +kernel
theorem dX5_add_1 : decode cX5_add 1 = .ok (.getfield 25, 3) := by decide +kernel
theorem dX5_add_4 : decode cX5_add 4 = .ok (.bipush 60, 2) := by decide +kernel
theorem dX5_add_6 : decode cX5_add 6 = .ok (.if_icmp .lt 6, 3) := by decide +kernel
theorem dX5_add_9 : decode cX5_add 9 = .ok (.bipush (-5), 2) := by decide +kernel
theorem dX5_add_11 : decode cX5_add 11 = .ok (.ireturn, 1) := by decide +kernel
theorem dX5_add_12 : decode cX5_add 12 = .ok (.aload_n 0, 1) := by decide +kernel
theorem dX5_add_13 : decode cX5_add 13 = .ok (.dup, 1) := by decide +kernel
theorem dX5_add_14 : decode cX5_add 14 = .ok (.getfield 25, 3) := by decide +kernel
theorem dX5_add_17 : decode cX5_add 17 = .ok (.iconst 1, 1) := by decide +kernel
theorem dX5_add_18 : decode cX5_add 18 = .ok (.iadd, 1) := by decide +kernel
theorem dX5_add_19 : decode cX5_add 19 = .ok (.putfield 25, 3) := by decide +kernel
theorem dX5_add_22 : decode cX5_add 22 = .ok (.iload_n 1, 1) := by decide +kernel
theorem dX5_add_23 : decode cX5_add 23 = .ok (.iconst (-1), 1) := by decide +kernel
theorem dX5_add_24 : decode cX5_add 24 = .ok (.if_icmp .eq 67, 3) := by decide +kernel
theorem dX5_add_27 : decode cX5_add 27 = .ok (.iload_n 2, 1) := by decide +kernel
theorem dX5_add_28 : decode cX5_add 28 = .ok (.iconst (-1), 1) := by decide +kernel
theorem dX5_add_29 : decode cX5_add 29 = .ok (.if_icmp .eq 62, 3) := by decide +kernel
theorem dX5_add_32 : decode cX5_add 32 = .ok (.iload_n 3, 1) := by decide +kernel
theorem dX5_add_33 : decode cX5_add 33 = .ok (.ifCond .eq 9, 3) := by decide +kernel
theorem dX5_add_36 : decode cX5_add 36 = .ok (.iload_n 1, 1) := by decide +kernel
theorem dX5_add_37 : decode cX5_add 37 = .ok (.iconst 1, 1) := by decide +kernel
theorem dX5_add_38 : decode cX5_add 38 = .ok (.ixor, 1) := by decide +kernel
theorem dX5_add_39 : decode cX5_add 39 = .ok (.goto 4, 3) := by decide +kernel
theorem dX5_add_42 : decode cX5_add 42 = .ok (.iload_n 1, 1) := by decide +kernel
theorem dX5_add_43 : decode cX5_add 43 = .ok (.istore 4, 2) := by decide +kernel
theorem dX5_add_45 : decode cX5_add 45 = .ok (.aload_n 0, 1) := by decide +kernel
theorem dX5_add_46 : decode cX5_add 46 = .ok (.getfield 9, 3) := by decide +kernel
theorem dX5_add_49 : decode cX5_add 49 = .ok (.iload 4, 2) := by decide +kernel
theorem dX5_add_51 : decode cX5_add 51 = .ok (.iconst 4, 1) := by decide +kernel
theorem dX5_add_52 : decode cX5_add 52 = .ok (.imul, 1) := by decide +kernel
theorem dX5_add_53 : decode cX5_add 53 = .ok (.iload_n 2, 1) := by decide +kernel
theorem dX5_add_54 : decode cX5_add 54 = .ok (.iadd, 1) := by decide +kernel
theorem dX5_add_55 : decode cX5_add 55 = .ok (.dup2, 1) := by decide +kernel
theorem dX5_add_56 : decode cX5_add 56 = .ok (.iaload, 1) := by decide +kernel
theorem dX5_add_57 : decode cX5_add 57 = .ok (.iconst 1, 1) := by decide +kernel
theorem dX5_add_58 : decode cX5_add 58 = .ok (.iadd, 1) := by decide +kernel
theorem dX5_add_59 : decode cX5_add 59 = .ok (.iastore, 1) := by decide +kernel
theorem dX5_add_60 : decode cX5_add 60 = .ok (.aload_n 0, 1) := by decide +kernel
theorem dX5_add_61 : decode cX5_add 61 = .ok (.getfield 15, 3) := by decide +kernel
theorem dX5_add_64 : decode cX5_add 64 = .ok (.iload 4, 2) := by decide +kernel
theorem dX5_add_66 : decode cX5_add 66 = .ok (.dup2, 1) := by decide +kernel
theorem dX5_add_67 : decode cX5_add 67 = .ok (.iaload, 1) := by decide +kernel
theorem dX5_add_68 : decode cX5_add 68 = .ok (.iconst 1, 1) := by decide +kernel
theorem dX5_add_69 : decode cX5_add 69 = .ok (.iadd, 1) := by decide +kernel
theorem dX5_add_70 : decode cX5_add 70 = .ok (.iastore, 1) := by decide +kernel
theorem dX5_add_71 : decode cX5_add 71 = .ok (.aload_n 0, 1) := by decide +kernel
theorem dX5_add_72 : decode cX5_add 72 = .ok (.getfield 18, 3) := by decide +kernel
theorem dX5_add_75 : decode cX5_add 75 = .ok (.iload_n 2, 1) := by decide +kernel
theorem dX5_add_76 : decode cX5_add 76 = .ok (.dup2, 1) := by decide +kernel
theorem dX5_add_77 : decode cX5_add 77 = .ok (.iaload, 1) := by decide +kernel
theorem dX5_add_78 : decode cX5_add 78 = .ok (.iconst 1, 1) := by decide +kernel
theorem dX5_add_79 : decode cX5_add 79 = .ok (.iadd, 1) := by decide +kernel
theorem dX5_add_80 : decode cX5_add 80 = .ok (.iastore, 1) := by decide +kernel
theorem dX5_add_81 : decode cX5_add 81 = .ok (.aload_n 0, 1) := by decide +kernel
theorem dX5_add_82 : decode cX5_add 82 = .ok (.dup, 1) := by decide +kernel
theorem dX5_add_83 : decode cX5_add 83 = .ok (.getfield 21, 3) := by decide +kernel
theorem dX5_add_86 : decode cX5_add 86 = .ok (.iconst 1, 1) := by decide +kernel
theorem dX5_add_87 : decode cX5_add 87 = .ok (.iadd, 1) := by decide +kernel
theorem dX5_add_88 : decode cX5_add 88 = .ok (.putfield 21, 3) := by decide +kernel
theorem dX5_add_91 : decode cX5_add 91 = .ok (.aload_n 0, 1) := by decide +kernel
theorem dX5_add_92 : decode cX5_add 92 = .ok (.getfield 25, 3) := by decide +kernel
theorem dX5_add_95 : decode cX5_add 95 = .ok (.ireturn, 1) := by decide +kernel
theorem dX5_read_0 : decode cX5_read 0 = .ok (.iload_n 3, 1) := by decide +kernel
theorem dX5_read_1 : decode cX5_read 1 = .ok (.tableswitch 52 0 2 #[27, 38, 45], 27) := by decide +kernel
theorem dX5_read_28 : decode cX5_read 28 = .ok (.aload_n 0, 1) := by decide +kernel
theorem dX5_read_29 : decode cX5_read 29 = .ok (.getfield 9, 3) := by decide +kernel
theorem dX5_read_32 : decode cX5_read 32 = .ok (.iload_n 1, 1) := by decide +kernel
theorem dX5_read_33 : decode cX5_read 33 = .ok (.iconst 4, 1) := by decide +kernel
theorem dX5_read_34 : decode cX5_read 34 = .ok (.imul, 1) := by decide +kernel
theorem dX5_read_35 : decode cX5_read 35 = .ok (.iload_n 2, 1) := by decide +kernel
theorem dX5_read_36 : decode cX5_read 36 = .ok (.iadd, 1) := by decide +kernel
theorem dX5_read_37 : decode cX5_read 37 = .ok (.iaload, 1) := by decide +kernel
theorem dX5_read_38 : decode cX5_read 38 = .ok (.ireturn, 1) := by decide +kernel
theorem dX5_read_39 : decode cX5_read 39 = .ok (.aload_n 0, 1) := by decide +kernel
theorem dX5_read_40 : decode cX5_read 40 = .ok (.getfield 15, 3) := by decide +kernel
theorem dX5_read_43 : decode cX5_read 43 = .ok (.iload_n 1, 1) := by decide +kernel
theorem dX5_read_44 : decode cX5_read 44 = .ok (.iaload, 1) := by decide +kernel
theorem dX5_read_45 : decode cX5_read 45 = .ok (.ireturn, 1) := by decide +kernel
theorem dX5_read_46 : decode cX5_read 46 = .ok (.aload_n 0, 1) := by decide +kernel
theorem dX5_read_47 : decode cX5_read 47 = .ok (.getfield 18, 3) := by decide +kernel
theorem dX5_read_50 : decode cX5_read 50 = .ok (.iload_n 2, 1) := by decide +kernel
theorem dX5_read_51 : decode cX5_read 51 = .ok (.iaload, 1) := by decide +kernel
theorem dX5_read_52 : decode cX5_read 52 = .ok (.ireturn, 1) := by decide +kernel
theorem dX5_read_53 : decode cX5_read 53 = .ok (.aload_n 0, 1) := by decide +kernel
theorem dX5_read_54 : decode cX5_read 54 = .ok (.getfield 21, 3) := by decide +kernel
theorem dX5_read_57 : decode cX5_read 57 = .ok (.ireturn, 1) := by decide +kernel
set_option maxRecDepth 20000 in
theorem ggX5_triedHabits_X5_aboveZero : GoodIn wsX5_triedHabits wsX5_aboveZero := goodIn_r _ [6] (by decide +kernel) (by decide +kernel)
set_option maxRecDepth 20000 in
theorem gX5_triedHabits_X5_aboveZero : GoodIn wsX5_triedHabits (va_wsS RX5 28 yX5_aboveZero wsX5_aboveZero) := goodIn_app (goodIn_of _ (by decide +kernel)) ggX5_triedHabits_X5_aboveZero
theorem dX5_triedHabits_0 : decode cX5_triedHabits 0 = .ok (.aload_n 0, 1) := by decide +kernel
theorem dX5_triedHabits_1 : decode cX5_triedHabits 1 = .ok (.getfield 15, 3) := by decide +kernel
theorem dX5_triedHabits_4 : decode cX5_triedHabits 4 = .ok (.invokestatic 28, 3) := by decide +kernel
theorem dX5_triedHabits_7 : decode cX5_triedHabits 7 = .ok (.aload_n 0, 1) := by decide +kernel
theorem dX5_triedHabits_8 : decode cX5_triedHabits 8 = .ok (.getfield 18, 3) := by decide +kernel
theorem dX5_triedHabits_11 : decode cX5_triedHabits 11 = .ok (.invokestatic 28, 3) := by decide +kernel
theorem dX5_triedHabits_14 : decode cX5_triedHabits 14 = .ok (.imul, 1) := by decide +kernel
theorem dX5_triedHabits_15 : decode cX5_triedHabits 15 = .ok (.ireturn, 1) := by decide +kernel
set_option maxRecDepth 20000 in
theorem ggX5_isPastChance_X5_triedHabits : GoodIn wsX5_isPastChance wsX5_triedHabits := goodIn_r _ [14, 1, 2, 15, 16, 13, 17, 21, 22, 23, 24, 25] (by decide +kernel) (by decide +kernel)
set_option maxRecDepth 20000 in
theorem gX5_isPastChance_X5_triedHabits : GoodIn wsX5_isPastChance (wsV RX5 32 RX5 yX5_triedHabits wsX5_triedHabits) := goodIn_app (goodIn_of _ (by decide +kernel)) ggX5_isPastChance_X5_triedHabits
set_option maxRecDepth 20000 in
theorem ggX5_isPastChance_X5_ways : GoodIn wsX5_isPastChance wsX5_ways := goodIn_r _ [20, 5, 6, 7, 8] (by decide +kernel) (by decide +kernel)
set_option maxRecDepth 20000 in
theorem gX5_isPastChance_X5_ways : GoodIn wsX5_isPastChance (va_wsS RX5 36 yX5_ways wsX5_ways) := goodIn_app (goodIn_of _ (by decide +kernel)) ggX5_isPastChance_X5_ways
theorem dX5_isPastChance_0 : decode cX5_isPastChance 0 = .ok (.aload_n 0, 1) := by decide +kernel
theorem dX5_isPastChance_1 : decode cX5_isPastChance 1 = .ok (.getfield 15, 3) := by decide +kernel
theorem dX5_isPastChance_4 : decode cX5_isPastChance 4 = .ok (.iload_n 1, 1) := by decide +kernel
theorem dX5_isPastChance_5 : decode cX5_isPastChance 5 = .ok (.iaload, 1) := by decide +kernel
theorem dX5_isPastChance_6 : decode cX5_isPastChance 6 = .ok (.istore_n 3, 1) := by decide +kernel
theorem dX5_isPastChance_7 : decode cX5_isPastChance 7 = .ok (.aload_n 0, 1) := by decide +kernel
theorem dX5_isPastChance_8 : decode cX5_isPastChance 8 = .ok (.getfield 18, 3) := by decide +kernel
theorem dX5_isPastChance_11 : decode cX5_isPastChance 11 = .ok (.iload_n 2, 1) := by decide +kernel
theorem dX5_isPastChance_12 : decode cX5_isPastChance 12 = .ok (.iaload, 1) := by decide +kernel
theorem dX5_isPastChance_13 : decode cX5_isPastChance 13 = .ok (.istore 4, 2) := by decide +kernel
theorem dX5_isPastChance_15 : decode cX5_isPastChance 15 = .ok (.aload_n 0, 1) := by decide +kernel
theorem dX5_isPastChance_16 : decode cX5_isPastChance 16 = .ok (.invokevirtual 32, 3) := by decide +kernel
theorem dX5_isPastChance_19 : decode cX5_isPastChance 19 = .ok (.istore 5, 2) := by decide +kernel
theorem dX5_isPastChance_21 : decode cX5_isPastChance 21 = .ok (.iload_n 3, 1) := by decide +kernel
theorem dX5_isPastChance_22 : decode cX5_isPastChance 22 = .ok (.ifCond .eq 13, 3) := by decide +kernel
theorem dX5_isPastChance_25 : decode cX5_isPastChance 25 = .ok (.iload 4, 2) := by decide +kernel
theorem dX5_isPastChance_27 : decode cX5_isPastChance 27 = .ok (.ifCond .eq 8, 3) := by decide +kernel
theorem dX5_isPastChance_30 : decode cX5_isPastChance 30 = .ok (.iload 5, 2) := by decide +kernel
theorem dX5_isPastChance_32 : decode cX5_isPastChance 32 = .ok (.ifCond .ne 5, 3) := by decide +kernel
theorem dX5_isPastChance_35 : decode cX5_isPastChance 35 = .ok (.iconst 0, 1) := by decide +kernel
theorem dX5_isPastChance_36 : decode cX5_isPastChance 36 = .ok (.ireturn, 1) := by decide +kernel
theorem dX5_isPastChance_37 : decode cX5_isPastChance 37 = .ok (.aload_n 0, 1) := by decide +kernel
theorem dX5_isPastChance_38 : decode cX5_isPastChance 38 = .ok (.getfield 21, 3) := by decide +kernel
theorem dX5_isPastChance_41 : decode cX5_isPastChance 41 = .ok (.iload_n 3, 1) := by decide +kernel
theorem dX5_isPastChance_42 : decode cX5_isPastChance 42 = .ok (.invokestatic 36, 3) := by decide +kernel
theorem dX5_isPastChance_45 : decode cX5_isPastChance 45 = .ok (.ldc2_w 40, 3) := by decide +kernel
theorem dX5_isPastChance_48 : decode cX5_isPastChance 48 = .ok (.iload 5, 2) := by decide +kernel
theorem dX5_isPastChance_50 : decode cX5_isPastChance 50 = .ok (.i2l, 1) := by decide +kernel
theorem dX5_isPastChance_51 : decode cX5_isPastChance 51 = .ok (.lmul, 1) := by decide +kernel
theorem dX5_isPastChance_52 : decode cX5_isPastChance 52 = .ok (.ldiv, 1) := by decide +kernel
theorem dX5_isPastChance_53 : decode cX5_isPastChance 53 = .ok (.lstore 6, 2) := by decide +kernel
theorem dX5_isPastChance_55 : decode cX5_isPastChance 55 = .ok (.lconst 0, 1) := by decide +kernel
theorem dX5_isPastChance_56 : decode cX5_isPastChance 56 = .ok (.lstore 8, 2) := by decide +kernel
theorem dX5_isPastChance_58 : decode cX5_isPastChance 58 = .ok (.iload_n 3, 1) := by decide +kernel
theorem dX5_isPastChance_59 : decode cX5_isPastChance 59 = .ok (.iload 4, 2) := by decide +kernel
theorem dX5_isPastChance_61 : decode cX5_isPastChance 61 = .ok (.invokestatic 42, 3) := by decide +kernel
theorem dX5_isPastChance_64 : decode cX5_isPastChance 64 = .ok (.istore 10, 2) := by decide +kernel
theorem dX5_isPastChance_66 : decode cX5_isPastChance 66 = .ok (.iload 10, 2) := by decide +kernel
theorem dX5_isPastChance_68 : decode cX5_isPastChance 68 = .ok (.aload_n 0, 1) := by decide +kernel
theorem dX5_isPastChance_69 : decode cX5_isPastChance 69 = .ok (.getfield 9, 3) := by decide +kernel
theorem dX5_isPastChance_72 : decode cX5_isPastChance 72 = .ok (.iload_n 1, 1) := by decide +kernel
theorem dX5_isPastChance_73 : decode cX5_isPastChance 73 = .ok (.iconst 4, 1) := by decide +kernel
theorem dX5_isPastChance_74 : decode cX5_isPastChance 74 = .ok (.imul, 1) := by decide +kernel
theorem dX5_isPastChance_75 : decode cX5_isPastChance 75 = .ok (.iload_n 2, 1) := by decide +kernel
theorem dX5_isPastChance_76 : decode cX5_isPastChance 76 = .ok (.iadd, 1) := by decide +kernel
theorem dX5_isPastChance_77 : decode cX5_isPastChance 77 = .ok (.iaload, 1) := by decide +kernel
theorem dX5_isPastChance_78 : decode cX5_isPastChance 78 = .ok (.if_icmp .lt 44, 3) := by decide +kernel
theorem dX5_isPastChance_81 : decode cX5_isPastChance 81 = .ok (.lload 8, 2) := by decide +kernel
theorem dX5_isPastChance_83 : decode cX5_isPastChance 83 = .ok (.lload 6, 2) := by decide +kernel
theorem dX5_isPastChance_85 : decode cX5_isPastChance 85 = .ok (.lcmp, 1) := by decide +kernel
theorem dX5_isPastChance_86 : decode cX5_isPastChance 86 = .ok (.ifCond .gt 36, 3) := by decide +kernel
theorem dX5_isPastChance_89 : decode cX5_isPastChance 89 = .ok (.lload 8, 2) := by decide +kernel
theorem dX5_isPastChance_91 : decode cX5_isPastChance 91 = .ok (.iload 4, 2) := by decide +kernel
theorem dX5_isPastChance_93 : decode cX5_isPastChance 93 = .ok (.iload 10, 2) := by decide +kernel
theorem dX5_isPastChance_95 : decode cX5_isPastChance 95 = .ok (.invokestatic 36, 3) := by decide +kernel
theorem dX5_isPastChance_98 : decode cX5_isPastChance 98 = .ok (.aload_n 0, 1) := by decide +kernel
theorem dX5_isPastChance_99 : decode cX5_isPastChance 99 = .ok (.getfield 21, 3) := by decide +kernel
theorem dX5_isPastChance_102 : decode cX5_isPastChance 102 = .ok (.iload 4, 2) := by decide +kernel
theorem dX5_isPastChance_104 : decode cX5_isPastChance 104 = .ok (.isub, 1) := by decide +kernel
theorem dX5_isPastChance_105 : decode cX5_isPastChance 105 = .ok (.iload_n 3, 1) := by decide +kernel
theorem dX5_isPastChance_106 : decode cX5_isPastChance 106 = .ok (.iload 10, 2) := by decide +kernel
theorem dX5_isPastChance_108 : decode cX5_isPastChance 108 = .ok (.isub, 1) := by decide +kernel
theorem dX5_isPastChance_109 : decode cX5_isPastChance 109 = .ok (.invokestatic 36, 3) := by decide +kernel
theorem dX5_isPastChance_112 : decode cX5_isPastChance 112 = .ok (.lmul, 1) := by decide +kernel
theorem dX5_isPastChance_113 : decode cX5_isPastChance 113 = .ok (.ladd, 1) := by decide +kernel
theorem dX5_isPastChance_114 : decode cX5_isPastChance 114 = .ok (.lstore 8, 2) := by decide +kernel
theorem dX5_isPastChance_116 : decode cX5_isPastChance 116 = .ok (.iinc 10 (-1), 3) := by decide +kernel
theorem dX5_isPastChance_119 : decode cX5_isPastChance 119 = .ok (.goto (-53), 3) := by decide +kernel
theorem dX5_isPastChance_122 : decode cX5_isPastChance 122 = .ok (.lload 8, 2) := by decide +kernel
theorem dX5_isPastChance_124 : decode cX5_isPastChance 124 = .ok (.lload 6, 2) := by decide +kernel
theorem dX5_isPastChance_126 : decode cX5_isPastChance 126 = .ok (.lcmp, 1) := by decide +kernel
theorem dX5_isPastChance_127 : decode cX5_isPastChance 127 = .ok (.ifCond .gt 7, 3) := by decide +kernel
theorem dX5_isPastChance_130 : decode cX5_isPastChance 130 = .ok (.iconst 1, 1) := by decide +kernel
theorem dX5_isPastChance_131 : decode cX5_isPastChance 131 = .ok (.goto 4, 3) := by decide +kernel
theorem dX5_isPastChance_134 : decode cX5_isPastChance 134 = .ok (.iconst 0, 1) := by decide +kernel
theorem dX5_isPastChance_135 : decode cX5_isPastChance 135 = .ok (.ireturn, 1) := by decide +kernel
set_option maxRecDepth 20000 in
theorem ggX5_strongestHabit_X5_isPastChance : GoodIn wsX5_strongestHabit wsX5_isPastChance := goodIn_r _ [7, 2, 8, 9, 10, 11, 12, 13, 14, 1, 15, 16, 17, 6, 18, 19, 20, 21, 22, 23, 24, 25, 26, 27, 28, 29] (by decide +kernel) (by decide +kernel)
set_option maxRecDepth 20000 in
theorem gX5_strongestHabit_X5_isPastChance : GoodIn wsX5_strongestHabit (wsV RX5 48 RX5 yX5_isPastChance wsX5_isPastChance) := goodIn_app (goodIn_of _ (by decide +kernel)) ggX5_strongestHabit_X5_isPastChance
theorem dX5_strongestHabit_0 : decode cX5_strongestHabit 0 = .ok (.iconst (-1), 1) := by decide +kernel
theorem dX5_strongestHabit_1 : decode cX5_strongestHabit 1 = .ok (.istore_n 1, 1) := by decide +kernel
theorem dX5_strongestHabit_2 : decode cX5_strongestHabit 2 = .ok (.iconst 0, 1) := by decide +kernel
theorem dX5_strongestHabit_3 : decode cX5_strongestHabit 3 = .ok (.istore_n 2, 1) := by decide +kernel
theorem dX5_strongestHabit_4 : decode cX5_strongestHabit 4 = .ok (.iconst 1, 1) := by decide +kernel
theorem dX5_strongestHabit_5 : decode cX5_strongestHabit 5 = .ok (.istore_n 3, 1) := by decide +kernel
theorem dX5_strongestHabit_6 : decode cX5_strongestHabit 6 = .ok (.iconst 0, 1) := by decide +kernel
theorem dX5_strongestHabit_7 : decode cX5_strongestHabit 7 = .ok (.istore 4, 2) := by decide +kernel
theorem dX5_strongestHabit_9 : decode cX5_strongestHabit 9 = .ok (.iload 4, 2) := by decide +kernel
theorem dX5_strongestHabit_11 : decode cX5_strongestHabit 11 = .ok (.bipush 16, 2) := by decide +kernel
theorem dX5_strongestHabit_13 : decode cX5_strongestHabit 13 = .ok (.if_icmp .ge 85, 3) := by decide +kernel
theorem dX5_strongestHabit_16 : decode cX5_strongestHabit 16 = .ok (.iload 4, 2) := by decide +kernel
theorem dX5_strongestHabit_18 : decode cX5_strongestHabit 18 = .ok (.iconst 4, 1) := by decide +kernel
theorem dX5_strongestHabit_19 : decode cX5_strongestHabit 19 = .ok (.idiv, 1) := by decide +kernel
theorem dX5_strongestHabit_20 : decode cX5_strongestHabit 20 = .ok (.istore 5, 2) := by decide +kernel
theorem dX5_strongestHabit_22 : decode cX5_strongestHabit 22 = .ok (.iload_n 1, 1) := by decide +kernel
theorem dX5_strongestHabit_23 : decode cX5_strongestHabit 23 = .ok (.iconst (-1), 1) := by decide +kernel
theorem dX5_strongestHabit_24 : decode cX5_strongestHabit 24 = .ok (.if_icmp .eq 24, 3) := by decide +kernel
theorem dX5_strongestHabit_27 : decode cX5_strongestHabit 27 = .ok (.aload_n 0, 1) := by decide +kernel
theorem dX5_strongestHabit_28 : decode cX5_strongestHabit 28 = .ok (.getfield 9, 3) := by decide +kernel
theorem dX5_strongestHabit_31 : decode cX5_strongestHabit 31 = .ok (.iload 4, 2) := by decide +kernel
theorem dX5_strongestHabit_33 : decode cX5_strongestHabit 33 = .ok (.iaload, 1) := by decide +kernel
theorem dX5_strongestHabit_34 : decode cX5_strongestHabit 34 = .ok (.iload_n 3, 1) := by decide +kernel
theorem dX5_strongestHabit_35 : decode cX5_strongestHabit 35 = .ok (.imul, 1) := by decide +kernel
theorem dX5_strongestHabit_36 : decode cX5_strongestHabit 36 = .ok (.iload_n 2, 1) := by decide +kernel
theorem dX5_strongestHabit_37 : decode cX5_strongestHabit 37 = .ok (.aload_n 0, 1) := by decide +kernel
theorem dX5_strongestHabit_38 : decode cX5_strongestHabit 38 = .ok (.getfield 15, 3) := by decide +kernel
theorem dX5_strongestHabit_41 : decode cX5_strongestHabit 41 = .ok (.iload 5, 2) := by decide +kernel
theorem dX5_strongestHabit_43 : decode cX5_strongestHabit 43 = .ok (.iaload, 1) := by decide +kernel
theorem dX5_strongestHabit_44 : decode cX5_strongestHabit 44 = .ok (.imul, 1) := by decide +kernel
theorem dX5_strongestHabit_45 : decode cX5_strongestHabit 45 = .ok (.if_icmp .le 7, 3) := by decide +kernel
theorem dX5_strongestHabit_48 : decode cX5_strongestHabit 48 = .ok (.iconst 1, 1) := by decide +kernel
theorem dX5_strongestHabit_49 : decode cX5_strongestHabit 49 = .ok (.goto 4, 3) := by decide +kernel
theorem dX5_strongestHabit_52 : decode cX5_strongestHabit 52 = .ok (.iconst 0, 1) := by decide +kernel
theorem dX5_strongestHabit_53 : decode cX5_strongestHabit 53 = .ok (.istore 6, 2) := by decide +kernel
theorem dX5_strongestHabit_55 : decode cX5_strongestHabit 55 = .ok (.iload 6, 2) := by decide +kernel
theorem dX5_strongestHabit_57 : decode cX5_strongestHabit 57 = .ok (.ifCond .eq 35, 3) := by decide +kernel
theorem dX5_strongestHabit_60 : decode cX5_strongestHabit 60 = .ok (.aload_n 0, 1) := by decide +kernel
theorem dX5_strongestHabit_61 : decode cX5_strongestHabit 61 = .ok (.iload 5, 2) := by decide +kernel
theorem dX5_strongestHabit_63 : decode cX5_strongestHabit 63 = .ok (.iload 4, 2) := by decide +kernel
theorem dX5_strongestHabit_65 : decode cX5_strongestHabit 65 = .ok (.iconst 4, 1) := by decide +kernel
theorem dX5_strongestHabit_66 : decode cX5_strongestHabit 66 = .ok (.irem, 1) := by decide +kernel
theorem dX5_strongestHabit_67 : decode cX5_strongestHabit 67 = .ok (.invokevirtual 48, 3) := by decide +kernel
theorem dX5_strongestHabit_70 : decode cX5_strongestHabit 70 = .ok (.ifCond .eq 22, 3) := by decide +kernel
theorem dX5_strongestHabit_73 : decode cX5_strongestHabit 73 = .ok (.iload 4, 2) := by decide +kernel
theorem dX5_strongestHabit_75 : decode cX5_strongestHabit 75 = .ok (.istore_n 1, 1) := by decide +kernel
theorem dX5_strongestHabit_76 : decode cX5_strongestHabit 76 = .ok (.aload_n 0, 1) := by decide +kernel
theorem dX5_strongestHabit_77 : decode cX5_strongestHabit 77 = .ok (.getfield 9, 3) := by decide +kernel
theorem dX5_strongestHabit_80 : decode cX5_strongestHabit 80 = .ok (.iload 4, 2) := by decide +kernel
theorem dX5_strongestHabit_82 : decode cX5_strongestHabit 82 = .ok (.iaload, 1) := by decide +kernel
theorem dX5_strongestHabit_83 : decode cX5_strongestHabit 83 = .ok (.istore_n 2, 1) := by decide +kernel
theorem dX5_strongestHabit_84 : decode cX5_strongestHabit 84 = .ok (.aload_n 0, 1) := by decide +kernel
theorem dX5_strongestHabit_85 : decode cX5_strongestHabit 85 = .ok (.getfield 15, 3) := by decide +kernel
theorem dX5_strongestHabit_88 : decode cX5_strongestHabit 88 = .ok (.iload 5, 2) := by decide +kernel
theorem dX5_strongestHabit_90 : decode cX5_strongestHabit 90 = .ok (.iaload, 1) := by decide +kernel
theorem dX5_strongestHabit_91 : decode cX5_strongestHabit 91 = .ok (.istore_n 3, 1) := by decide +kernel
theorem dX5_strongestHabit_92 : decode cX5_strongestHabit 92 = .ok (.iinc 4 1, 3) := by decide +kernel
theorem dX5_strongestHabit_95 : decode cX5_strongestHabit 95 = .ok (.goto (-86), 3) := by decide +kernel
theorem dX5_strongestHabit_98 : decode cX5_strongestHabit 98 = .ok (.iload_n 1, 1) := by decide +kernel
theorem dX5_strongestHabit_99 : decode cX5_strongestHabit 99 = .ok (.ireturn, 1) := by decide +kernel
theorem dX5_aboveZero_0 : decode cX5_aboveZero 0 = .ok (.iconst 0, 1) := by decide +kernel
theorem dX5_aboveZero_1 : decode cX5_aboveZero 1 = .ok (.istore_n 1, 1) := by decide +kernel
theorem dX5_aboveZero_2 : decode cX5_aboveZero 2 = .ok (.aload_n 0, 1) := by decide +kernel
theorem dX5_aboveZero_3 : decode cX5_aboveZero 3 = .ok (.astore_n 2, 1) := by decide +kernel
theorem dX5_aboveZero_4 : decode cX5_aboveZero 4 = .ok (.aload_n 2, 1) := by decide +kernel
theorem dX5_aboveZero_5 : decode cX5_aboveZero 5 = .ok (.arraylength, 1) := by decide +kernel
theorem dX5_aboveZero_6 : decode cX5_aboveZero 6 = .ok (.istore_n 3, 1) := by decide +kernel
theorem dX5_aboveZero_7 : decode cX5_aboveZero 7 = .ok (.iconst 0, 1) := by decide +kernel
theorem dX5_aboveZero_8 : decode cX5_aboveZero 8 = .ok (.istore 4, 2) := by decide +kernel
theorem dX5_aboveZero_10 : decode cX5_aboveZero 10 = .ok (.iload 4, 2) := by decide +kernel
theorem dX5_aboveZero_12 : decode cX5_aboveZero 12 = .ok (.iload_n 3, 1) := by decide +kernel
theorem dX5_aboveZero_13 : decode cX5_aboveZero 13 = .ok (.if_icmp .ge 23, 3) := by decide +kernel
theorem dX5_aboveZero_16 : decode cX5_aboveZero 16 = .ok (.aload_n 2, 1) := by decide +kernel
theorem dX5_aboveZero_17 : decode cX5_aboveZero 17 = .ok (.iload 4, 2) := by decide +kernel
theorem dX5_aboveZero_19 : decode cX5_aboveZero 19 = .ok (.iaload, 1) := by decide +kernel
theorem dX5_aboveZero_20 : decode cX5_aboveZero 20 = .ok (.istore 5, 2) := by decide +kernel
theorem dX5_aboveZero_22 : decode cX5_aboveZero 22 = .ok (.iload 5, 2) := by decide +kernel
theorem dX5_aboveZero_24 : decode cX5_aboveZero 24 = .ok (.ifCond .le 6, 3) := by decide +kernel
theorem dX5_aboveZero_27 : decode cX5_aboveZero 27 = .ok (.iinc 1 1, 3) := by decide +kernel
theorem dX5_aboveZero_30 : decode cX5_aboveZero 30 = .ok (.iinc 4 1, 3) := by decide +kernel
theorem dX5_aboveZero_33 : decode cX5_aboveZero 33 = .ok (.goto (-23), 3) := by decide +kernel
theorem dX5_aboveZero_36 : decode cX5_aboveZero 36 = .ok (.iload_n 1, 1) := by decide +kernel
theorem dX5_aboveZero_37 : decode cX5_aboveZero 37 = .ok (.ireturn, 1) := by decide +kernel
theorem dX5_ways_0 : decode cX5_ways 0 = .ok (.iload_n 1, 1) := by decide +kernel
theorem dX5_ways_1 : decode cX5_ways 1 = .ok (.ifCond .lt 8, 3) := by decide +kernel
theorem dX5_ways_4 : decode cX5_ways 4 = .ok (.iload_n 1, 1) := by decide +kernel
theorem dX5_ways_5 : decode cX5_ways 5 = .ok (.iload_n 0, 1) := by decide +kernel
theorem dX5_ways_6 : decode cX5_ways 6 = .ok (.if_icmp .le 5, 3) := by decide +kernel
theorem dX5_ways_9 : decode cX5_ways 9 = .ok (.lconst 0, 1) := by decide +kernel
theorem dX5_ways_10 : decode cX5_ways 10 = .ok (.lreturn, 1) := by decide +kernel
theorem dX5_ways_11 : decode cX5_ways 11 = .ok (.iload_n 1, 1) := by decide +kernel
theorem dX5_ways_12 : decode cX5_ways 12 = .ok (.iload_n 0, 1) := by decide +kernel
theorem dX5_ways_13 : decode cX5_ways 13 = .ok (.iload_n 1, 1) := by decide +kernel
theorem dX5_ways_14 : decode cX5_ways 14 = .ok (.isub, 1) := by decide +kernel
theorem dX5_ways_15 : decode cX5_ways 15 = .ok (.invokestatic 42, 3) := by decide +kernel
theorem dX5_ways_18 : decode cX5_ways 18 = .ok (.istore_n 2, 1) := by decide +kernel
theorem dX5_ways_19 : decode cX5_ways 19 = .ok (.lconst 1, 1) := by decide +kernel
theorem dX5_ways_20 : decode cX5_ways 20 = .ok (.lstore_n 3, 1) := by decide +kernel
theorem dX5_ways_21 : decode cX5_ways 21 = .ok (.iconst 1, 1) := by decide +kernel
theorem dX5_ways_22 : decode cX5_ways 22 = .ok (.istore 5, 2) := by decide +kernel
theorem dX5_ways_24 : decode cX5_ways 24 = .ok (.iload 5, 2) := by decide +kernel
theorem dX5_ways_26 : decode cX5_ways 26 = .ok (.iload_n 2, 1) := by decide +kernel
theorem dX5_ways_27 : decode cX5_ways 27 = .ok (.if_icmp .gt 23, 3) := by decide +kernel
theorem dX5_ways_30 : decode cX5_ways 30 = .ok (.lload_n 3, 1) := by decide +kernel
theorem dX5_ways_31 : decode cX5_ways 31 = .ok (.iload_n 0, 1) := by decide +kernel
theorem dX5_ways_32 : decode cX5_ways 32 = .ok (.iload_n 2, 1) := by decide +kernel
theorem dX5_ways_33 : decode cX5_ways 33 = .ok (.isub, 1) := by decide +kernel
theorem dX5_ways_34 : decode cX5_ways 34 = .ok (.iload 5, 2) := by decide +kernel
theorem dX5_ways_36 : decode cX5_ways 36 = .ok (.iadd, 1) := by decide +kernel
theorem dX5_ways_37 : decode cX5_ways 37 = .ok (.i2l, 1) := by decide +kernel
theorem dX5_ways_38 : decode cX5_ways 38 = .ok (.lmul, 1) := by decide +kernel
theorem dX5_ways_39 : decode cX5_ways 39 = .ok (.iload 5, 2) := by decide +kernel
theorem dX5_ways_41 : decode cX5_ways 41 = .ok (.i2l, 1) := by decide +kernel
theorem dX5_ways_42 : decode cX5_ways 42 = .ok (.ldiv, 1) := by decide +kernel
theorem dX5_ways_43 : decode cX5_ways 43 = .ok (.lstore_n 3, 1) := by decide +kernel
theorem dX5_ways_44 : decode cX5_ways 44 = .ok (.iinc 5 1, 3) := by decide +kernel
theorem dX5_ways_47 : decode cX5_ways 47 = .ok (.goto (-23), 3) := by decide +kernel
theorem dX5_ways_50 : decode cX5_ways 50 = .ok (.lload_n 3, 1) := by decide +kernel
theorem dX5_ways_51 : decode cX5_ways 51 = .ok (.lreturn, 1) := by decide +kernel
set_option maxRecDepth 20000 in
theorem ggX6_init_J7_fill_53178 : GoodIn wsX6_init wsJ7_fill_53178 := goodIn_r _ [12] (by decide +kernel) (by decide +kernel)
set_option maxRecDepth 20000 in
theorem gX6_init_J7_fill_53178 : GoodIn wsX6_init (va_wsS RX6 24 yJ7_fill_53178 wsJ7_fill_53178) := goodIn_app (goodIn_of _ (by decide +kernel)) ggX6_init_J7_fill_53178
theorem dX6_init_0 : decode cX6_init 0 = .ok (.aload_n 0, 1) := by decide +kernel
theorem dX6_init_1 : decode cX6_init 1 = .ok (.invokespecial 3, 3) := by decide +kernel
theorem dX6_init_4 : decode cX6_init 4 = .ok (.aload_n 0, 1) := by decide +kernel
theorem dX6_init_5 : decode cX6_init 5 = .ok (.bipush 8, 2) := by decide +kernel
theorem dX6_init_7 : decode cX6_init 7 = .ok (.newarray .int, 2) := by decide +kernel
theorem dX6_init_9 : decode cX6_init 9 = .ok (.putfield 9, 3) := by decide +kernel
theorem dX6_init_12 : decode cX6_init 12 = .ok (.aload_n 0, 1) := by decide +kernel
theorem dX6_init_13 : decode cX6_init 13 = .ok (.bipush 8, 2) := by decide +kernel
theorem dX6_init_15 : decode cX6_init 15 = .ok (.newarray .int, 2) := by decide +kernel
theorem dX6_init_17 : decode cX6_init 17 = .ok (.putfield 15, 3) := by decide +kernel
theorem dX6_init_20 : decode cX6_init 20 = .ok (.aload_n 0, 1) := by decide +kernel
theorem dX6_init_21 : decode cX6_init 21 = .ok (.bipush 8, 2) := by decide +kernel
theorem dX6_init_23 : decode cX6_init 23 = .ok (.newarray .int, 2) := by decide +kernel
theorem dX6_init_25 : decode cX6_init 25 = .ok (.putfield 18, 3) := by decide +kernel
theorem dX6_init_28 : decode cX6_init 28 = .ok (.aload_n 0, 1) := by decide +kernel
theorem dX6_init_29 : decode cX6_init 29 = .ok (.bipush 8, 2) := by decide +kernel
theorem dX6_init_31 : decode cX6_init 31 = .ok (.newarray .int, 2) := by decide +kernel
theorem dX6_init_33 : decode cX6_init 33 = .ok (.putfield 21, 3) := by decide +kernel
theorem dX6_init_36 : decode cX6_init 36 = .ok (.aload_n 0, 1) := by decide +kernel
theorem dX6_init_37 : decode cX6_init 37 = .ok (.getfield 9, 3) := by decide +kernel
theorem dX6_init_40 : decode cX6_init 40 = .ok (.bipush 10, 2) := by decide +kernel
theorem dX6_init_42 : decode cX6_init 42 = .ok (.invokestatic 24, 3) := by decide +kernel
theorem dX6_init_45 : decode cX6_init 45 = .ok (.aload_n 0, 1) := by decide +kernel
theorem dX6_init_46 : decode cX6_init 46 = .ok (.getfield 15, 3) := by decide +kernel
theorem dX6_init_49 : decode cX6_init 49 = .ok (.iconst 1, 1) := by decide +kernel
theorem dX6_init_50 : decode cX6_init 50 = .ok (.invokestatic 24, 3) := by decide +kernel
theorem dX6_init_53 : decode cX6_init 53 = .ok (.aload_n 0, 1) := by decide +kernel
theorem dX6_init_54 : decode cX6_init 54 = .ok (.getfield 21, 3) := by decide +kernel
theorem dX6_init_57 : decode cX6_init 57 = .ok (.bipush 10, 2) := by decide +kernel
theorem dX6_init_59 : decode cX6_init 59 = .ok (.invokestatic 24, 3) := by decide +kernel
theorem dX6_init_62 : decode cX6_init 62 = .ok (.return_, 1) := by decide +kernel
set_option maxRecDepth 20000 in
theorem ggX6_setPlayer_X6_setStride : GoodIn wsX6_setPlayer wsX6_setStride := goodIn_r _ [7, 8, 1, 9, 10, 11, 12, 13, 14, 15, 16, 17] (by decide +kernel) (by decide +kernel)
set_option maxRecDepth 20000 in
theorem gX6_setPlayer_X6_setStride : GoodIn wsX6_setPlayer (wsV RX6 30 RX6 yX6_setStride wsX6_setStride) := goodIn_app (goodIn_of _ (by decide +kernel)) ggX6_setPlayer_X6_setStride
theorem dX6_setPlayer_0 : decode cX6_setPlayer 0 = .ok (.aload_n 0, 1) := by decide +kernel
theorem dX6_setPlayer_1 : decode cX6_setPlayer 1 = .ok (.getfield 9, 3) := by decide +kernel
theorem dX6_setPlayer_4 : decode cX6_setPlayer 4 = .ok (.iload_n 1, 1) := by decide +kernel
theorem dX6_setPlayer_5 : decode cX6_setPlayer 5 = .ok (.iload_n 2, 1) := by decide +kernel
theorem dX6_setPlayer_6 : decode cX6_setPlayer 6 = .ok (.iastore, 1) := by decide +kernel
theorem dX6_setPlayer_7 : decode cX6_setPlayer 7 = .ok (.aload_n 0, 1) := by decide +kernel
theorem dX6_setPlayer_8 : decode cX6_setPlayer 8 = .ok (.getfield 15, 3) := by decide +kernel
theorem dX6_setPlayer_11 : decode cX6_setPlayer 11 = .ok (.iload_n 1, 1) := by decide +kernel
theorem dX6_setPlayer_12 : decode cX6_setPlayer 12 = .ok (.iload_n 3, 1) := by decide +kernel
theorem dX6_setPlayer_13 : decode cX6_setPlayer 13 = .ok (.iastore, 1) := by decide +kernel
theorem dX6_setPlayer_14 : decode cX6_setPlayer 14 = .ok (.aload_n 0, 1) := by decide +kernel
theorem dX6_setPlayer_15 : decode cX6_setPlayer 15 = .ok (.iload_n 1, 1) := by decide +kernel
theorem dX6_setPlayer_16 : decode cX6_setPlayer 16 = .ok (.invokevirtual 30, 3) := by decide +kernel
theorem dX6_setPlayer_19 : decode cX6_setPlayer 19 = .ok (.return_, 1) := by decide +kernel
set_option maxRecDepth 20000 in
theorem ggX6_tire_X6_setStride : GoodIn wsX6_tire wsX6_setStride := goodIn_r _ [13, 14, 15, 1, 6, 7, 4, 8, 16, 17, 18, 19] (by decide +kernel) (by decide +kernel)
set_option maxRecDepth 20000 in
theorem gX6_tire_X6_setStride : GoodIn wsX6_tire (wsV RX6 30 RX6 yX6_setStride wsX6_setStride) := goodIn_app (goodIn_of _ (by decide +kernel)) ggX6_tire_X6_setStride
theorem dX6_tire_0 : decode cX6_tire 0 = .ok (.aload_n 0, 1) := by decide +kernel
theorem dX6_tire_1 : decode cX6_tire 1 = .ok (.getfield 18, 3) := by decide +kernel
theorem dX6_tire_4 : decode cX6_tire 4 = .ok (.iload_n 1, 1) := by decide +kernel
theorem dX6_tire_5 : decode cX6_tire 5 = .ok (.iconst 0, 1) := by decide +kernel
theorem dX6_tire_6 : decode cX6_tire 6 = .ok (.bipush 100, 2) := by decide +kernel
theorem dX6_tire_8 : decode cX6_tire 8 = .ok (.aload_n 0, 1) := by decide +kernel
theorem dX6_tire_9 : decode cX6_tire 9 = .ok (.getfield 18, 3) := by decide +kernel
theorem dX6_tire_12 : decode cX6_tire 12 = .ok (.iload_n 1, 1) := by decide +kernel
theorem dX6_tire_13 : decode cX6_tire 13 = .ok (.iaload, 1) := by decide +kernel
theorem dX6_tire_14 : decode cX6_tire 14 = .ok (.iload_n 2, 1) := by decide +kernel
theorem dX6_tire_15 : decode cX6_tire 15 = .ok (.iadd, 1) := by decide +kernel
theorem dX6_tire_16 : decode cX6_tire 16 = .ok (.invokestatic 34, 3) := by decide +kernel
theorem dX6_tire_19 : decode cX6_tire 19 = .ok (.invokestatic 40, 3) := by decide +kernel
theorem dX6_tire_22 : decode cX6_tire 22 = .ok (.iastore, 1) := by decide +kernel
theorem dX6_tire_23 : decode cX6_tire 23 = .ok (.aload_n 0, 1) := by decide +kernel
theorem dX6_tire_24 : decode cX6_tire 24 = .ok (.iload_n 1, 1) := by decide +kernel
theorem dX6_tire_25 : decode cX6_tire 25 = .ok (.invokevirtual 30, 3) := by decide +kernel
theorem dX6_tire_28 : decode cX6_tire 28 = .ok (.aload_n 0, 1) := by decide +kernel
theorem dX6_tire_29 : decode cX6_tire 29 = .ok (.getfield 18, 3) := by decide +kernel
theorem dX6_tire_32 : decode cX6_tire 32 = .ok (.iload_n 1, 1) := by decide +kernel
theorem dX6_tire_33 : decode cX6_tire 33 = .ok (.iaload, 1) := by decide +kernel
theorem dX6_tire_34 : decode cX6_tire 34 = .ok (.ireturn, 1) := by decide +kernel
theorem dX6_tiredOf_0 : decode cX6_tiredOf 0 = .ok (.aload_n 0, 1) := by decide +kernel
theorem dX6_tiredOf_1 : decode cX6_tiredOf 1 = .ok (.getfield 18, 3) := by decide +kernel
theorem dX6_tiredOf_4 : decode cX6_tiredOf 4 = .ok (.iload_n 1, 1) := by decide +kernel
theorem dX6_tiredOf_5 : decode cX6_tiredOf 5 = .ok (.iaload, 1) := by decide +kernel
theorem dX6_tiredOf_6 : decode cX6_tiredOf 6 = .ok (.ireturn, 1) := by decide +kernel
theorem dX6_reachOf_0 : decode cX6_reachOf 0 = .ok (.aload_n 0, 1) := by decide +kernel
theorem dX6_reachOf_1 : decode cX6_reachOf 1 = .ok (.getfield 15, 3) := by decide +kernel
theorem dX6_reachOf_4 : decode cX6_reachOf 4 = .ok (.iload_n 1, 1) := by decide +kernel
theorem dX6_reachOf_5 : decode cX6_reachOf 5 = .ok (.iaload, 1) := by decide +kernel
theorem dX6_reachOf_6 : decode cX6_reachOf 6 = .ok (.ireturn, 1) := by decide +kernel
theorem dX6_strideOf_0 : decode cX6_strideOf 0 = .ok (.aload_n 0, 1) := by decide +kernel
theorem dX6_strideOf_1 : decode cX6_strideOf 1 = .ok (.getfield 21, 3) := by decide +kernel
theorem dX6_strideOf_4 : decode cX6_strideOf 4 = .ok (.iload_n 1, 1) := by decide +kernel
theorem dX6_strideOf_5 : decode cX6_strideOf 5 = .ok (.iaload, 1) := by decide +kernel
theorem dX6_strideOf_6 : decode cX6_strideOf 6 = .ok (.ireturn, 1) := by decide +kernel
theorem dX6_comes_0 : decode cX6_comes 0 = .ok (.iload_n 2, 1) := by decide +kernel
theorem dX6_comes_1 : decode cX6_comes 1 = .ok (.aload_n 0, 1) := by decide +kernel
theorem dX6_comes_2 : decode cX6_comes 2 = .ok (.getfield 21, 3) := by decide +kernel
theorem dX6_comes_5 : decode cX6_comes 5 = .ok (.iload_n 1, 1) := by decide +kernel
theorem dX6_comes_6 : decode cX6_comes 6 = .ok (.iaload, 1) := by decide +kernel
theorem dX6_comes_7 : decode cX6_comes 7 = .ok (.imul, 1) := by decide +kernel
theorem dX6_comes_8 : decode cX6_comes 8 = .ok (.bipush 10, 2) := by decide +kernel
theorem dX6_comes_10 : decode cX6_comes 10 = .ok (.idiv, 1) := by decide +kernel
theorem dX6_comes_11 : decode cX6_comes 11 = .ok (.ireturn, 1) := by decide +kernel
set_option maxRecDepth 20000 in
theorem ggX6_meetingCells_X6_comes : GoodIn wsX6_meetingCells wsX6_comes := goodIn_r _ [6, 7, 26, 27, 28, 29] (by decide +kernel) (by decide +kernel)
set_option maxRecDepth 20000 in
theorem gX6_meetingCells_X6_comes : GoodIn wsX6_meetingCells (wsV RX6 43 RX6 yX6_comes wsX6_comes) := goodIn_app (goodIn_of _ (by decide +kernel)) ggX6_meetingCells_X6_comes
set_option maxRecDepth 20000 in
theorem ggX6_meetingCells_X2_near : GoodIn wsX6_meetingCells wsX2_near := goodIn_r _ [11, 12, 13, 14, 15, 16, 17, 18, 19, 20, 21, 10, 22, 23, 24, 25] (by decide +kernel) (by decide +kernel)
set_option maxRecDepth 20000 in
theorem gX6_meetingCells_X2_near : GoodIn wsX6_meetingCells (va_wsS RX6 46 yX2_near wsX2_near) := goodIn_app (goodIn_of _ (by decide +kernel)) ggX6_meetingCells_X2_near
theorem dX6_meetingCells_0 : decode cX6_meetingCells 0 = .ok (.iload_n 2, 1) := by decide +kernel
theorem dX6_meetingCells_1 : decode cX6_meetingCells 1 = .ok (.aload_n 0, 1) := by decide +kernel
theorem dX6_meetingCells_2 : decode cX6_meetingCells 2 = .ok (.iload_n 1, 1) := by decide +kernel
theorem dX6_meetingCells_3 : decode cX6_meetingCells 3 = .ok (.iload_n 3, 1) := by decide +kernel
theorem dX6_meetingCells_4 : decode cX6_meetingCells 4 = .ok (.invokevirtual 43, 3) := by decide +kernel
theorem dX6_meetingCells_7 : decode cX6_meetingCells 7 = .ok (.aload_n 0, 1) := by decide +kernel
theorem dX6_meetingCells_8 : decode cX6_meetingCells 8 = .ok (.getfield 15, 3) := by decide +kernel
theorem dX6_meetingCells_11 : decode cX6_meetingCells 11 = .ok (.iload_n 1, 1) := by decide +kernel
theorem dX6_meetingCells_12 : decode cX6_meetingCells 12 = .ok (.iaload, 1) := by decide +kernel
theorem dX6_meetingCells_13 : decode cX6_meetingCells 13 = .ok (.iadd, 1) := by decide +kernel
theorem dX6_meetingCells_14 : decode cX6_meetingCells 14 = .ok (.invokestatic 46, 3) := by decide +kernel
theorem dX6_meetingCells_17 : decode cX6_meetingCells 17 = .ok (.ireturn, 1) := by decide +kernel
theorem dX6_setStride_0 : decode cX6_setStride 0 = .ok (.aload_n 0, 1) := by decide +kernel
theorem dX6_setStride_1 : decode cX6_setStride 1 = .ok (.getfield 21, 3) := by decide +kernel
theorem dX6_setStride_4 : decode cX6_setStride 4 = .ok (.iload_n 1, 1) := by decide +kernel
theorem dX6_setStride_5 : decode cX6_setStride 5 = .ok (.iconst 1, 1) := by decide +kernel
theorem dX6_setStride_6 : decode cX6_setStride 6 = .ok (.aload_n 0, 1) := by decide +kernel
theorem dX6_setStride_7 : decode cX6_setStride 7 = .ok (.getfield 9, 3) := by decide +kernel
theorem dX6_setStride_10 : decode cX6_setStride 10 = .ok (.iload_n 1, 1) := by decide +kernel
theorem dX6_setStride_11 : decode cX6_setStride 11 = .ok (.iaload, 1) := by decide +kernel
theorem dX6_setStride_12 : decode cX6_setStride 12 = .ok (.sipush 200, 3) := by decide +kernel
theorem dX6_setStride_15 : decode cX6_setStride 15 = .ok (.aload_n 0, 1) := by decide +kernel
theorem dX6_setStride_16 : decode cX6_setStride 16 = .ok (.getfield 18, 3) := by decide +kernel
theorem dX6_setStride_19 : decode cX6_setStride 19 = .ok (.iload_n 1, 1) := by decide +kernel
theorem dX6_setStride_20 : decode cX6_setStride 20 = .ok (.iaload, 1) := by decide +kernel
theorem dX6_setStride_21 : decode cX6_setStride 21 = .ok (.isub, 1) := by decide +kernel
theorem dX6_setStride_22 : decode cX6_setStride 22 = .ok (.imul, 1) := by decide +kernel
theorem dX6_setStride_23 : decode cX6_setStride 23 = .ok (.sipush 200, 3) := by decide +kernel
theorem dX6_setStride_26 : decode cX6_setStride 26 = .ok (.idiv, 1) := by decide +kernel
theorem dX6_setStride_27 : decode cX6_setStride 27 = .ok (.invokestatic 40, 3) := by decide +kernel
theorem dX6_setStride_30 : decode cX6_setStride 30 = .ok (.iastore, 1) := by decide +kernel
theorem dX6_setStride_31 : decode cX6_setStride 31 = .ok (.return_, 1) := by decide +kernel
theorem dX7_init_0 : decode cX7_init 0 = .ok (.aload_n 0, 1) := by decide +kernel
theorem dX7_init_1 : decode cX7_init 1 = .ok (.invokespecial 3, 3) := by decide +kernel
theorem dX7_init_4 : decode cX7_init 4 = .ok (.aload_n 0, 1) := by decide +kernel
theorem dX7_init_5 : decode cX7_init 5 = .ok (.iconst 3, 1) := by decide +kernel
theorem dX7_init_6 : decode cX7_init 6 = .ok (.newarray .int, 2) := by decide +kernel
theorem dX7_init_8 : decode cX7_init 8 = .ok (.putfield 11, 3) := by decide +kernel
theorem dX7_init_11 : decode cX7_init 11 = .ok (.aload_n 0, 1) := by decide +kernel
theorem dX7_init_12 : decode cX7_init 12 = .ok (.iconst 0, 1) := by decide +kernel
theorem dX7_init_13 : decode cX7_init 13 = .ok (.putfield 15, 3) := by decide +kernel
theorem dX7_init_16 : decode cX7_init 16 = .ok (.return_, 1) := by decide +kernel
set_option maxRecDepth 20000 in
theorem ggX7_isOver_X7_aloneNow : GoodIn wsX7_isOver wsX7_aloneNow := goodIn_r _ [6, 1, 7, 8] (by decide +kernel) (by decide +kernel)
set_option maxRecDepth 20000 in
theorem gX7_isOver_X7_aloneNow : GoodIn wsX7_isOver (wsV RX7 19 RX7 yX7_aloneNow wsX7_aloneNow) := goodIn_app (goodIn_of _ (by decide +kernel)) ggX7_isOver_X7_aloneNow
theorem dX7_isOver_0 : decode cX7_isOver 0 = .ok (.aload_n 0, 1) := by decide +kernel
theorem dX7_isOver_1 : decode cX7_isOver 1 = .ok (.getfield 11, 3) := by decide +kernel
theorem dX7_isOver_4 : decode cX7_isOver 4 = .ok (.aload_n 0, 1) := by decide +kernel
theorem dX7_isOver_5 : decode cX7_isOver 5 = .ok (.invokevirtual 19, 3) := by decide +kernel
theorem dX7_isOver_8 : decode cX7_isOver 8 = .ok (.iaload, 1) := by decide +kernel
theorem dX7_isOver_9 : decode cX7_isOver 9 = .ok (.bipush 15, 2) := by decide +kernel
theorem dX7_isOver_11 : decode cX7_isOver 11 = .ok (.if_icmp .lt 7, 3) := by decide +kernel
theorem dX7_isOver_14 : decode cX7_isOver 14 = .ok (.iconst 1, 1) := by decide +kernel
theorem dX7_isOver_15 : decode cX7_isOver 15 = .ok (.goto 4, 3) := by decide +kernel
theorem dX7_isOver_18 : decode cX7_isOver 18 = .ok (.iconst 0, 1) := by decide +kernel
theorem dX7_isOver_19 : decode cX7_isOver 19 = .ok (.ireturn, 1) := by decide +kernel
set_option maxRecDepth 20000 in
theorem ggX7_tell_X7_aloneNow : GoodIn wsX7_tell wsX7_aloneNow := goodIn_r _ [7, 1, 8, 9] (by decide +kernel) (by decide +kernel)
set_option maxRecDepth 20000 in
theorem gX7_tell_X7_aloneNow : GoodIn wsX7_tell (wsV RX7 19 RX7 yX7_aloneNow wsX7_aloneNow) := goodIn_app (goodIn_of _ (by decide +kernel)) ggX7_tell_X7_aloneNow
theorem dX7_tell_0 : decode cX7_tell 0 = .ok (.aload_n 0, 1) := by decide +kernel
theorem dX7_tell_1 : decode cX7_tell 1 = .ok (.invokevirtual 19, 3) := by decide +kernel
theorem dX7_tell_4 : decode cX7_tell 4 = .ok (.istore_n 2, 1) := by decide +kernel
theorem dX7_tell_5 : decode cX7_tell 5 = .ok (.iload_n 1, 1) := by decide +kernel
theorem dX7_tell_6 : decode cX7_tell 6 = .ok (.ifCond .ne 21, 3) := by decide +kernel
theorem dX7_tell_9 : decode cX7_tell 9 = .ok (.aload_n 0, 1) := by decide +kernel
theorem dX7_tell_10 : decode cX7_tell 10 = .ok (.getfield 11, 3) := by decide +kernel
theorem dX7_tell_13 : decode cX7_tell 13 = .ok (.iload_n 2, 1) := by decide +kernel
theorem dX7_tell_14 : decode cX7_tell 14 = .ok (.dup2, 1) := by decide +kernel
theorem dX7_tell_15 : decode cX7_tell 15 = .ok (.iaload, 1) := by decide +kernel
theorem dX7_tell_16 : decode cX7_tell 16 = .ok (.iconst 1, 1) := by decide +kernel
theorem dX7_tell_17 : decode cX7_tell 17 = .ok (.iadd, 1) := by decide +kernel
theorem dX7_tell_18 : decode cX7_tell 18 = .ok (.iastore, 1) := by decide +kernel
theorem dX7_tell_19 : decode cX7_tell 19 = .ok (.aload_n 0, 1) := by decide +kernel
theorem dX7_tell_20 : decode cX7_tell 20 = .ok (.iload_n 2, 1) := by decide +kernel
theorem dX7_tell_21 : decode cX7_tell 21 = .ok (.putfield 15, 3) := by decide +kernel
theorem dX7_tell_24 : decode cX7_tell 24 = .ok (.goto 77, 3) := by decide +kernel
theorem dX7_tell_27 : decode cX7_tell 27 = .ok (.iload_n 1, 1) := by decide +kernel
theorem dX7_tell_28 : decode cX7_tell 28 = .ok (.iconst 1, 1) := by decide +kernel
theorem dX7_tell_29 : decode cX7_tell 29 = .ok (.if_icmp .ne 72, 3) := by decide +kernel
theorem dX7_tell_32 : decode cX7_tell 32 = .ok (.iload_n 2, 1) := by decide +kernel
theorem dX7_tell_33 : decode cX7_tell 33 = .ok (.ifCond .ne 7, 3) := by decide +kernel
theorem dX7_tell_36 : decode cX7_tell 36 = .ok (.iconst 1, 1) := by decide +kernel
theorem dX7_tell_37 : decode cX7_tell 37 = .ok (.goto 4, 3) := by decide +kernel
theorem dX7_tell_40 : decode cX7_tell 40 = .ok (.iconst 0, 1) := by decide +kernel
theorem dX7_tell_41 : decode cX7_tell 41 = .ok (.istore_n 3, 1) := by decide +kernel
theorem dX7_tell_42 : decode cX7_tell 42 = .ok (.iload_n 2, 1) := by decide +kernel
theorem dX7_tell_43 : decode cX7_tell 43 = .ok (.iconst 2, 1) := by decide +kernel
theorem dX7_tell_44 : decode cX7_tell 44 = .ok (.if_icmp .ne 7, 3) := by decide +kernel
theorem dX7_tell_47 : decode cX7_tell 47 = .ok (.iconst 1, 1) := by decide +kernel
theorem dX7_tell_48 : decode cX7_tell 48 = .ok (.goto 4, 3) := by decide +kernel
theorem dX7_tell_51 : decode cX7_tell 51 = .ok (.iconst 2, 1) := by decide +kernel
theorem dX7_tell_52 : decode cX7_tell 52 = .ok (.istore 4, 2) := by decide +kernel
theorem dX7_tell_54 : decode cX7_tell 54 = .ok (.aload_n 0, 1) := by decide +kernel
theorem dX7_tell_55 : decode cX7_tell 55 = .ok (.getfield 11, 3) := by decide +kernel
theorem dX7_tell_58 : decode cX7_tell 58 = .ok (.iload_n 3, 1) := by decide +kernel
theorem dX7_tell_59 : decode cX7_tell 59 = .ok (.dup2, 1) := by decide +kernel
theorem dX7_tell_60 : decode cX7_tell 60 = .ok (.iaload, 1) := by decide +kernel
theorem dX7_tell_61 : decode cX7_tell 61 = .ok (.iconst 1, 1) := by decide +kernel
theorem dX7_tell_62 : decode cX7_tell 62 = .ok (.iadd, 1) := by decide +kernel
theorem dX7_tell_63 : decode cX7_tell 63 = .ok (.iastore, 1) := by decide +kernel
theorem dX7_tell_64 : decode cX7_tell 64 = .ok (.aload_n 0, 1) := by decide +kernel
theorem dX7_tell_65 : decode cX7_tell 65 = .ok (.getfield 11, 3) := by decide +kernel
theorem dX7_tell_68 : decode cX7_tell 68 = .ok (.iload 4, 2) := by decide +kernel
theorem dX7_tell_70 : decode cX7_tell 70 = .ok (.dup2, 1) := by decide +kernel
theorem dX7_tell_71 : decode cX7_tell 71 = .ok (.iaload, 1) := by decide +kernel
theorem dX7_tell_72 : decode cX7_tell 72 = .ok (.iconst 1, 1) := by decide +kernel
theorem dX7_tell_73 : decode cX7_tell 73 = .ok (.iadd, 1) := by decide +kernel
theorem dX7_tell_74 : decode cX7_tell 74 = .ok (.iastore, 1) := by decide +kernel
theorem dX7_tell_75 : decode cX7_tell 75 = .ok (.aload_n 0, 1) := by decide +kernel
theorem dX7_tell_76 : decode cX7_tell 76 = .ok (.aload_n 0, 1) := by decide +kernel
theorem dX7_tell_77 : decode cX7_tell 77 = .ok (.getfield 11, 3) := by decide +kernel
theorem dX7_tell_80 : decode cX7_tell 80 = .ok (.iload 4, 2) := by decide +kernel
theorem dX7_tell_82 : decode cX7_tell 82 = .ok (.iaload, 1) := by decide +kernel
theorem dX7_tell_83 : decode cX7_tell 83 = .ok (.aload_n 0, 1) := by decide +kernel
theorem dX7_tell_84 : decode cX7_tell 84 = .ok (.getfield 11, 3) := by decide +kernel
theorem dX7_tell_87 : decode cX7_tell 87 = .ok (.iload_n 3, 1) := by decide +kernel
theorem dX7_tell_88 : decode cX7_tell 88 = .ok (.iaload, 1) := by decide +kernel
theorem dX7_tell_89 : decode cX7_tell 89 = .ok (.if_icmp .ge 8, 3) := by decide +kernel
theorem dX7_tell_92 : decode cX7_tell 92 = .ok (.iload 4, 2) := by decide +kernel
theorem dX7_tell_94 : decode cX7_tell 94 = .ok (.goto 4, 3) := by decide +kernel
theorem dX7_tell_97 : decode cX7_tell 97 = .ok (.iload_n 3, 1) := by decide +kernel
theorem dX7_tell_98 : decode cX7_tell 98 = .ok (.putfield 15, 3) := by decide +kernel
theorem dX7_tell_101 : decode cX7_tell 101 = .ok (.aload_n 0, 1) := by decide +kernel
theorem dX7_tell_102 : decode cX7_tell 102 = .ok (.getfield 15, 3) := by decide +kernel
theorem dX7_tell_105 : decode cX7_tell 105 = .ok (.ireturn, 1) := by decide +kernel
set_option maxRecDepth 20000 in
theorem ggX7_read_X7_aloneNow : GoodIn wsX7_read wsX7_aloneNow := goodIn_r _ [7, 2, 12, 13] (by decide +kernel) (by decide +kernel)
set_option maxRecDepth 20000 in
theorem gX7_read_X7_aloneNow : GoodIn wsX7_read (wsV RX7 19 RX7 yX7_aloneNow wsX7_aloneNow) := goodIn_app (goodIn_of _ (by decide +kernel)) ggX7_read_X7_aloneNow
set_option maxRecDepth 20000 in
theorem ggX7_read_X7_isOver : GoodIn wsX7_read wsX7_isOver := goodIn_r _ [11, 2, 3, 4, 5, 6, 7, 12, 13] (by decide +kernel) (by decide +kernel)
set_option maxRecDepth 20000 in
theorem gX7_read_X7_isOver : GoodIn wsX7_read (wsV RX7 23 RX7 yX7_isOver wsX7_isOver) := goodIn_app (goodIn_of _ (by decide +kernel)) ggX7_read_X7_isOver
theorem dX7_read_0 : decode cX7_read 0 = .ok (.iload_n 1, 1) := by decide +kernel
theorem dX7_read_1 : decode cX7_read 1 = .ok (.tableswitch 50 3 5 #[27, 32, 37], 27) := by decide +kernel
theorem dX7_read_28 : decode cX7_read 28 = .ok (.aload_n 0, 1) := by decide +kernel
theorem dX7_read_29 : decode cX7_read 29 = .ok (.invokevirtual 19, 3) := by decide +kernel
theorem dX7_read_32 : decode cX7_read 32 = .ok (.ireturn, 1) := by decide +kernel
theorem dX7_read_33 : decode cX7_read 33 = .ok (.aload_n 0, 1) := by decide +kernel
theorem dX7_read_34 : decode cX7_read 34 = .ok (.getfield 15, 3) := by decide +kernel
theorem dX7_read_37 : decode cX7_read 37 = .ok (.ireturn, 1) := by decide +kernel
theorem dX7_read_38 : decode cX7_read 38 = .ok (.aload_n 0, 1) := by decide +kernel
theorem dX7_read_39 : decode cX7_read 39 = .ok (.invokevirtual 23, 3) := by decide +kernel
theorem dX7_read_42 : decode cX7_read 42 = .ok (.ifCond .eq 7, 3) := by decide +kernel
theorem dX7_read_45 : decode cX7_read 45 = .ok (.iconst 1, 1) := by decide +kernel
theorem dX7_read_46 : decode cX7_read 46 = .ok (.goto 4, 3) := by decide +kernel
theorem dX7_read_49 : decode cX7_read 49 = .ok (.iconst 0, 1) := by decide +kernel
theorem dX7_read_50 : decode cX7_read 50 = .ok (.ireturn, 1) := by decide +kernel
theorem dX7_read_51 : decode cX7_read 51 = .ok (.iload_n 1, 1) := by decide +kernel
theorem dX7_read_52 : decode cX7_read 52 = .ok (.ifCond .lt 17, 3) := by decide +kernel
theorem dX7_read_55 : decode cX7_read 55 = .ok (.iload_n 1, 1) := by decide +kernel
theorem dX7_read_56 : decode cX7_read 56 = .ok (.iconst 3, 1) := by decide +kernel
theorem dX7_read_57 : decode cX7_read 57 = .ok (.if_icmp .ge 12, 3) := by decide +kernel
theorem dX7_read_60 : decode cX7_read 60 = .ok (.aload_n 0, 1) := by decide +kernel
theorem dX7_read_61 : decode cX7_read 61 = .ok (.getfield 11, 3) := by decide +kernel
theorem dX7_read_64 : decode cX7_read 64 = .ok (.iload_n 1, 1) := by decide +kernel
theorem dX7_read_65 : decode cX7_read 65 = .ok (.iaload, 1) := by decide +kernel
theorem dX7_read_66 : decode cX7_read 66 = .ok (.goto 5, 3) := by decide +kernel
theorem dX7_read_69 : decode cX7_read 69 = .ok (.bipush (-3), 2) := by decide +kernel
theorem dX7_read_71 : decode cX7_read 71 = .ok (.ireturn, 1) := by decide +kernel
theorem dX7_restart_0 : decode cX7_restart 0 = .ok (.iconst 0, 1) := by decide +kernel
theorem dX7_restart_1 : decode cX7_restart 1 = .ok (.istore_n 1, 1) := by decide +kernel
theorem dX7_restart_2 : decode cX7_restart 2 = .ok (.iconst 0, 1) := by decide +kernel
theorem dX7_restart_3 : decode cX7_restart 3 = .ok (.istore_n 2, 1) := by decide +kernel
theorem dX7_restart_4 : decode cX7_restart 4 = .ok (.iload_n 2, 1) := by decide +kernel
theorem dX7_restart_5 : decode cX7_restart 5 = .ok (.iconst 3, 1) := by decide +kernel
theorem dX7_restart_6 : decode cX7_restart 6 = .ok (.if_icmp .ge 25, 3) := by decide +kernel
theorem dX7_restart_9 : decode cX7_restart 9 = .ok (.iload_n 1, 1) := by decide +kernel
theorem dX7_restart_10 : decode cX7_restart 10 = .ok (.aload_n 0, 1) := by decide +kernel
theorem dX7_restart_11 : decode cX7_restart 11 = .ok (.getfield 11, 3) := by decide +kernel
theorem dX7_restart_14 : decode cX7_restart 14 = .ok (.iload_n 2, 1) := by decide +kernel
theorem dX7_restart_15 : decode cX7_restart 15 = .ok (.iaload, 1) := by decide +kernel
theorem dX7_restart_16 : decode cX7_restart 16 = .ok (.iadd, 1) := by decide +kernel
theorem dX7_restart_17 : decode cX7_restart 17 = .ok (.istore_n 1, 1) := by decide +kernel
theorem dX7_restart_18 : decode cX7_restart 18 = .ok (.aload_n 0, 1) := by decide +kernel
theorem dX7_restart_19 : decode cX7_restart 19 = .ok (.getfield 11, 3) := by decide +kernel
theorem dX7_restart_22 : decode cX7_restart 22 = .ok (.iload_n 2, 1) := by decide +kernel
theorem dX7_restart_23 : decode cX7_restart 23 = .ok (.iconst 0, 1) := by decide +kernel
theorem dX7_restart_24 : decode cX7_restart 24 = .ok (.iastore, 1) := by decide +kernel
theorem dX7_restart_25 : decode cX7_restart 25 = .ok (.iinc 2 1, 3) := by decide +kernel
theorem dX7_restart_28 : decode cX7_restart 28 = .ok (.goto (-24), 3) := by decide +kernel
theorem dX7_restart_31 : decode cX7_restart 31 = .ok (.aload_n 0, 1) := by decide +kernel
theorem dX7_restart_32 : decode cX7_restart 32 = .ok (.iconst 0, 1) := by decide +kernel
theorem dX7_restart_33 : decode cX7_restart 33 = .ok (.putfield 15, 3) := by decide +kernel
theorem dX7_restart_36 : decode cX7_restart 36 = .ok (.iload_n 1, 1) := by decide +kernel
theorem dX7_restart_37 : decode cX7_restart 37 = .ok (.ireturn, 1) := by decide +kernel
theorem dX7_aloneNow_0 : decode cX7_aloneNow 0 = .ok (.iconst 0, 1) := by decide +kernel
theorem dX7_aloneNow_1 : decode cX7_aloneNow 1 = .ok (.istore_n 1, 1) := by decide +kernel
theorem dX7_aloneNow_2 : decode cX7_aloneNow 2 = .ok (.iconst 1, 1) := by decide +kernel
theorem dX7_aloneNow_3 : decode cX7_aloneNow 3 = .ok (.istore_n 2, 1) := by decide +kernel
theorem dX7_aloneNow_4 : decode cX7_aloneNow 4 = .ok (.iload_n 2, 1) := by decide +kernel
theorem dX7_aloneNow_5 : decode cX7_aloneNow 5 = .ok (.iconst 3, 1) := by decide +kernel
theorem dX7_aloneNow_6 : decode cX7_aloneNow 6 = .ok (.if_icmp .ge 26, 3) := by decide +kernel
theorem dX7_aloneNow_9 : decode cX7_aloneNow 9 = .ok (.aload_n 0, 1) := by decide +kernel
theorem dX7_aloneNow_10 : decode cX7_aloneNow 10 = .ok (.getfield 11, 3) := by decide +kernel
theorem dX7_aloneNow_13 : decode cX7_aloneNow 13 = .ok (.iload_n 2, 1) := by decide +kernel
theorem dX7_aloneNow_14 : decode cX7_aloneNow 14 = .ok (.iaload, 1) := by decide +kernel
theorem dX7_aloneNow_15 : decode cX7_aloneNow 15 = .ok (.aload_n 0, 1) := by decide +kernel
theorem dX7_aloneNow_16 : decode cX7_aloneNow 16 = .ok (.getfield 11, 3) := by decide +kernel
theorem dX7_aloneNow_19 : decode cX7_aloneNow 19 = .ok (.iload_n 1, 1) := by decide +kernel
theorem dX7_aloneNow_20 : decode cX7_aloneNow 20 = .ok (.iaload, 1) := by decide +kernel
theorem dX7_aloneNow_21 : decode cX7_aloneNow 21 = .ok (.if_icmp .le 5, 3) := by decide +kernel
theorem dX7_aloneNow_24 : decode cX7_aloneNow 24 = .ok (.iload_n 2, 1) := by decide +kernel
theorem dX7_aloneNow_25 : decode cX7_aloneNow 25 = .ok (.istore_n 1, 1) := by decide +kernel
theorem dX7_aloneNow_26 : decode cX7_aloneNow 26 = .ok (.iinc 2 1, 3) := by decide +kernel
theorem dX7_aloneNow_29 : decode cX7_aloneNow 29 = .ok (.goto (-25), 3) := by decide +kernel
theorem dX7_aloneNow_32 : decode cX7_aloneNow 32 = .ok (.iload_n 1, 1) := by decide +kernel
theorem dX7_aloneNow_33 : decode cX7_aloneNow 33 = .ok (.ireturn, 1) := by decide +kernel
abbrev vwCl : List vw_C := [(RX0, TX0, 5), (RX1, TX1, 6), (RX3, TX3, 4), (RX4, TX4, 14), (RX5, TX5, 5), (RX6, TX6, 4), (RX7, TX7, 2), (RX8, TX8, 7), (RX9, TX9, 38)]
end
section
set_option maxRecDepth 20000 in
theorem ggX8_init_X0_init : GoodIn wsX8_init wsX0_init := goodIn_r _ [33, 34, 2, 3, 35, 36, 37, 38, 39, 40, 41, 102, 103, 104, 105, 106] (by decide +kernel) (by decide +kernel)
set_option maxRecDepth 20000 in
theorem gX8_init_X0_init_n9 : GoodIn wsX8_init (wsX0_init) := ggX8_init_X0_init
set_option maxRecDepth 20000 in
theorem ggX8_init_X6_init : GoodIn wsX8_init wsX6_init := goodIn_r _ [44, 45, 2, 3, 35, 46, 47, 48, 49, 50, 51, 52, 53, 114, 115, 116, 117] (by decide +kernel) (by decide +kernel)
set_option maxRecDepth 20000 in
theorem gX8_init_X6_init : GoodIn wsX8_init (wsX6_init) := ggX8_init_X6_init
set_option maxRecDepth 20000 in
theorem ggX8_init_X3_init : GoodIn wsX8_init wsX3_init := goodIn_r _ [56, 57, 2, 3, 35, 58, 59, 60, 61, 118, 119, 120, 121] (by decide +kernel) (by decide +kernel)
set_option maxRecDepth 20000 in
theorem gX8_init_X3_init : GoodIn wsX8_init (wsX3_init) := ggX8_init_X3_init
set_option maxRecDepth 20000 in
theorem ggX8_init_X7_init : GoodIn wsX8_init wsX7_init := goodIn_r _ [63, 64, 2, 3, 35, 65, 66, 122, 123] (by decide +kernel) (by decide +kernel)
set_option maxRecDepth 20000 in
theorem gX8_init_X7_init_n34 : GoodIn wsX8_init (wsX7_init) := ggX8_init_X7_init
set_option maxRecDepth 20000 in
theorem ggX8_init_X5_init : GoodIn wsX8_init wsX5_init := goodIn_r _ [68, 69, 2, 3, 35, 70, 71, 72, 73, 74, 124, 125, 126, 127, 128] (by decide +kernel) (by decide +kernel)
set_option maxRecDepth 20000 in
theorem gX8_init_X5_init_n41 : GoodIn wsX8_init (wsX5_init) := ggX8_init_X5_init
set_option maxRecDepth 20000 in
theorem ggX8_init_X1_init : GoodIn wsX8_init wsX1_init := goodIn_r _ [76, 77, 2, 3, 35, 78, 79, 80, 81, 82, 83, 129, 130, 131, 132, 133, 134] (by decide +kernel) (by decide +kernel)
set_option maxRecDepth 20000 in
theorem gX8_init_X1_init_n48 : GoodIn wsX8_init (wsX1_init) := ggX8_init_X1_init
set_option maxRecDepth 20000 in
theorem ggX8_init_X4_init : GoodIn wsX8_init wsX4_init := goodIn_r _ [85, 86, 2, 3, 87, 88, 35, 89, 90, 91, 92, 93, 94, 95, 96, 97, 98, 99, 100, 101, 135, 136, 137, 138, 139, 140, 141, 142, 143, 144, 145, 146, 147, 148] (by decide +kernel) (by decide +kernel)
set_option maxRecDepth 20000 in
theorem gX8_init_X4_init_n55 : GoodIn wsX8_init (wsX4_init) := ggX8_init_X4_init
theorem dX8_init_0 : decode cX8_init 0 = .ok (.aload_n 0, 1) := by decide +kernel
theorem dX8_init_1 : decode cX8_init 1 = .ok (.invokespecial 1, 3) := by decide +kernel
theorem dX8_init_4 : decode cX8_init 4 = .ok (.aload_n 0, 1) := by decide +kernel
theorem dX8_init_5 : decode cX8_init 5 = .ok (.new 7, 3) := by decide +kernel
theorem dX8_init_8 : decode cX8_init 8 = .ok (.dup, 1) := by decide +kernel
theorem dX8_init_9 : decode cX8_init 9 = .ok (.invokespecial 9, 3) := by decide +kernel
theorem dX8_init_12 : decode cX8_init 12 = .ok (.putfield 10, 3) := by decide +kernel
theorem dX8_init_15 : decode cX8_init 15 = .ok (.aload_n 0, 1) := by decide +kernel
theorem dX8_init_16 : decode cX8_init 16 = .ok (.new 16, 3) := by decide +kernel
theorem dX8_init_19 : decode cX8_init 19 = .ok (.dup, 1) := by decide +kernel
theorem dX8_init_20 : decode cX8_init 20 = .ok (.invokespecial 18, 3) := by decide +kernel
theorem dX8_init_23 : decode cX8_init 23 = .ok (.putfield 19, 3) := by decide +kernel
theorem dX8_init_26 : decode cX8_init 26 = .ok (.aload_n 0, 1) := by decide +kernel
theorem dX8_init_27 : decode cX8_init 27 = .ok (.new 23, 3) := by decide +kernel
theorem dX8_init_30 : decode cX8_init 30 = .ok (.dup, 1) := by decide +kernel
theorem dX8_init_31 : decode cX8_init 31 = .ok (.aload_n 0, 1) := by decide +kernel
theorem dX8_init_32 : decode cX8_init 32 = .ok (.getfield 10, 3) := by decide +kernel
theorem dX8_init_35 : decode cX8_init 35 = .ok (.aload_n 0, 1) := by decide +kernel
theorem dX8_init_36 : decode cX8_init 36 = .ok (.getfield 19, 3) := by decide +kernel
theorem dX8_init_39 : decode cX8_init 39 = .ok (.invokespecial 25, 3) := by decide +kernel
theorem dX8_init_42 : decode cX8_init 42 = .ok (.putfield 28, 3) := by decide +kernel
theorem dX8_init_45 : decode cX8_init 45 = .ok (.aload_n 0, 1) := by decide +kernel
theorem dX8_init_46 : decode cX8_init 46 = .ok (.new 32, 3) := by decide +kernel
theorem dX8_init_49 : decode cX8_init 49 = .ok (.dup, 1) := by decide +kernel
theorem dX8_init_50 : decode cX8_init 50 = .ok (.invokespecial 34, 3) := by decide +kernel
theorem dX8_init_53 : decode cX8_init 53 = .ok (.putfield 35, 3) := by decide +kernel
theorem dX8_init_56 : decode cX8_init 56 = .ok (.aload_n 0, 1) := by decide +kernel
theorem dX8_init_57 : decode cX8_init 57 = .ok (.new 39, 3) := by decide +kernel
theorem dX8_init_60 : decode cX8_init 60 = .ok (.dup, 1) := by decide +kernel
theorem dX8_init_61 : decode cX8_init 61 = .ok (.invokespecial 41, 3) := by decide +kernel
theorem dX8_init_64 : decode cX8_init 64 = .ok (.putfield 42, 3) := by decide +kernel
theorem dX8_init_67 : decode cX8_init 67 = .ok (.aload_n 0, 1) := by decide +kernel
theorem dX8_init_68 : decode cX8_init 68 = .ok (.new 46, 3) := by decide +kernel
theorem dX8_init_71 : decode cX8_init 71 = .ok (.dup, 1) := by decide +kernel
theorem dX8_init_72 : decode cX8_init 72 = .ok (.invokespecial 48, 3) := by decide +kernel
theorem dX8_init_75 : decode cX8_init 75 = .ok (.putfield 49, 3) := by decide +kernel
theorem dX8_init_78 : decode cX8_init 78 = .ok (.aload_n 0, 1) := by decide +kernel
theorem dX8_init_79 : decode cX8_init 79 = .ok (.new 53, 3) := by decide +kernel
theorem dX8_init_82 : decode cX8_init 82 = .ok (.dup, 1) := by decide +kernel
theorem dX8_init_83 : decode cX8_init 83 = .ok (.invokespecial 55, 3) := by decide +kernel
theorem dX8_init_86 : decode cX8_init 86 = .ok (.putfield 56, 3) := by decide +kernel
theorem dX8_init_89 : decode cX8_init 89 = .ok (.return_, 1) := by decide +kernel
set_option maxRecDepth 20000 in
theorem ggX8_kind_X8_isKind : GoodIn wsX8_kind wsX8_isKind := goodIn_r _ [5, 6, 7, 4, 8] (by decide +kernel) (by decide +kernel)
set_option maxRecDepth 20000 in
theorem gX8_kind_X8_isKind : GoodIn wsX8_kind (va_wsS RX8 60 yX8_isKind wsX8_isKind) := goodIn_app (goodIn_of _ (by decide +kernel)) ggX8_kind_X8_isKind
set_option maxRecDepth 20000 in
theorem ggX8_kind_X8_isWithin : GoodIn wsX8_kind wsX8_isWithin := goodIn_r _ [8] (by decide +kernel) (by decide +kernel)
set_option maxRecDepth 20000 in
theorem gX8_kind_X8_isWithin : GoodIn wsX8_kind (va_wsS RX8 64 yX8_isWithin wsX8_isWithin) := goodIn_app (goodIn_of _ (by decide +kernel)) ggX8_kind_X8_isWithin
set_option maxRecDepth 20000 in
theorem ggX8_kind_X0_setKind : GoodIn wsX8_kind wsX0_setKind := goodIn_r _ [13, 14, 15, 16, 17, 25, 26, 27, 28, 29] (by decide +kernel) (by decide +kernel)
set_option maxRecDepth 20000 in
theorem gX8_kind_X0_setKind : GoodIn wsX8_kind (wsV RX8 68 RX0 yX0_setKind wsX0_setKind) := goodIn_app (goodIn_of _ (by decide +kernel)) ggX8_kind_X0_setKind
theorem dX8_kind_0 : decode cX8_kind 0 = .ok (.iload_n 1, 1) := by decide +kernel
theorem dX8_kind_1 : decode cX8_kind 1 = .ok (.invokestatic 60, 3) := by decide +kernel
theorem dX8_kind_4 : decode cX8_kind 4 = .ok (.ifCond .ne 6, 3) := by decide +kernel
theorem dX8_kind_7 : decode cX8_kind 7 = .ok (.bipush (-2), 2) := by decide +kernel
theorem dX8_kind_9 : decode cX8_kind 9 = .ok (.ireturn, 1) := by decide +kernel
theorem dX8_kind_10 : decode cX8_kind 10 = .ok (.iload_n 2, 1) := by decide +kernel
theorem dX8_kind_11 : decode cX8_kind 11 = .ok (.bipush 10, 2) := by decide +kernel
theorem dX8_kind_13 : decode cX8_kind 13 = .ok (.bipush 60, 2) := by decide +kernel
theorem dX8_kind_15 : decode cX8_kind 15 = .ok (.invokestatic 64, 3) := by decide +kernel
theorem dX8_kind_18 : decode cX8_kind 18 = .ok (.ifCond .eq 24, 3) := by decide +kernel
theorem dX8_kind_21 : decode cX8_kind 21 = .ok (.iload_n 3, 1) := by decide +kernel
theorem dX8_kind_22 : decode cX8_kind 22 = .ok (.iconst 0, 1) := by decide +kernel
theorem dX8_kind_23 : decode cX8_kind 23 = .ok (.bipush 60, 2) := by decide +kernel
theorem dX8_kind_25 : decode cX8_kind 25 = .ok (.invokestatic 64, 3) := by decide +kernel
theorem dX8_kind_28 : decode cX8_kind 28 = .ok (.ifCond .eq 14, 3) := by decide +kernel
theorem dX8_kind_31 : decode cX8_kind 31 = .ok (.iload 4, 2) := by decide +kernel
theorem dX8_kind_33 : decode cX8_kind 33 = .ok (.iconst 1, 1) := by decide +kernel
theorem dX8_kind_34 : decode cX8_kind 34 = .ok (.bipush 6, 2) := by decide +kernel
theorem dX8_kind_36 : decode cX8_kind 36 = .ok (.invokestatic 64, 3) := by decide +kernel
theorem dX8_kind_39 : decode cX8_kind 39 = .ok (.ifCond .ne 6, 3) := by decide +kernel
theorem dX8_kind_42 : decode cX8_kind 42 = .ok (.bipush (-3), 2) := by decide +kernel
theorem dX8_kind_44 : decode cX8_kind 44 = .ok (.ireturn, 1) := by decide +kernel
theorem dX8_kind_45 : decode cX8_kind 45 = .ok (.aload_n 0, 1) := by decide +kernel
theorem dX8_kind_46 : decode cX8_kind 46 = .ok (.getfield 10, 3) := by decide +kernel
theorem dX8_kind_49 : decode cX8_kind 49 = .ok (.iload_n 1, 1) := by decide +kernel
theorem dX8_kind_50 : decode cX8_kind 50 = .ok (.iload_n 2, 1) := by decide +kernel
theorem dX8_kind_51 : decode cX8_kind 51 = .ok (.iload_n 3, 1) := by decide +kernel
theorem dX8_kind_52 : decode cX8_kind 52 = .ok (.iload 4, 2) := by decide +kernel
theorem dX8_kind_54 : decode cX8_kind 54 = .ok (.invokevirtual 68, 3) := by decide +kernel
theorem dX8_kind_57 : decode cX8_kind 57 = .ok (.iconst 1, 1) := by decide +kernel
theorem dX8_kind_58 : decode cX8_kind 58 = .ok (.ireturn, 1) := by decide +kernel
set_option maxRecDepth 20000 in
theorem ggX8_broken_X8_isWithin : GoodIn wsX8_broken wsX8_isWithin := goodIn_r _ [5] (by decide +kernel) (by decide +kernel)
set_option maxRecDepth 20000 in
theorem gX8_broken_X8_isWithin : GoodIn wsX8_broken (va_wsS RX8 64 yX8_isWithin wsX8_isWithin) := goodIn_app (goodIn_of _ (by decide +kernel)) ggX8_broken_X8_isWithin
set_option maxRecDepth 20000 in
theorem ggX8_broken_X0_setBroken : GoodIn wsX8_broken wsX0_setBroken := goodIn_r _ [10, 11, 12, 13, 14, 15, 16, 24, 25, 26, 27, 28] (by decide +kernel) (by decide +kernel)
set_option maxRecDepth 20000 in
theorem gX8_broken_X0_setBroken : GoodIn wsX8_broken (wsV RX8 72 RX0 yX0_setBroken wsX0_setBroken) := goodIn_app (goodIn_of _ (by decide +kernel)) ggX8_broken_X0_setBroken
theorem dX8_broken_0 : decode cX8_broken 0 = .ok (.iload_n 1, 1) := by decide +kernel
theorem dX8_broken_1 : decode cX8_broken 1 = .ok (.iconst 0, 1) := by decide +kernel
theorem dX8_broken_2 : decode cX8_broken 2 = .ok (.bipush 8, 2) := by decide +kernel
theorem dX8_broken_4 : decode cX8_broken 4 = .ok (.invokestatic 64, 3) := by decide +kernel
theorem dX8_broken_7 : decode cX8_broken 7 = .ok (.ifCond .ne 6, 3) := by decide +kernel
theorem dX8_broken_10 : decode cX8_broken 10 = .ok (.bipush (-3), 2) := by decide +kernel
theorem dX8_broken_12 : decode cX8_broken 12 = .ok (.ireturn, 1) := by decide +kernel
theorem dX8_broken_13 : decode cX8_broken 13 = .ok (.aload_n 0, 1) := by decide +kernel
theorem dX8_broken_14 : decode cX8_broken 14 = .ok (.getfield 10, 3) := by decide +kernel
theorem dX8_broken_17 : decode cX8_broken 17 = .ok (.iload_n 1, 1) := by decide +kernel
theorem dX8_broken_18 : decode cX8_broken 18 = .ok (.invokevirtual 72, 3) := by decide +kernel
theorem dX8_broken_21 : decode cX8_broken 21 = .ok (.ireturn, 1) := by decide +kernel
set_option maxRecDepth 20000 in
theorem ggX8_flight_X8_isKind : GoodIn wsX8_flight wsX8_isKind := goodIn_r _ [5, 6, 7, 4, 8] (by decide +kernel) (by decide +kernel)
set_option maxRecDepth 20000 in
theorem gX8_flight_X8_isKind : GoodIn wsX8_flight (va_wsS RX8 60 yX8_isKind wsX8_isKind) := goodIn_app (goodIn_of _ (by decide +kernel)) ggX8_flight_X8_isKind
set_option maxRecDepth 20000 in
theorem ggX8_flight_X8_isCell : GoodIn wsX8_flight wsX8_isCell := goodIn_r _ [11, 6, 7, 4, 8] (by decide +kernel) (by decide +kernel)
set_option maxRecDepth 20000 in
theorem gX8_flight_X8_isCell : GoodIn wsX8_flight (va_wsS RX8 76 yX8_isCell wsX8_isCell) := goodIn_app (goodIn_of _ (by decide +kernel)) ggX8_flight_X8_isCell
set_option maxRecDepth 20000 in
theorem ggX8_flight_X8_isWithin : GoodIn wsX8_flight wsX8_isWithin := goodIn_r _ [8] (by decide +kernel) (by decide +kernel)
set_option maxRecDepth 20000 in
theorem gX8_flight_X8_isWithin : GoodIn wsX8_flight (va_wsS RX8 64 yX8_isWithin wsX8_isWithin) := goodIn_app (goodIn_of _ (by decide +kernel)) ggX8_flight_X8_isWithin
set_option maxRecDepth 20000 in
theorem ggX8_flight_X0_pathOf : GoodIn wsX8_flight wsX0_pathOf := goodIn_r _ [16, 17, 18, 19, 20, 15, 21, 22, 23, 24, 25, 26, 27, 28, 29, 30, 31, 32, 33, 34, 35, 36, 37, 38, 39, 40, 41, 42, 43, 44, 45, 46, 47, 48, 49, 50, 51, 52, 53, 54, 55, 56, 57, 81, 82, 83, 84, 85] (by decide +kernel) (by decide +kernel)
set_option maxRecDepth 20000 in
theorem gX8_flight_X0_pathOf : GoodIn wsX8_flight (wsV RX8 79 RX0 yX0_pathOf wsX0_pathOf) := goodIn_app (goodIn_of _ (by decide +kernel)) ggX8_flight_X0_pathOf
set_option maxRecDepth 20000 in
theorem ggX8_flight_X0_landingOf : GoodIn wsX8_flight wsX0_landingOf := goodIn_r _ [60, 61] (by decide +kernel) (by decide +kernel)
set_option maxRecDepth 20000 in
theorem gX8_flight_X0_landingOf : GoodIn wsX8_flight (va_wsS RX8 83 yX0_landingOf wsX0_landingOf) := goodIn_app (goodIn_of _ (by decide +kernel)) ggX8_flight_X0_landingOf
set_option maxRecDepth 20000 in
theorem ggX8_flight_X0_isNet : GoodIn wsX8_flight wsX0_isNet := goodIn_r _ [64, 65, 66, 15, 67, 61] (by decide +kernel) (by decide +kernel)
set_option maxRecDepth 20000 in
theorem gX8_flight_X0_isNet : GoodIn wsX8_flight (va_wsS RX8 87 yX0_isNet wsX0_isNet) := goodIn_app (goodIn_of _ (by decide +kernel)) ggX8_flight_X0_isNet
set_option maxRecDepth 20000 in
theorem ggX8_flight_X0_cellAt : GoodIn wsX8_flight wsX0_cellAt := goodIn_r _ [70, 71, 72, 59, 15, 60, 61] (by decide +kernel) (by decide +kernel)
set_option maxRecDepth 20000 in
theorem gX8_flight_X0_cellAt : GoodIn wsX8_flight (va_wsS RX8 91 yX0_cellAt wsX0_cellAt) := goodIn_app (goodIn_of _ (by decide +kernel)) ggX8_flight_X0_cellAt
set_option maxRecDepth 20000 in
theorem ggX8_flight_X0_firstMetOf : GoodIn wsX8_flight wsX0_firstMetOf := goodIn_r _ [67, 61] (by decide +kernel) (by decide +kernel)
set_option maxRecDepth 20000 in
theorem gX8_flight_X0_firstMetOf : GoodIn wsX8_flight (va_wsS RX8 95 yX0_firstMetOf wsX0_firstMetOf) := goodIn_app (goodIn_of _ (by decide +kernel)) ggX8_flight_X0_firstMetOf
theorem dX8_flight_0 : decode cX8_flight 0 = .ok (.iload_n 1, 1) := by decide +kernel
theorem dX8_flight_1 : decode cX8_flight 1 = .ok (.invokestatic 60, 3) := by decide +kernel
theorem dX8_flight_4 : decode cX8_flight 4 = .ok (.ifCond .eq 17, 3) := by decide +kernel
theorem dX8_flight_7 : decode cX8_flight 7 = .ok (.iload_n 2, 1) := by decide +kernel
theorem dX8_flight_8 : decode cX8_flight 8 = .ok (.invokestatic 76, 3) := by decide +kernel
theorem dX8_flight_11 : decode cX8_flight 11 = .ok (.ifCond .eq 10, 3) := by decide +kernel
theorem dX8_flight_14 : decode cX8_flight 14 = .ok (.iload_n 3, 1) := by decide +kernel
theorem dX8_flight_15 : decode cX8_flight 15 = .ok (.invokestatic 76, 3) := by decide +kernel
theorem dX8_flight_18 : decode cX8_flight 18 = .ok (.ifCond .ne 6, 3) := by decide +kernel
theorem dX8_flight_21 : decode cX8_flight 21 = .ok (.bipush (-2), 2) := by decide +kernel
theorem dX8_flight_23 : decode cX8_flight 23 = .ok (.ireturn, 1) := by decide +kernel
theorem dX8_flight_24 : decode cX8_flight 24 = .ok (.iload 4, 2) := by decide +kernel
theorem dX8_flight_26 : decode cX8_flight 26 = .ok (.iconst 0, 1) := by decide +kernel
theorem dX8_flight_27 : decode cX8_flight 27 = .ok (.iconst 2, 1) := by decide +kernel
theorem dX8_flight_28 : decode cX8_flight 28 = .ok (.invokestatic 64, 3) := by decide +kernel
theorem dX8_flight_31 : decode cX8_flight 31 = .ok (.ifCond .ne 6, 3) := by decide +kernel
theorem dX8_flight_34 : decode cX8_flight 34 = .ok (.bipush (-3), 2) := by decide +kernel
theorem dX8_flight_36 : decode cX8_flight 36 = .ok (.ireturn, 1) := by decide +kernel
theorem dX8_flight_37 : decode cX8_flight 37 = .ok (.aload_n 0, 1) := by decide +kernel
theorem dX8_flight_38 : decode cX8_flight 38 = .ok (.getfield 10, 3) := by decide +kernel
theorem dX8_flight_41 : decode cX8_flight 41 = .ok (.iload_n 1, 1) := by decide +kernel
theorem dX8_flight_42 : decode cX8_flight 42 = .ok (.iload_n 2, 1) := by decide +kernel
theorem dX8_flight_43 : decode cX8_flight 43 = .ok (.iload_n 3, 1) := by decide +kernel
theorem dX8_flight_44 : decode cX8_flight 44 = .ok (.invokevirtual 79, 3) := by decide +kernel
theorem dX8_flight_47 : decode cX8_flight 47 = .ok (.lstore 5, 2) := by decide +kernel
theorem dX8_flight_49 : decode cX8_flight 49 = .ok (.lload 5, 2) := by decide +kernel
theorem dX8_flight_51 : decode cX8_flight 51 = .ok (.invokestatic 83, 3) := by decide +kernel
theorem dX8_flight_54 : decode cX8_flight 54 = .ok (.istore 7, 2) := by decide +kernel
theorem dX8_flight_56 : decode cX8_flight 56 = .ok (.iload 4, 2) := by decide +kernel
theorem dX8_flight_58 : decode cX8_flight 58 = .ok (.ifCond .ne 6, 3) := by decide +kernel
theorem dX8_flight_61 : decode cX8_flight 61 = .ok (.iload 7, 2) := by decide +kernel
theorem dX8_flight_63 : decode cX8_flight 63 = .ok (.ireturn, 1) := by decide +kernel
theorem dX8_flight_64 : decode cX8_flight 64 = .ok (.lload 5, 2) := by decide +kernel
theorem dX8_flight_66 : decode cX8_flight 66 = .ok (.invokestatic 87, 3) := by decide +kernel
theorem dX8_flight_69 : decode cX8_flight 69 = .ok (.ifCond .eq 5, 3) := by decide +kernel
theorem dX8_flight_72 : decode cX8_flight 72 = .ok (.iconst (-1), 1) := by decide +kernel
theorem dX8_flight_73 : decode cX8_flight 73 = .ok (.ireturn, 1) := by decide +kernel
theorem dX8_flight_74 : decode cX8_flight 74 = .ok (.iload 4, 2) := by decide +kernel
theorem dX8_flight_76 : decode cX8_flight 76 = .ok (.iconst 1, 1) := by decide +kernel
theorem dX8_flight_77 : decode cX8_flight 77 = .ok (.if_icmp .ne 13, 3) := by decide +kernel
theorem dX8_flight_80 : decode cX8_flight 80 = .ok (.lload 5, 2) := by decide +kernel
theorem dX8_flight_82 : decode cX8_flight 82 = .ok (.iload 7, 2) := by decide +kernel
theorem dX8_flight_84 : decode cX8_flight 84 = .ok (.invokestatic 91, 3) := by decide +kernel
theorem dX8_flight_87 : decode cX8_flight 87 = .ok (.goto 8, 3) := by decide +kernel
theorem dX8_flight_90 : decode cX8_flight 90 = .ok (.lload 5, 2) := by decide +kernel
theorem dX8_flight_92 : decode cX8_flight 92 = .ok (.invokestatic 95, 3) := by decide +kernel
theorem dX8_flight_95 : decode cX8_flight 95 = .ok (.ireturn, 1) := by decide +kernel
set_option maxRecDepth 20000 in
theorem ggX8_over_X8_isKind : GoodIn wsX8_over wsX8_isKind := goodIn_r _ [5, 6, 7, 4, 8] (by decide +kernel) (by decide +kernel)
set_option maxRecDepth 20000 in
theorem gX8_over_X8_isKind : GoodIn wsX8_over (va_wsS RX8 60 yX8_isKind wsX8_isKind) := goodIn_app (goodIn_of _ (by decide +kernel)) ggX8_over_X8_isKind
set_option maxRecDepth 20000 in
theorem ggX8_over_X8_isCell : GoodIn wsX8_over wsX8_isCell := goodIn_r _ [11, 6, 7, 4, 8] (by decide +kernel) (by decide +kernel)
set_option maxRecDepth 20000 in
theorem gX8_over_X8_isCell : GoodIn wsX8_over (va_wsS RX8 76 yX8_isCell wsX8_isCell) := goodIn_app (goodIn_of _ (by decide +kernel)) ggX8_over_X8_isCell
set_option maxRecDepth 20000 in
theorem ggX8_over_X8_isWithin : GoodIn wsX8_over wsX8_isWithin := goodIn_r _ [8] (by decide +kernel) (by decide +kernel)
set_option maxRecDepth 20000 in
theorem gX8_over_X8_isWithin : GoodIn wsX8_over (va_wsS RX8 64 yX8_isWithin wsX8_isWithin) := goodIn_app (goodIn_of _ (by decide +kernel)) ggX8_over_X8_isWithin
set_option maxRecDepth 20000 in
theorem ggX8_over_X0_placeBehind : GoodIn wsX8_over wsX0_placeBehind := goodIn_r _ [16, 17, 18, 19, 20, 21, 22, 23, 15, 24, 25, 26, 27, 28, 29, 30, 31, 32, 33, 34, 35, 36, 37, 38, 39, 40, 41, 42, 43, 44, 45, 46, 47, 48, 49, 50, 58, 59, 60, 61, 62] (by decide +kernel) (by decide +kernel)
set_option maxRecDepth 20000 in
theorem gX8_over_X0_placeBehind : GoodIn wsX8_over (wsV RX8 98 RX0 yX0_placeBehind wsX0_placeBehind) := goodIn_app (goodIn_of _ (by decide +kernel)) ggX8_over_X0_placeBehind
theorem dX8_over_0 : decode cX8_over 0 = .ok (.iload_n 1, 1) := by decide +kernel
theorem dX8_over_1 : decode cX8_over 1 = .ok (.invokestatic 60, 3) := by decide +kernel
theorem dX8_over_4 : decode cX8_over 4 = .ok (.ifCond .eq 17, 3) := by decide +kernel
theorem dX8_over_7 : decode cX8_over 7 = .ok (.iload_n 2, 1) := by decide +kernel
theorem dX8_over_8 : decode cX8_over 8 = .ok (.invokestatic 76, 3) := by decide +kernel
theorem dX8_over_11 : decode cX8_over 11 = .ok (.ifCond .eq 10, 3) := by decide +kernel
theorem dX8_over_14 : decode cX8_over 14 = .ok (.iload_n 3, 1) := by decide +kernel
theorem dX8_over_15 : decode cX8_over 15 = .ok (.invokestatic 76, 3) := by decide +kernel
theorem dX8_over_18 : decode cX8_over 18 = .ok (.ifCond .ne 6, 3) := by decide +kernel
theorem dX8_over_21 : decode cX8_over 21 = .ok (.bipush (-2), 2) := by decide +kernel
theorem dX8_over_23 : decode cX8_over 23 = .ok (.ireturn, 1) := by decide +kernel
theorem dX8_over_24 : decode cX8_over 24 = .ok (.iload 4, 2) := by decide +kernel
theorem dX8_over_26 : decode cX8_over 26 = .ok (.iconst 1, 1) := by decide +kernel
theorem dX8_over_27 : decode cX8_over 27 = .ok (.bipush 60, 2) := by decide +kernel
theorem dX8_over_29 : decode cX8_over 29 = .ok (.invokestatic 64, 3) := by decide +kernel
theorem dX8_over_32 : decode cX8_over 32 = .ok (.ifCond .ne 6, 3) := by decide +kernel
theorem dX8_over_35 : decode cX8_over 35 = .ok (.bipush (-3), 2) := by decide +kernel
theorem dX8_over_37 : decode cX8_over 37 = .ok (.ireturn, 1) := by decide +kernel
theorem dX8_over_38 : decode cX8_over 38 = .ok (.aload_n 0, 1) := by decide +kernel
theorem dX8_over_39 : decode cX8_over 39 = .ok (.getfield 10, 3) := by decide +kernel
theorem dX8_over_42 : decode cX8_over 42 = .ok (.iload_n 1, 1) := by decide +kernel
theorem dX8_over_43 : decode cX8_over 43 = .ok (.iload_n 2, 1) := by decide +kernel
theorem dX8_over_44 : decode cX8_over 44 = .ok (.iload_n 3, 1) := by decide +kernel
theorem dX8_over_45 : decode cX8_over 45 = .ok (.iload 4, 2) := by decide +kernel
theorem dX8_over_47 : decode cX8_over 47 = .ok (.invokevirtual 98, 3) := by decide +kernel
theorem dX8_over_50 : decode cX8_over 50 = .ok (.ireturn, 1) := by decide +kernel
set_option maxRecDepth 20000 in
theorem ggX8_player_X8_isPlayer : GoodIn wsX8_player wsX8_isPlayer := goodIn_r _ [5, 6, 7, 4, 8] (by decide +kernel) (by decide +kernel)
set_option maxRecDepth 20000 in
theorem gX8_player_X8_isPlayer : GoodIn wsX8_player (va_wsS RX8 102 yX8_isPlayer wsX8_isPlayer) := goodIn_app (goodIn_of _ (by decide +kernel)) ggX8_player_X8_isPlayer
set_option maxRecDepth 20000 in
theorem ggX8_player_X8_isWithin : GoodIn wsX8_player wsX8_isWithin := goodIn_r _ [8] (by decide +kernel) (by decide +kernel)
set_option maxRecDepth 20000 in
theorem gX8_player_X8_isWithin : GoodIn wsX8_player (va_wsS RX8 64 yX8_isWithin wsX8_isWithin) := goodIn_app (goodIn_of _ (by decide +kernel)) ggX8_player_X8_isWithin
set_option maxRecDepth 20000 in
theorem ggX8_player_X6_setPlayer : GoodIn wsX8_player wsX6_setPlayer := goodIn_r _ [13, 14, 15, 16, 17, 18, 12, 19, 20, 21, 22, 23, 24, 25, 33, 34, 35, 36] (by decide +kernel) (by decide +kernel)
set_option maxRecDepth 20000 in
theorem gX8_player_X6_setPlayer : GoodIn wsX8_player (wsV RX8 105 RX6 yX6_setPlayer wsX6_setPlayer) := goodIn_app (goodIn_of _ (by decide +kernel)) ggX8_player_X6_setPlayer
theorem dX8_player_0 : decode cX8_player 0 = .ok (.iload_n 1, 1) := by decide +kernel
theorem dX8_player_1 : decode cX8_player 1 = .ok (.invokestatic 102, 3) := by decide +kernel
theorem dX8_player_4 : decode cX8_player 4 = .ok (.ifCond .ne 6, 3) := by decide +kernel
theorem dX8_player_7 : decode cX8_player 7 = .ok (.bipush (-2), 2) := by decide +kernel
theorem dX8_player_9 : decode cX8_player 9 = .ok (.ireturn, 1) := by decide +kernel
theorem dX8_player_10 : decode cX8_player 10 = .ok (.iload_n 2, 1) := by decide +kernel
theorem dX8_player_11 : decode cX8_player 11 = .ok (.iconst 1, 1) := by decide +kernel
theorem dX8_player_12 : decode cX8_player 12 = .ok (.bipush 20, 2) := by decide +kernel
theorem dX8_player_14 : decode cX8_player 14 = .ok (.invokestatic 64, 3) := by decide +kernel
theorem dX8_player_17 : decode cX8_player 17 = .ok (.ifCond .eq 12, 3) := by decide +kernel
theorem dX8_player_20 : decode cX8_player 20 = .ok (.iload_n 3, 1) := by decide +kernel
theorem dX8_player_21 : decode cX8_player 21 = .ok (.iconst 0, 1) := by decide +kernel
theorem dX8_player_22 : decode cX8_player 22 = .ok (.iconst 2, 1) := by decide +kernel
theorem dX8_player_23 : decode cX8_player 23 = .ok (.invokestatic 64, 3) := by decide +kernel
theorem dX8_player_26 : decode cX8_player 26 = .ok (.ifCond .ne 6, 3) := by decide +kernel
theorem dX8_player_29 : decode cX8_player 29 = .ok (.bipush (-3), 2) := by decide +kernel
theorem dX8_player_31 : decode cX8_player 31 = .ok (.ireturn, 1) := by decide +kernel
theorem dX8_player_32 : decode cX8_player 32 = .ok (.aload_n 0, 1) := by decide +kernel
theorem dX8_player_33 : decode cX8_player 33 = .ok (.getfield 19, 3) := by decide +kernel
theorem dX8_player_36 : decode cX8_player 36 = .ok (.iload_n 1, 1) := by decide +kernel
theorem dX8_player_37 : decode cX8_player 37 = .ok (.iload_n 2, 1) := by decide +kernel
theorem dX8_player_38 : decode cX8_player 38 = .ok (.iload_n 3, 1) := by decide +kernel
theorem dX8_player_39 : decode cX8_player 39 = .ok (.invokevirtual 105, 3) := by decide +kernel
theorem dX8_player_42 : decode cX8_player 42 = .ok (.iconst 1, 1) := by decide +kernel
theorem dX8_player_43 : decode cX8_player 43 = .ok (.ireturn, 1) := by decide +kernel
set_option maxRecDepth 20000 in
theorem ggX8_run_X8_isPlayer : GoodIn wsX8_run wsX8_isPlayer := goodIn_r _ [5, 6, 7, 4, 8] (by decide +kernel) (by decide +kernel)
set_option maxRecDepth 20000 in
theorem gX8_run_X8_isPlayer : GoodIn wsX8_run (va_wsS RX8 102 yX8_isPlayer wsX8_isPlayer) := goodIn_app (goodIn_of _ (by decide +kernel)) ggX8_run_X8_isPlayer
set_option maxRecDepth 20000 in
theorem ggX8_run_X8_isWithin : GoodIn wsX8_run wsX8_isWithin := goodIn_r _ [8] (by decide +kernel) (by decide +kernel)
set_option maxRecDepth 20000 in
theorem gX8_run_X8_isWithin : GoodIn wsX8_run (va_wsS RX8 64 yX8_isWithin wsX8_isWithin) := goodIn_app (goodIn_of _ (by decide +kernel)) ggX8_run_X8_isWithin
set_option maxRecDepth 20000 in
theorem ggX8_run_X6_tire : GoodIn wsX8_run wsX6_tire := goodIn_r _ [13, 14, 15, 16, 17, 18, 19, 20, 21, 22, 23, 24, 12, 25, 26, 27, 35, 36, 37, 38] (by decide +kernel) (by decide +kernel)
set_option maxRecDepth 20000 in
theorem gX8_run_X6_tire : GoodIn wsX8_run (wsV RX8 109 RX6 yX6_tire wsX6_tire) := goodIn_app (goodIn_of _ (by decide +kernel)) ggX8_run_X6_tire
theorem dX8_run_0 : decode cX8_run 0 = .ok (.iload_n 1, 1) := by decide +kernel
theorem dX8_run_1 : decode cX8_run 1 = .ok (.invokestatic 102, 3) := by decide +kernel
theorem dX8_run_4 : decode cX8_run 4 = .ok (.ifCond .ne 6, 3) := by decide +kernel
theorem dX8_run_7 : decode cX8_run 7 = .ok (.bipush (-2), 2) := by decide +kernel
theorem dX8_run_9 : decode cX8_run 9 = .ok (.ireturn, 1) := by decide +kernel
theorem dX8_run_10 : decode cX8_run 10 = .ok (.iload_n 2, 1) := by decide +kernel
theorem dX8_run_11 : decode cX8_run 11 = .ok (.iconst 0, 1) := by decide +kernel
theorem dX8_run_12 : decode cX8_run 12 = .ok (.bipush 100, 2) := by decide +kernel
theorem dX8_run_14 : decode cX8_run 14 = .ok (.invokestatic 64, 3) := by decide +kernel
theorem dX8_run_17 : decode cX8_run 17 = .ok (.ifCond .ne 6, 3) := by decide +kernel
theorem dX8_run_20 : decode cX8_run 20 = .ok (.bipush (-3), 2) := by decide +kernel
theorem dX8_run_22 : decode cX8_run 22 = .ok (.ireturn, 1) := by decide +kernel
theorem dX8_run_23 : decode cX8_run 23 = .ok (.aload_n 0, 1) := by decide +kernel
theorem dX8_run_24 : decode cX8_run 24 = .ok (.getfield 19, 3) := by decide +kernel
theorem dX8_run_27 : decode cX8_run 27 = .ok (.iload_n 1, 1) := by decide +kernel
theorem dX8_run_28 : decode cX8_run 28 = .ok (.iload_n 2, 1) := by decide +kernel
theorem dX8_run_29 : decode cX8_run 29 = .ok (.invokevirtual 109, 3) := by decide +kernel
theorem dX8_run_32 : decode cX8_run 32 = .ok (.ireturn, 1) := by decide +kernel
set_option maxRecDepth 20000 in
theorem ggX8_rest_X8_isPlayer : GoodIn wsX8_rest wsX8_isPlayer := goodIn_r _ [5, 6, 7, 4, 8] (by decide +kernel) (by decide +kernel)
set_option maxRecDepth 20000 in
theorem gX8_rest_X8_isPlayer : GoodIn wsX8_rest (va_wsS RX8 102 yX8_isPlayer wsX8_isPlayer) := goodIn_app (goodIn_of _ (by decide +kernel)) ggX8_rest_X8_isPlayer
set_option maxRecDepth 20000 in
theorem ggX8_rest_X8_isWithin : GoodIn wsX8_rest wsX8_isWithin := goodIn_r _ [8] (by decide +kernel) (by decide +kernel)
set_option maxRecDepth 20000 in
theorem gX8_rest_X8_isWithin : GoodIn wsX8_rest (va_wsS RX8 64 yX8_isWithin wsX8_isWithin) := goodIn_app (goodIn_of _ (by decide +kernel)) ggX8_rest_X8_isWithin
set_option maxRecDepth 20000 in
theorem ggX8_rest_X6_tire : GoodIn wsX8_rest wsX6_tire := goodIn_r _ [13, 14, 15, 16, 17, 18, 19, 20, 21, 22, 23, 24, 12, 25, 26, 27, 35, 36, 37, 38] (by decide +kernel) (by decide +kernel)
set_option maxRecDepth 20000 in
theorem gX8_rest_X6_tire : GoodIn wsX8_rest (wsV RX8 109 RX6 yX6_tire wsX6_tire) := goodIn_app (goodIn_of _ (by decide +kernel)) ggX8_rest_X6_tire
theorem dX8_rest_0 : decode cX8_rest 0 = .ok (.iload_n 1, 1) := by decide +kernel
theorem dX8_rest_1 : decode cX8_rest 1 = .ok (.invokestatic 102, 3) := by decide +kernel
theorem dX8_rest_4 : decode cX8_rest 4 = .ok (.ifCond .ne 6, 3) := by decide +kernel
theorem dX8_rest_7 : decode cX8_rest 7 = .ok (.bipush (-2), 2) := by decide +kernel
theorem dX8_rest_9 : decode cX8_rest 9 = .ok (.ireturn, 1) := by decide +kernel
theorem dX8_rest_10 : decode cX8_rest 10 = .ok (.iload_n 2, 1) := by decide +kernel
theorem dX8_rest_11 : decode cX8_rest 11 = .ok (.iconst 0, 1) := by decide +kernel
theorem dX8_rest_12 : decode cX8_rest 12 = .ok (.bipush 100, 2) := by decide +kernel
theorem dX8_rest_14 : decode cX8_rest 14 = .ok (.invokestatic 64, 3) := by decide +kernel
theorem dX8_rest_17 : decode cX8_rest 17 = .ok (.ifCond .ne 6, 3) := by decide +kernel
theorem dX8_rest_20 : decode cX8_rest 20 = .ok (.bipush (-3), 2) := by decide +kernel
theorem dX8_rest_22 : decode cX8_rest 22 = .ok (.ireturn, 1) := by decide +kernel
theorem dX8_rest_23 : decode cX8_rest 23 = .ok (.aload_n 0, 1) := by decide +kernel
theorem dX8_rest_24 : decode cX8_rest 24 = .ok (.getfield 19, 3) := by decide +kernel
theorem dX8_rest_27 : decode cX8_rest 27 = .ok (.iload_n 1, 1) := by decide +kernel
theorem dX8_rest_28 : decode cX8_rest 28 = .ok (.iload_n 2, 1) := by decide +kernel
theorem dX8_rest_29 : decode cX8_rest 29 = .ok (.ineg, 1) := by decide +kernel
theorem dX8_rest_30 : decode cX8_rest 30 = .ok (.invokevirtual 109, 3) := by decide +kernel
theorem dX8_rest_33 : decode cX8_rest 33 = .ok (.ireturn, 1) := by decide +kernel
set_option maxRecDepth 20000 in
theorem ggX8_slack_X8_isPlayer : GoodIn wsX8_slack wsX8_isPlayer := goodIn_r _ [6, 7, 8, 5, 9] (by decide +kernel) (by decide +kernel)
set_option maxRecDepth 20000 in
theorem gX8_slack_X8_isPlayer : GoodIn wsX8_slack (va_wsS RX8 102 yX8_isPlayer wsX8_isPlayer) := goodIn_app (goodIn_of _ (by decide +kernel)) ggX8_slack_X8_isPlayer
set_option maxRecDepth 20000 in
theorem ggX8_slack_X8_isCell : GoodIn wsX8_slack wsX8_isCell := goodIn_r _ [12, 7, 8, 5, 9] (by decide +kernel) (by decide +kernel)
set_option maxRecDepth 20000 in
theorem gX8_slack_X8_isCell : GoodIn wsX8_slack (va_wsS RX8 76 yX8_isCell wsX8_isCell) := goodIn_app (goodIn_of _ (by decide +kernel)) ggX8_slack_X8_isCell
set_option maxRecDepth 20000 in
theorem ggX8_slack_X8_isKind : GoodIn wsX8_slack wsX8_isKind := goodIn_r _ [15, 7, 8, 5, 9] (by decide +kernel) (by decide +kernel)
set_option maxRecDepth 20000 in
theorem gX8_slack_X8_isKind : GoodIn wsX8_slack (va_wsS RX8 60 yX8_isKind wsX8_isKind) := goodIn_app (goodIn_of _ (by decide +kernel)) ggX8_slack_X8_isKind
set_option maxRecDepth 20000 in
theorem ggX8_slack_X0_pathOf : GoodIn wsX8_slack wsX0_pathOf := goodIn_r _ [20, 21, 22, 23, 24, 19, 25, 26, 27, 28, 29, 30, 31, 32, 33, 34, 35, 36, 37, 38, 39, 40, 41, 42, 43, 44, 45, 46, 47, 48, 49, 50, 51, 52, 53, 54, 55, 56, 57, 58, 59, 60, 61, 110, 111, 112, 113, 114] (by decide +kernel) (by decide +kernel)
set_option maxRecDepth 20000 in
theorem gX8_slack_X0_pathOf : GoodIn wsX8_slack (wsV RX8 79 RX0 yX0_pathOf wsX0_pathOf) := goodIn_app (goodIn_of _ (by decide +kernel)) ggX8_slack_X0_pathOf
set_option maxRecDepth 20000 in
theorem ggX8_slack_X3_slackFor : GoodIn wsX8_slack wsX3_slackFor := goodIn_r _ [66, 67, 68, 57, 29, 58, 69, 70, 19, 71, 72, 73, 74, 75, 76, 77, 78, 79, 80, 81, 82, 83, 84, 85, 86, 87, 88, 89, 90, 91, 92, 41, 93, 94, 37, 38, 95, 96, 40, 42, 97, 44, 45, 98, 99, 100, 101, 102, 115, 116, 117, 118, 119, 120, 121, 122] (by decide +kernel) (by decide +kernel)
set_option maxRecDepth 20000 in
theorem gX8_slack_X3_slackFor : GoodIn wsX8_slack (wsV RX8 113 RX3 yX3_slackFor wsX3_slackFor) := goodIn_app (goodIn_of _ (by decide +kernel)) ggX8_slack_X3_slackFor
theorem dX8_slack_0 : decode cX8_slack 0 = .ok (.iload_n 1, 1) := by decide +kernel
theorem dX8_slack_1 : decode cX8_slack 1 = .ok (.invokestatic 102, 3) := by decide +kernel
theorem dX8_slack_4 : decode cX8_slack 4 = .ok (.ifCond .eq 33, 3) := by decide +kernel
theorem dX8_slack_7 : decode cX8_slack 7 = .ok (.iload_n 2, 1) := by decide +kernel
theorem dX8_slack_8 : decode cX8_slack 8 = .ok (.invokestatic 76, 3) := by decide +kernel
theorem dX8_slack_11 : decode cX8_slack 11 = .ok (.ifCond .eq 26, 3) := by decide +kernel
theorem dX8_slack_14 : decode cX8_slack 14 = .ok (.iload_n 3, 1) := by decide +kernel
theorem dX8_slack_15 : decode cX8_slack 15 = .ok (.invokestatic 60, 3) := by decide +kernel
theorem dX8_slack_18 : decode cX8_slack 18 = .ok (.ifCond .eq 19, 3) := by decide +kernel
theorem dX8_slack_21 : decode cX8_slack 21 = .ok (.iload 4, 2) := by decide +kernel
theorem dX8_slack_23 : decode cX8_slack 23 = .ok (.invokestatic 76, 3) := by decide +kernel
theorem dX8_slack_26 : decode cX8_slack 26 = .ok (.ifCond .eq 11, 3) := by decide +kernel
theorem dX8_slack_29 : decode cX8_slack 29 = .ok (.iload 5, 2) := by decide +kernel
theorem dX8_slack_31 : decode cX8_slack 31 = .ok (.invokestatic 76, 3) := by decide +kernel
theorem dX8_slack_34 : decode cX8_slack 34 = .ok (.ifCond .ne 6, 3) := by decide +kernel
theorem dX8_slack_37 : decode cX8_slack 37 = .ok (.bipush (-102), 2) := by decide +kernel
theorem dX8_slack_39 : decode cX8_slack 39 = .ok (.ireturn, 1) := by decide +kernel
theorem dX8_slack_40 : decode cX8_slack 40 = .ok (.aload_n 0, 1) := by decide +kernel
theorem dX8_slack_41 : decode cX8_slack 41 = .ok (.getfield 28, 3) := by decide +kernel
theorem dX8_slack_44 : decode cX8_slack 44 = .ok (.iload_n 1, 1) := by decide +kernel
theorem dX8_slack_45 : decode cX8_slack 45 = .ok (.iload_n 2, 1) := by decide +kernel
theorem dX8_slack_46 : decode cX8_slack 46 = .ok (.aload_n 0, 1) := by decide +kernel
theorem dX8_slack_47 : decode cX8_slack 47 = .ok (.getfield 10, 3) := by decide +kernel
theorem dX8_slack_50 : decode cX8_slack 50 = .ok (.iload_n 3, 1) := by decide +kernel
theorem dX8_slack_51 : decode cX8_slack 51 = .ok (.iload 4, 2) := by decide +kernel
theorem dX8_slack_53 : decode cX8_slack 53 = .ok (.iload 5, 2) := by decide +kernel
theorem dX8_slack_55 : decode cX8_slack 55 = .ok (.invokevirtual 79, 3) := by decide +kernel
theorem dX8_slack_58 : decode cX8_slack 58 = .ok (.invokevirtual 113, 3) := by decide +kernel
theorem dX8_slack_61 : decode cX8_slack 61 = .ok (.ireturn, 1) := by decide +kernel
set_option maxRecDepth 20000 in
theorem ggX8_strike_X8_isCell : GoodIn wsX8_strike wsX8_isCell := goodIn_r _ [6, 7, 8, 5, 9] (by decide +kernel) (by decide +kernel)
set_option maxRecDepth 20000 in
theorem gX8_strike_X8_isCell : GoodIn wsX8_strike (va_wsS RX8 76 yX8_isCell wsX8_isCell) := goodIn_app (goodIn_of _ (by decide +kernel)) ggX8_strike_X8_isCell
set_option maxRecDepth 20000 in
theorem ggX8_strike_X8_isPlayer : GoodIn wsX8_strike wsX8_isPlayer := goodIn_r _ [12, 7, 8, 5, 9] (by decide +kernel) (by decide +kernel)
set_option maxRecDepth 20000 in
theorem gX8_strike_X8_isPlayer : GoodIn wsX8_strike (va_wsS RX8 102 yX8_isPlayer wsX8_isPlayer) := goodIn_app (goodIn_of _ (by decide +kernel)) ggX8_strike_X8_isPlayer
set_option maxRecDepth 20000 in
theorem ggX8_strike_X8_isWithin : GoodIn wsX8_strike wsX8_isWithin := goodIn_r _ [9] (by decide +kernel) (by decide +kernel)
set_option maxRecDepth 20000 in
theorem gX8_strike_X8_isWithin : GoodIn wsX8_strike (va_wsS RX8 64 yX8_isWithin wsX8_isWithin) := goodIn_app (goodIn_of _ (by decide +kernel)) ggX8_strike_X8_isWithin
set_option maxRecDepth 20000 in
theorem ggX8_strike_X0_workOutFrom : GoodIn wsX8_strike wsX0_workOutFrom := goodIn_r _ [17, 18, 19, 20, 16, 21, 22, 23, 24, 25, 26, 27, 28, 29, 30, 31, 32, 33, 34, 35, 36, 37, 38, 39, 40, 41, 42, 43, 44, 45, 46, 47, 48, 49, 50, 51, 52, 53, 54, 55, 56, 57, 58, 59, 60, 61, 62, 125, 126, 127, 128, 129] (by decide +kernel) (by decide +kernel)
set_option maxRecDepth 20000 in
theorem gX8_strike_X0_workOutFrom : GoodIn wsX8_strike (wsV RX8 117 RX0 yX0_workOutFrom wsX0_workOutFrom) := goodIn_app (goodIn_of _ (by decide +kernel)) ggX8_strike_X0_workOutFrom
set_option maxRecDepth 20000 in
theorem ggX8_strike_X3_bestStrike : GoodIn wsX8_strike wsX3_bestStrike := goodIn_r _ [67, 68, 69, 70, 71, 16, 72, 22, 73, 74, 75, 76, 77, 78, 79, 80, 81, 82, 66, 83, 84, 85, 58, 30, 59, 86, 87, 88, 89, 90, 91, 92, 93, 94, 95, 96, 97, 98, 99, 100, 101, 102, 42, 103, 104, 38, 39, 105, 106, 41, 43, 107, 45, 46, 108, 109, 110, 111, 112, 130, 131, 132, 133, 125, 126, 127, 128, 129, 134, 135, 136, 137] (by decide +kernel) (by decide +kernel)
set_option maxRecDepth 20000 in
theorem gX8_strike_X3_bestStrike : GoodIn wsX8_strike (wsV RX8 121 RX3 yX3_bestStrike wsX3_bestStrike) := goodIn_app (goodIn_of _ (by decide +kernel)) ggX8_strike_X3_bestStrike
set_option maxRecDepth 20000 in
theorem ggX8_strike_X3_leastSlack : GoodIn wsX8_strike wsX3_leastSlack := goodIn_r _ [116, 68, 117, 64, 65, 66, 67, 69, 70, 71, 16, 72, 22, 73, 74, 75, 76, 77, 78, 79, 80, 81, 82, 83, 84, 85, 58, 30, 59, 86, 87, 88, 89, 90, 91, 92, 93, 94, 95, 96, 97, 98, 99, 100, 101, 102, 42, 103, 104, 38, 39, 105, 106, 41, 43, 107, 45, 46, 108, 109, 110, 111, 112, 130, 131, 132, 133, 125, 126, 127, 128, 129, 134, 135, 136, 137] (by decide +kernel) (by decide +kernel)
set_option maxRecDepth 20000 in
theorem gX8_strike_X3_leastSlack : GoodIn wsX8_strike (wsV RX8 125 RX3 yX3_leastSlack wsX3_leastSlack) := goodIn_app (goodIn_of _ (by decide +kernel)) ggX8_strike_X3_leastSlack
theorem dX8_strike_0 : decode cX8_strike 0 = .ok (.iload_n 1, 1) := by decide +kernel
theorem dX8_strike_1 : decode cX8_strike 1 = .ok (.invokestatic 76, 3) := by decide +kernel
theorem dX8_strike_4 : decode cX8_strike 4 = .ok (.ifCond .eq 17, 3) := by decide +kernel
theorem dX8_strike_7 : decode cX8_strike 7 = .ok (.iload_n 2, 1) := by decide +kernel
theorem dX8_strike_8 : decode cX8_strike 8 = .ok (.invokestatic 102, 3) := by decide +kernel
theorem dX8_strike_11 : decode cX8_strike 11 = .ok (.ifCond .eq 10, 3) := by decide +kernel
theorem dX8_strike_14 : decode cX8_strike 14 = .ok (.iload_n 3, 1) := by decide +kernel
theorem dX8_strike_15 : decode cX8_strike 15 = .ok (.invokestatic 76, 3) := by decide +kernel
theorem dX8_strike_18 : decode cX8_strike 18 = .ok (.ifCond .ne 6, 3) := by decide +kernel
theorem dX8_strike_21 : decode cX8_strike 21 = .ok (.bipush (-102), 2) := by decide +kernel
theorem dX8_strike_23 : decode cX8_strike 23 = .ok (.ireturn, 1) := by decide +kernel
theorem dX8_strike_24 : decode cX8_strike 24 = .ok (.iload 4, 2) := by decide +kernel
theorem dX8_strike_26 : decode cX8_strike 26 = .ok (.iconst 0, 1) := by decide +kernel
theorem dX8_strike_27 : decode cX8_strike 27 = .ok (.iconst 1, 1) := by decide +kernel
theorem dX8_strike_28 : decode cX8_strike 28 = .ok (.invokestatic 64, 3) := by decide +kernel
theorem dX8_strike_31 : decode cX8_strike 31 = .ok (.ifCond .ne 6, 3) := by decide +kernel
theorem dX8_strike_34 : decode cX8_strike 34 = .ok (.bipush (-103), 2) := by decide +kernel
theorem dX8_strike_36 : decode cX8_strike 36 = .ok (.ireturn, 1) := by decide +kernel
theorem dX8_strike_37 : decode cX8_strike 37 = .ok (.aload_n 0, 1) := by decide +kernel
theorem dX8_strike_38 : decode cX8_strike 38 = .ok (.getfield 10, 3) := by decide +kernel
theorem dX8_strike_41 : decode cX8_strike 41 = .ok (.iload_n 1, 1) := by decide +kernel
theorem dX8_strike_42 : decode cX8_strike 42 = .ok (.invokevirtual 117, 3) := by decide +kernel
theorem dX8_strike_45 : decode cX8_strike 45 = .ok (.iload 4, 2) := by decide +kernel
theorem dX8_strike_47 : decode cX8_strike 47 = .ok (.ifCond .ne 16, 3) := by decide +kernel
theorem dX8_strike_50 : decode cX8_strike 50 = .ok (.aload_n 0, 1) := by decide +kernel
theorem dX8_strike_51 : decode cX8_strike 51 = .ok (.getfield 28, 3) := by decide +kernel
theorem dX8_strike_54 : decode cX8_strike 54 = .ok (.iload_n 1, 1) := by decide +kernel
theorem dX8_strike_55 : decode cX8_strike 55 = .ok (.iload_n 2, 1) := by decide +kernel
theorem dX8_strike_56 : decode cX8_strike 56 = .ok (.iload_n 3, 1) := by decide +kernel
theorem dX8_strike_57 : decode cX8_strike 57 = .ok (.invokevirtual 121, 3) := by decide +kernel
theorem dX8_strike_60 : decode cX8_strike 60 = .ok (.goto 13, 3) := by decide +kernel
theorem dX8_strike_63 : decode cX8_strike 63 = .ok (.aload_n 0, 1) := by decide +kernel
theorem dX8_strike_64 : decode cX8_strike 64 = .ok (.getfield 28, 3) := by decide +kernel
theorem dX8_strike_67 : decode cX8_strike 67 = .ok (.iload_n 1, 1) := by decide +kernel
theorem dX8_strike_68 : decode cX8_strike 68 = .ok (.iload_n 2, 1) := by decide +kernel
theorem dX8_strike_69 : decode cX8_strike 69 = .ok (.iload_n 3, 1) := by decide +kernel
theorem dX8_strike_70 : decode cX8_strike 70 = .ok (.invokevirtual 125, 3) := by decide +kernel
theorem dX8_strike_73 : decode cX8_strike 73 = .ok (.ireturn, 1) := by decide +kernel
set_option maxRecDepth 20000 in
theorem ggX8_stand_X8_isPlayer : GoodIn wsX8_stand wsX8_isPlayer := goodIn_r _ [6, 7, 8, 5, 9] (by decide +kernel) (by decide +kernel)
set_option maxRecDepth 20000 in
theorem gX8_stand_X8_isPlayer : GoodIn wsX8_stand (va_wsS RX8 102 yX8_isPlayer wsX8_isPlayer) := goodIn_app (goodIn_of _ (by decide +kernel)) ggX8_stand_X8_isPlayer
set_option maxRecDepth 20000 in
theorem ggX8_stand_X8_isCell : GoodIn wsX8_stand wsX8_isCell := goodIn_r _ [12, 7, 8, 5, 9] (by decide +kernel) (by decide +kernel)
set_option maxRecDepth 20000 in
theorem gX8_stand_X8_isCell : GoodIn wsX8_stand (va_wsS RX8 76 yX8_isCell wsX8_isCell) := goodIn_app (goodIn_of _ (by decide +kernel)) ggX8_stand_X8_isCell
set_option maxRecDepth 20000 in
theorem ggX8_stand_X8_isWithin : GoodIn wsX8_stand wsX8_isWithin := goodIn_r _ [9] (by decide +kernel) (by decide +kernel)
set_option maxRecDepth 20000 in
theorem gX8_stand_X8_isWithin : GoodIn wsX8_stand (va_wsS RX8 64 yX8_isWithin wsX8_isWithin) := goodIn_app (goodIn_of _ (by decide +kernel)) ggX8_stand_X8_isWithin
set_option maxRecDepth 20000 in
theorem ggX8_stand_X0_workOutFrom : GoodIn wsX8_stand wsX0_workOutFrom := goodIn_r _ [17, 18, 19, 20, 16, 21, 22, 23, 24, 25, 26, 27, 28, 29, 30, 31, 32, 33, 34, 35, 36, 37, 38, 39, 40, 41, 42, 43, 44, 45, 46, 47, 48, 49, 50, 51, 52, 53, 54, 55, 56, 57, 58, 59, 60, 61, 62, 129, 130, 131, 132, 133] (by decide +kernel) (by decide +kernel)
set_option maxRecDepth 20000 in
theorem gX8_stand_X0_workOutFrom : GoodIn wsX8_stand (wsV RX8 117 RX0 yX0_workOutFrom wsX0_workOutFrom) := goodIn_app (goodIn_of _ (by decide +kernel)) ggX8_stand_X0_workOutFrom
set_option maxRecDepth 20000 in
theorem ggX8_stand_X3_bestStand : GoodIn wsX8_stand wsX3_bestStand := goodIn_r _ [67, 68, 69, 70, 66, 71, 72, 73, 74, 75, 76, 77, 78, 79, 16, 80, 22, 81, 82, 83, 84, 85, 86, 87, 88, 89, 90, 91, 92, 93, 58, 30, 59, 94, 95, 96, 97, 98, 99, 100, 101, 102, 103, 104, 105, 106, 107, 108, 109, 110, 42, 111, 112, 38, 39, 113, 114, 41, 43, 115, 45, 46, 116, 117, 118, 119, 120, 134, 135, 136, 137, 129, 130, 131, 132, 133, 138, 139, 140, 141] (by decide +kernel) (by decide +kernel)
set_option maxRecDepth 20000 in
theorem gX8_stand_X3_bestStand : GoodIn wsX8_stand (wsV RX8 128 RX3 yX3_bestStand wsX3_bestStand) := goodIn_app (goodIn_of _ (by decide +kernel)) ggX8_stand_X3_bestStand
set_option maxRecDepth 20000 in
theorem ggX8_stand_X3_leastSlack : GoodIn wsX8_stand wsX3_leastSlack := goodIn_r _ [71, 72, 73, 74, 75, 66, 76, 77, 78, 79, 16, 80, 22, 81, 82, 83, 84, 85, 86, 87, 88, 89, 90, 91, 92, 93, 58, 30, 59, 94, 95, 96, 97, 98, 99, 100, 101, 102, 103, 104, 105, 106, 107, 108, 109, 110, 42, 111, 112, 38, 39, 113, 114, 41, 43, 115, 45, 46, 116, 117, 118, 119, 120, 134, 135, 136, 137, 129, 130, 131, 132, 133, 138, 139, 140, 141] (by decide +kernel) (by decide +kernel)
set_option maxRecDepth 20000 in
theorem gX8_stand_X3_leastSlack : GoodIn wsX8_stand (wsV RX8 125 RX3 yX3_leastSlack wsX3_leastSlack) := goodIn_app (goodIn_of _ (by decide +kernel)) ggX8_stand_X3_leastSlack
theorem dX8_stand_0 : decode cX8_stand 0 = .ok (.iload_n 1, 1) := by decide +kernel
theorem dX8_stand_1 : decode cX8_stand 1 = .ok (.invokestatic 102, 3) := by decide +kernel
theorem dX8_stand_4 : decode cX8_stand 4 = .ok (.ifCond .eq 10, 3) := by decide +kernel
theorem dX8_stand_7 : decode cX8_stand 7 = .ok (.iload_n 2, 1) := by decide +kernel
theorem dX8_stand_8 : decode cX8_stand 8 = .ok (.invokestatic 76, 3) := by decide +kernel
theorem dX8_stand_11 : decode cX8_stand 11 = .ok (.ifCond .ne 6, 3) := by decide +kernel
theorem dX8_stand_14 : decode cX8_stand 14 = .ok (.bipush (-102), 2) := by decide +kernel
theorem dX8_stand_16 : decode cX8_stand 16 = .ok (.ireturn, 1) := by decide +kernel
theorem dX8_stand_17 : decode cX8_stand 17 = .ok (.iload_n 3, 1) := by decide +kernel
theorem dX8_stand_18 : decode cX8_stand 18 = .ok (.iconst 0, 1) := by decide +kernel
theorem dX8_stand_19 : decode cX8_stand 19 = .ok (.iconst 1, 1) := by decide +kernel
theorem dX8_stand_20 : decode cX8_stand 20 = .ok (.invokestatic 64, 3) := by decide +kernel
theorem dX8_stand_23 : decode cX8_stand 23 = .ok (.ifCond .ne 6, 3) := by decide +kernel
theorem dX8_stand_26 : decode cX8_stand 26 = .ok (.bipush (-103), 2) := by decide +kernel
theorem dX8_stand_28 : decode cX8_stand 28 = .ok (.ireturn, 1) := by decide +kernel
theorem dX8_stand_29 : decode cX8_stand 29 = .ok (.aload_n 0, 1) := by decide +kernel
theorem dX8_stand_30 : decode cX8_stand 30 = .ok (.getfield 10, 3) := by decide +kernel
theorem dX8_stand_33 : decode cX8_stand 33 = .ok (.iload_n 2, 1) := by decide +kernel
theorem dX8_stand_34 : decode cX8_stand 34 = .ok (.invokevirtual 117, 3) := by decide +kernel
theorem dX8_stand_37 : decode cX8_stand 37 = .ok (.aload_n 0, 1) := by decide +kernel
theorem dX8_stand_38 : decode cX8_stand 38 = .ok (.getfield 28, 3) := by decide +kernel
theorem dX8_stand_41 : decode cX8_stand 41 = .ok (.iload_n 1, 1) := by decide +kernel
theorem dX8_stand_42 : decode cX8_stand 42 = .ok (.iload_n 2, 1) := by decide +kernel
theorem dX8_stand_43 : decode cX8_stand 43 = .ok (.invokevirtual 128, 3) := by decide +kernel
theorem dX8_stand_46 : decode cX8_stand 46 = .ok (.istore 4, 2) := by decide +kernel
theorem dX8_stand_48 : decode cX8_stand 48 = .ok (.iload_n 3, 1) := by decide +kernel
theorem dX8_stand_49 : decode cX8_stand 49 = .ok (.ifCond .ne 6, 3) := by decide +kernel
theorem dX8_stand_52 : decode cX8_stand 52 = .ok (.iload 4, 2) := by decide +kernel
theorem dX8_stand_54 : decode cX8_stand 54 = .ok (.ireturn, 1) := by decide +kernel
theorem dX8_stand_55 : decode cX8_stand 55 = .ok (.iload 4, 2) := by decide +kernel
theorem dX8_stand_57 : decode cX8_stand 57 = .ok (.iconst (-1), 1) := by decide +kernel
theorem dX8_stand_58 : decode cX8_stand 58 = .ok (.if_icmp .ne 8, 3) := by decide +kernel
theorem dX8_stand_61 : decode cX8_stand 61 = .ok (.bipush (-100), 2) := by decide +kernel
theorem dX8_stand_63 : decode cX8_stand 63 = .ok (.goto 14, 3) := by decide +kernel
theorem dX8_stand_66 : decode cX8_stand 66 = .ok (.aload_n 0, 1) := by decide +kernel
theorem dX8_stand_67 : decode cX8_stand 67 = .ok (.getfield 28, 3) := by decide +kernel
theorem dX8_stand_70 : decode cX8_stand 70 = .ok (.iload_n 2, 1) := by decide +kernel
theorem dX8_stand_71 : decode cX8_stand 71 = .ok (.iload_n 1, 1) := by decide +kernel
theorem dX8_stand_72 : decode cX8_stand 72 = .ok (.iload 4, 2) := by decide +kernel
theorem dX8_stand_74 : decode cX8_stand 74 = .ok (.invokevirtual 125, 3) := by decide +kernel
theorem dX8_stand_77 : decode cX8_stand 77 = .ok (.ireturn, 1) := by decide +kernel
set_option maxRecDepth 20000 in
theorem ggX8_wins_X8_isPlayer : GoodIn wsX8_wins wsX8_isPlayer := goodIn_r _ [5, 6, 7, 4, 8] (by decide +kernel) (by decide +kernel)
set_option maxRecDepth 20000 in
theorem gX8_wins_X8_isPlayer : GoodIn wsX8_wins (va_wsS RX8 102 yX8_isPlayer wsX8_isPlayer) := goodIn_app (goodIn_of _ (by decide +kernel)) ggX8_wins_X8_isPlayer
set_option maxRecDepth 20000 in
theorem ggX8_wins_X8_isCell : GoodIn wsX8_wins wsX8_isCell := goodIn_r _ [11, 6, 7, 4, 8] (by decide +kernel) (by decide +kernel)
set_option maxRecDepth 20000 in
theorem gX8_wins_X8_isCell : GoodIn wsX8_wins (va_wsS RX8 76 yX8_isCell wsX8_isCell) := goodIn_app (goodIn_of _ (by decide +kernel)) ggX8_wins_X8_isCell
set_option maxRecDepth 20000 in
theorem ggX8_wins_X8_isWithin : GoodIn wsX8_wins wsX8_isWithin := goodIn_r _ [8] (by decide +kernel) (by decide +kernel)
set_option maxRecDepth 20000 in
theorem gX8_wins_X8_isWithin : GoodIn wsX8_wins (va_wsS RX8 64 yX8_isWithin wsX8_isWithin) := goodIn_app (goodIn_of _ (by decide +kernel)) ggX8_wins_X8_isWithin
set_option maxRecDepth 20000 in
theorem ggX8_wins_X3_canForce : GoodIn wsX8_wins wsX3_canForce := goodIn_r _ [16, 17, 18, 19, 20, 21, 22, 23, 24, 25, 26, 27, 28, 29, 30, 31, 32, 33, 34, 35, 36, 37, 38, 39, 40, 41, 42, 43, 44, 45, 46, 47, 48, 49, 50, 51, 52, 53, 54, 55, 56, 57, 58, 59, 60, 61, 62, 63, 64, 65, 66, 67, 68, 69, 70, 71, 15, 72, 73, 74, 75, 76, 77, 78, 79, 80, 81, 82, 83, 84, 85, 86, 87, 88, 89, 90, 91, 92, 93, 94, 95, 96, 97, 98, 99, 100, 101, 102, 103, 104, 105, 106, 107, 108, 109, 110, 111, 112, 113, 114, 115, 116, 117, 118, 119, 120, 121, 122, 123, 124, 125, 126, 127, 128, 129, 130, 131, 139, 140, 141, 142, 143, 144, 145, 146, 147, 148, 149, 150, 151] (by decide +kernel) (by decide +kernel)
set_option maxRecDepth 20000 in
theorem gX8_wins_X3_canForce : GoodIn wsX8_wins (wsV RX8 131 RX3 yX3_canForce wsX3_canForce) := goodIn_app (goodIn_of _ (by decide +kernel)) ggX8_wins_X3_canForce
theorem dX8_wins_0 : decode cX8_wins 0 = .ok (.iload_n 1, 1) := by decide +kernel
theorem dX8_wins_1 : decode cX8_wins 1 = .ok (.invokestatic 102, 3) := by decide +kernel
theorem dX8_wins_4 : decode cX8_wins 4 = .ok (.ifCond .eq 25, 3) := by decide +kernel
theorem dX8_wins_7 : decode cX8_wins 7 = .ok (.iload_n 2, 1) := by decide +kernel
theorem dX8_wins_8 : decode cX8_wins 8 = .ok (.invokestatic 102, 3) := by decide +kernel
theorem dX8_wins_11 : decode cX8_wins 11 = .ok (.ifCond .eq 18, 3) := by decide +kernel
theorem dX8_wins_14 : decode cX8_wins 14 = .ok (.iload_n 3, 1) := by decide +kernel
theorem dX8_wins_15 : decode cX8_wins 15 = .ok (.invokestatic 76, 3) := by decide +kernel
theorem dX8_wins_18 : decode cX8_wins 18 = .ok (.ifCond .eq 11, 3) := by decide +kernel
theorem dX8_wins_21 : decode cX8_wins 21 = .ok (.iload 4, 2) := by decide +kernel
theorem dX8_wins_23 : decode cX8_wins 23 = .ok (.invokestatic 76, 3) := by decide +kernel
theorem dX8_wins_26 : decode cX8_wins 26 = .ok (.ifCond .ne 6, 3) := by decide +kernel
theorem dX8_wins_29 : decode cX8_wins 29 = .ok (.bipush (-2), 2) := by decide +kernel
theorem dX8_wins_31 : decode cX8_wins 31 = .ok (.ireturn, 1) := by decide +kernel
theorem dX8_wins_32 : decode cX8_wins 32 = .ok (.iload 5, 2) := by decide +kernel
theorem dX8_wins_34 : decode cX8_wins 34 = .ok (.iconst 1, 1) := by decide +kernel
theorem dX8_wins_35 : decode cX8_wins 35 = .ok (.iconst 4, 1) := by decide +kernel
theorem dX8_wins_36 : decode cX8_wins 36 = .ok (.invokestatic 64, 3) := by decide +kernel
theorem dX8_wins_39 : decode cX8_wins 39 = .ok (.ifCond .eq 8, 3) := by decide +kernel
theorem dX8_wins_42 : decode cX8_wins 42 = .ok (.iload_n 1, 1) := by decide +kernel
theorem dX8_wins_43 : decode cX8_wins 43 = .ok (.iload_n 2, 1) := by decide +kernel
theorem dX8_wins_44 : decode cX8_wins 44 = .ok (.if_icmp .ne 6, 3) := by decide +kernel
theorem dX8_wins_47 : decode cX8_wins 47 = .ok (.bipush (-3), 2) := by decide +kernel
theorem dX8_wins_49 : decode cX8_wins 49 = .ok (.ireturn, 1) := by decide +kernel
theorem dX8_wins_50 : decode cX8_wins 50 = .ok (.aload_n 0, 1) := by decide +kernel
theorem dX8_wins_51 : decode cX8_wins 51 = .ok (.getfield 28, 3) := by decide +kernel
theorem dX8_wins_54 : decode cX8_wins 54 = .ok (.iload_n 1, 1) := by decide +kernel
theorem dX8_wins_55 : decode cX8_wins 55 = .ok (.iload_n 2, 1) := by decide +kernel
theorem dX8_wins_56 : decode cX8_wins 56 = .ok (.iload_n 3, 1) := by decide +kernel
theorem dX8_wins_57 : decode cX8_wins 57 = .ok (.iload 4, 2) := by decide +kernel
theorem dX8_wins_59 : decode cX8_wins 59 = .ok (.iload 5, 2) := by decide +kernel
theorem dX8_wins_61 : decode cX8_wins 61 = .ok (.invokevirtual 131, 3) := by decide +kernel
theorem dX8_wins_64 : decode cX8_wins 64 = .ok (.ifCond .eq 7, 3) := by decide +kernel
theorem dX8_wins_67 : decode cX8_wins 67 = .ok (.iconst 1, 1) := by decide +kernel
theorem dX8_wins_68 : decode cX8_wins 68 = .ok (.goto 4, 3) := by decide +kernel
theorem dX8_wins_71 : decode cX8_wins 71 = .ok (.iconst 0, 1) := by decide +kernel
theorem dX8_wins_72 : decode cX8_wins 72 = .ok (.ireturn, 1) := by decide +kernel
set_option maxRecDepth 20000 in
theorem ggX8_rally_X8_isWithin : GoodIn wsX8_rally wsX8_isWithin := goodIn_r _ [5] (by decide +kernel) (by decide +kernel)
set_option maxRecDepth 20000 in
theorem gX8_rally_X8_isWithin : GoodIn wsX8_rally (va_wsS RX8 64 yX8_isWithin wsX8_isWithin) := goodIn_app (goodIn_of _ (by decide +kernel)) ggX8_rally_X8_isWithin
set_option maxRecDepth 20000 in
theorem ggX8_rally_X7_isOver : GoodIn wsX8_rally wsX7_isOver := goodIn_r _ [10, 11, 12, 13, 14, 9, 15, 28, 29] (by decide +kernel) (by decide +kernel)
set_option maxRecDepth 20000 in
theorem gX8_rally_X7_isOver : GoodIn wsX8_rally (wsV RX8 135 RX7 yX7_isOver wsX7_isOver) := goodIn_app (goodIn_of _ (by decide +kernel)) ggX8_rally_X7_isOver
set_option maxRecDepth 20000 in
theorem ggX8_rally_X7_tell : GoodIn wsX8_rally wsX7_tell := goodIn_r _ [19, 11, 20, 12, 13, 14, 9, 15, 28, 29] (by decide +kernel) (by decide +kernel)
set_option maxRecDepth 20000 in
theorem gX8_rally_X7_tell : GoodIn wsX8_rally (wsV RX8 139 RX7 yX7_tell wsX7_tell) := goodIn_app (goodIn_of _ (by decide +kernel)) ggX8_rally_X7_tell
theorem dX8_rally_0 : decode cX8_rally 0 = .ok (.iload_n 1, 1) := by decide +kernel
theorem dX8_rally_1 : decode cX8_rally 1 = .ok (.iconst 0, 1) := by decide +kernel
theorem dX8_rally_2 : decode cX8_rally 2 = .ok (.iconst 2, 1) := by decide +kernel
theorem dX8_rally_3 : decode cX8_rally 3 = .ok (.invokestatic 64, 3) := by decide +kernel
theorem dX8_rally_6 : decode cX8_rally 6 = .ok (.ifCond .ne 6, 3) := by decide +kernel
theorem dX8_rally_9 : decode cX8_rally 9 = .ok (.bipush (-3), 2) := by decide +kernel
theorem dX8_rally_11 : decode cX8_rally 11 = .ok (.ireturn, 1) := by decide +kernel
theorem dX8_rally_12 : decode cX8_rally 12 = .ok (.aload_n 0, 1) := by decide +kernel
theorem dX8_rally_13 : decode cX8_rally 13 = .ok (.getfield 35, 3) := by decide +kernel
theorem dX8_rally_16 : decode cX8_rally 16 = .ok (.invokevirtual 135, 3) := by decide +kernel
theorem dX8_rally_19 : decode cX8_rally 19 = .ok (.ifCond .eq 6, 3) := by decide +kernel
theorem dX8_rally_22 : decode cX8_rally 22 = .ok (.bipush (-4), 2) := by decide +kernel
theorem dX8_rally_24 : decode cX8_rally 24 = .ok (.ireturn, 1) := by decide +kernel
theorem dX8_rally_25 : decode cX8_rally 25 = .ok (.aload_n 0, 1) := by decide +kernel
theorem dX8_rally_26 : decode cX8_rally 26 = .ok (.getfield 35, 3) := by decide +kernel
theorem dX8_rally_29 : decode cX8_rally 29 = .ok (.iload_n 1, 1) := by decide +kernel
theorem dX8_rally_30 : decode cX8_rally 30 = .ok (.invokevirtual 139, 3) := by decide +kernel
theorem dX8_rally_33 : decode cX8_rally 33 = .ok (.ireturn, 1) := by decide +kernel
set_option maxRecDepth 20000 in
theorem ggX8_three_X8_isWithin : GoodIn wsX8_three wsX8_isWithin := goodIn_r _ [5] (by decide +kernel) (by decide +kernel)
set_option maxRecDepth 20000 in
theorem gX8_three_X8_isWithin : GoodIn wsX8_three (va_wsS RX8 64 yX8_isWithin wsX8_isWithin) := goodIn_app (goodIn_of _ (by decide +kernel)) ggX8_three_X8_isWithin
set_option maxRecDepth 20000 in
theorem ggX8_three_X7_read : GoodIn wsX8_three wsX7_read := goodIn_r _ [10, 11, 12, 13, 14, 15, 9, 16, 17, 18, 19, 20, 28, 29] (by decide +kernel) (by decide +kernel)
set_option maxRecDepth 20000 in
theorem gX8_three_X7_read : GoodIn wsX8_three (wsV RX8 142 RX7 yX7_read wsX7_read) := goodIn_app (goodIn_of _ (by decide +kernel)) ggX8_three_X7_read
theorem dX8_three_0 : decode cX8_three 0 = .ok (.iload_n 1, 1) := by decide +kernel
theorem dX8_three_1 : decode cX8_three 1 = .ok (.iconst 0, 1) := by decide +kernel
theorem dX8_three_2 : decode cX8_three 2 = .ok (.iconst 5, 1) := by decide +kernel
theorem dX8_three_3 : decode cX8_three 3 = .ok (.invokestatic 64, 3) := by decide +kernel
theorem dX8_three_6 : decode cX8_three 6 = .ok (.ifCond .ne 6, 3) := by decide +kernel
theorem dX8_three_9 : decode cX8_three 9 = .ok (.bipush (-3), 2) := by decide +kernel
theorem dX8_three_11 : decode cX8_three 11 = .ok (.ireturn, 1) := by decide +kernel
theorem dX8_three_12 : decode cX8_three 12 = .ok (.aload_n 0, 1) := by decide +kernel
theorem dX8_three_13 : decode cX8_three 13 = .ok (.getfield 35, 3) := by decide +kernel
theorem dX8_three_16 : decode cX8_three 16 = .ok (.iload_n 1, 1) := by decide +kernel
theorem dX8_three_17 : decode cX8_three 17 = .ok (.invokevirtual 142, 3) := by decide +kernel
theorem dX8_three_20 : decode cX8_three 20 = .ok (.ireturn, 1) := by decide +kernel
set_option maxRecDepth 20000 in
theorem ggX8_again_X7_restart : GoodIn wsX8_again wsX7_restart := goodIn_r _ [6, 7, 8, 16, 17] (by decide +kernel) (by decide +kernel)
set_option maxRecDepth 20000 in
theorem gX8_again_X7_restart : GoodIn wsX8_again (wsV RX8 145 RX7 yX7_restart wsX7_restart) := goodIn_app (goodIn_of _ (by decide +kernel)) ggX8_again_X7_restart
theorem dX8_again_0 : decode cX8_again 0 = .ok (.aload_n 0, 1) := by decide +kernel
theorem dX8_again_1 : decode cX8_again 1 = .ok (.getfield 35, 3) := by decide +kernel
theorem dX8_again_4 : decode cX8_again 4 = .ok (.invokevirtual 145, 3) := by decide +kernel
theorem dX8_again_7 : decode cX8_again 7 = .ok (.ireturn, 1) := by decide +kernel
set_option maxRecDepth 20000 in
theorem ggX8_note_X8_isWithin : GoodIn wsX8_note wsX8_isWithin := goodIn_r _ [5] (by decide +kernel) (by decide +kernel)
set_option maxRecDepth 20000 in
theorem gX8_note_X8_isWithin : GoodIn wsX8_note (va_wsS RX8 64 yX8_isWithin wsX8_isWithin) := goodIn_app (goodIn_of _ (by decide +kernel)) ggX8_note_X8_isWithin
set_option maxRecDepth 20000 in
theorem ggX8_note_X5_add : GoodIn wsX8_note wsX5_add := goodIn_r _ [10, 11, 12, 13, 14, 15, 23, 24, 25, 26, 27] (by decide +kernel) (by decide +kernel)
set_option maxRecDepth 20000 in
theorem gX8_note_X5_add : GoodIn wsX8_note (wsV RX8 149 RX5 yX5_add wsX5_add) := goodIn_app (goodIn_of _ (by decide +kernel)) ggX8_note_X5_add
theorem dX8_note_0 : decode cX8_note 0 = .ok (.iload_n 1, 1) := by decide +kernel
theorem dX8_note_1 : decode cX8_note 1 = .ok (.iconst (-1), 1) := by decide +kernel
theorem dX8_note_2 : decode cX8_note 2 = .ok (.iconst 3, 1) := by decide +kernel
theorem dX8_note_3 : decode cX8_note 3 = .ok (.invokestatic 64, 3) := by decide +kernel
theorem dX8_note_6 : decode cX8_note 6 = .ok (.ifCond .eq 12, 3) := by decide +kernel
theorem dX8_note_9 : decode cX8_note 9 = .ok (.iload_n 2, 1) := by decide +kernel
theorem dX8_note_10 : decode cX8_note 10 = .ok (.iconst (-1), 1) := by decide +kernel
theorem dX8_note_11 : decode cX8_note 11 = .ok (.iconst 3, 1) := by decide +kernel
theorem dX8_note_12 : decode cX8_note 12 = .ok (.invokestatic 64, 3) := by decide +kernel
theorem dX8_note_15 : decode cX8_note 15 = .ok (.ifCond .ne 6, 3) := by decide +kernel
theorem dX8_note_18 : decode cX8_note 18 = .ok (.bipush (-3), 2) := by decide +kernel
theorem dX8_note_20 : decode cX8_note 20 = .ok (.ireturn, 1) := by decide +kernel
theorem dX8_note_21 : decode cX8_note 21 = .ok (.aload_n 0, 1) := by decide +kernel
theorem dX8_note_22 : decode cX8_note 22 = .ok (.getfield 42, 3) := by decide +kernel
theorem dX8_note_25 : decode cX8_note 25 = .ok (.iload_n 1, 1) := by decide +kernel
theorem dX8_note_26 : decode cX8_note 26 = .ok (.iload_n 2, 1) := by decide +kernel
theorem dX8_note_27 : decode cX8_note 27 = .ok (.iload_n 3, 1) := by decide +kernel
theorem dX8_note_28 : decode cX8_note 28 = .ok (.invokevirtual 149, 3) := by decide +kernel
theorem dX8_note_31 : decode cX8_note 31 = .ok (.ireturn, 1) := by decide +kernel
set_option maxRecDepth 20000 in
theorem ggX8_tally_X8_isZone : GoodIn wsX8_tally wsX8_isZone := goodIn_r _ [5, 6, 7, 4, 8] (by decide +kernel) (by decide +kernel)
set_option maxRecDepth 20000 in
theorem gX8_tally_X8_isZone : GoodIn wsX8_tally (va_wsS RX8 153 yX8_isZone wsX8_isZone) := goodIn_app (goodIn_of _ (by decide +kernel)) ggX8_tally_X8_isZone
set_option maxRecDepth 20000 in
theorem ggX8_tally_X8_isKind : GoodIn wsX8_tally wsX8_isKind := goodIn_r _ [11, 6, 7, 4, 8] (by decide +kernel) (by decide +kernel)
set_option maxRecDepth 20000 in
theorem gX8_tally_X8_isKind : GoodIn wsX8_tally (va_wsS RX8 60 yX8_isKind wsX8_isKind) := goodIn_app (goodIn_of _ (by decide +kernel)) ggX8_tally_X8_isKind
set_option maxRecDepth 20000 in
theorem ggX8_tally_X8_isWithin : GoodIn wsX8_tally wsX8_isWithin := goodIn_r _ [8] (by decide +kernel) (by decide +kernel)
set_option maxRecDepth 20000 in
theorem gX8_tally_X8_isWithin : GoodIn wsX8_tally (va_wsS RX8 64 yX8_isWithin wsX8_isWithin) := goodIn_app (goodIn_of _ (by decide +kernel)) ggX8_tally_X8_isWithin
set_option maxRecDepth 20000 in
theorem ggX8_tally_X5_read : GoodIn wsX8_tally wsX5_read := goodIn_r _ [16, 17, 18, 19, 20, 28, 29, 30, 31, 32] (by decide +kernel) (by decide +kernel)
set_option maxRecDepth 20000 in
theorem gX8_tally_X5_read : GoodIn wsX8_tally (wsV RX8 156 RX5 yX5_read wsX5_read) := goodIn_app (goodIn_of _ (by decide +kernel)) ggX8_tally_X5_read
theorem dX8_tally_0 : decode cX8_tally 0 = .ok (.iload_n 1, 1) := by decide +kernel
theorem dX8_tally_1 : decode cX8_tally 1 = .ok (.invokestatic 153, 3) := by decide +kernel
theorem dX8_tally_4 : decode cX8_tally 4 = .ok (.ifCond .eq 10, 3) := by decide +kernel
theorem dX8_tally_7 : decode cX8_tally 7 = .ok (.iload_n 2, 1) := by decide +kernel
theorem dX8_tally_8 : decode cX8_tally 8 = .ok (.invokestatic 60, 3) := by decide +kernel
theorem dX8_tally_11 : decode cX8_tally 11 = .ok (.ifCond .ne 6, 3) := by decide +kernel
theorem dX8_tally_14 : decode cX8_tally 14 = .ok (.bipush (-2), 2) := by decide +kernel
theorem dX8_tally_16 : decode cX8_tally 16 = .ok (.ireturn, 1) := by decide +kernel
theorem dX8_tally_17 : decode cX8_tally 17 = .ok (.iload_n 3, 1) := by decide +kernel
theorem dX8_tally_18 : decode cX8_tally 18 = .ok (.iconst 0, 1) := by decide +kernel
theorem dX8_tally_19 : decode cX8_tally 19 = .ok (.iconst 3, 1) := by decide +kernel
theorem dX8_tally_20 : decode cX8_tally 20 = .ok (.invokestatic 64, 3) := by decide +kernel
theorem dX8_tally_23 : decode cX8_tally 23 = .ok (.ifCond .ne 6, 3) := by decide +kernel
theorem dX8_tally_26 : decode cX8_tally 26 = .ok (.bipush (-3), 2) := by decide +kernel
theorem dX8_tally_28 : decode cX8_tally 28 = .ok (.ireturn, 1) := by decide +kernel
theorem dX8_tally_29 : decode cX8_tally 29 = .ok (.aload_n 0, 1) := by decide +kernel
theorem dX8_tally_30 : decode cX8_tally 30 = .ok (.getfield 42, 3) := by decide +kernel
theorem dX8_tally_33 : decode cX8_tally 33 = .ok (.iload_n 1, 1) := by decide +kernel
theorem dX8_tally_34 : decode cX8_tally 34 = .ok (.iload_n 2, 1) := by decide +kernel
theorem dX8_tally_35 : decode cX8_tally 35 = .ok (.iload_n 3, 1) := by decide +kernel
theorem dX8_tally_36 : decode cX8_tally 36 = .ok (.invokevirtual 156, 3) := by decide +kernel
theorem dX8_tally_39 : decode cX8_tally 39 = .ok (.ireturn, 1) := by decide +kernel
set_option maxRecDepth 20000 in
theorem ggX8_habit_X8_isZone : GoodIn wsX8_habit wsX8_isZone := goodIn_r _ [5, 6, 7, 4, 8] (by decide +kernel) (by decide +kernel)
set_option maxRecDepth 20000 in
theorem gX8_habit_X8_isZone : GoodIn wsX8_habit (va_wsS RX8 153 yX8_isZone wsX8_isZone) := goodIn_app (goodIn_of _ (by decide +kernel)) ggX8_habit_X8_isZone
set_option maxRecDepth 20000 in
theorem ggX8_habit_X8_isKind : GoodIn wsX8_habit wsX8_isKind := goodIn_r _ [11, 6, 7, 4, 8] (by decide +kernel) (by decide +kernel)
set_option maxRecDepth 20000 in
theorem gX8_habit_X8_isKind : GoodIn wsX8_habit (va_wsS RX8 60 yX8_isKind wsX8_isKind) := goodIn_app (goodIn_of _ (by decide +kernel)) ggX8_habit_X8_isKind
set_option maxRecDepth 20000 in
theorem ggX8_habit_X5_isPastChance : GoodIn wsX8_habit wsX5_isPastChance := goodIn_r _ [16, 17, 18, 19, 20, 21, 22, 23, 24, 25, 26, 27, 28, 15, 29, 30, 31, 32, 33, 34, 35, 43, 44, 45, 46, 47] (by decide +kernel) (by decide +kernel)
set_option maxRecDepth 20000 in
theorem gX8_habit_X5_isPastChance : GoodIn wsX8_habit (wsV RX8 158 RX5 yX5_isPastChance wsX5_isPastChance) := goodIn_app (goodIn_of _ (by decide +kernel)) ggX8_habit_X5_isPastChance
theorem dX8_habit_0 : decode cX8_habit 0 = .ok (.iload_n 1, 1) := by decide +kernel
theorem dX8_habit_1 : decode cX8_habit 1 = .ok (.invokestatic 153, 3) := by decide +kernel
theorem dX8_habit_4 : decode cX8_habit 4 = .ok (.ifCond .eq 10, 3) := by decide +kernel
theorem dX8_habit_7 : decode cX8_habit 7 = .ok (.iload_n 2, 1) := by decide +kernel
theorem dX8_habit_8 : decode cX8_habit 8 = .ok (.invokestatic 60, 3) := by decide +kernel
theorem dX8_habit_11 : decode cX8_habit 11 = .ok (.ifCond .ne 6, 3) := by decide +kernel
theorem dX8_habit_14 : decode cX8_habit 14 = .ok (.bipush (-2), 2) := by decide +kernel
theorem dX8_habit_16 : decode cX8_habit 16 = .ok (.ireturn, 1) := by decide +kernel
theorem dX8_habit_17 : decode cX8_habit 17 = .ok (.aload_n 0, 1) := by decide +kernel
theorem dX8_habit_18 : decode cX8_habit 18 = .ok (.getfield 42, 3) := by decide +kernel
theorem dX8_habit_21 : decode cX8_habit 21 = .ok (.iload_n 1, 1) := by decide +kernel
theorem dX8_habit_22 : decode cX8_habit 22 = .ok (.iload_n 2, 1) := by decide +kernel
theorem dX8_habit_23 : decode cX8_habit 23 = .ok (.invokevirtual 158, 3) := by decide +kernel
theorem dX8_habit_26 : decode cX8_habit 26 = .ok (.ifCond .eq 7, 3) := by decide +kernel
theorem dX8_habit_29 : decode cX8_habit 29 = .ok (.iconst 1, 1) := by decide +kernel
theorem dX8_habit_30 : decode cX8_habit 30 = .ok (.goto 4, 3) := by decide +kernel
theorem dX8_habit_33 : decode cX8_habit 33 = .ok (.iconst 0, 1) := by decide +kernel
theorem dX8_habit_34 : decode cX8_habit 34 = .ok (.ireturn, 1) := by decide +kernel
set_option maxRecDepth 20000 in
theorem ggX8_strongest_X5_strongestHabit : GoodIn wsX8_strongest wsX5_strongestHabit := goodIn_r _ [6, 7, 8, 9, 10, 11, 5, 12, 13, 14, 15, 16, 17, 18, 19, 20, 21, 22, 23, 24, 25, 26, 27, 28, 29, 37, 38, 39, 40, 41] (by decide +kernel) (by decide +kernel)
set_option maxRecDepth 20000 in
theorem gX8_strongest_X5_strongestHabit : GoodIn wsX8_strongest (wsV RX8 162 RX5 yX5_strongestHabit wsX5_strongestHabit) := goodIn_app (goodIn_of _ (by decide +kernel)) ggX8_strongest_X5_strongestHabit
theorem dX8_strongest_0 : decode cX8_strongest 0 = .ok (.aload_n 0, 1) := by decide +kernel
theorem dX8_strongest_1 : decode cX8_strongest 1 = .ok (.getfield 42, 3) := by decide +kernel
theorem dX8_strongest_4 : decode cX8_strongest 4 = .ok (.invokevirtual 162, 3) := by decide +kernel
theorem dX8_strongest_7 : decode cX8_strongest 7 = .ok (.ireturn, 1) := by decide +kernel
set_option maxRecDepth 20000 in
theorem ggX8_cost_X8_isWithin : GoodIn wsX8_cost wsX8_isWithin := goodIn_r _ [5] (by decide +kernel) (by decide +kernel)
set_option maxRecDepth 20000 in
theorem gX8_cost_X8_isWithin : GoodIn wsX8_cost (va_wsS RX8 64 yX8_isWithin wsX8_isWithin) := goodIn_app (goodIn_of _ (by decide +kernel)) ggX8_cost_X8_isWithin
set_option maxRecDepth 20000 in
theorem ggX8_cost_X1_setPrice : GoodIn wsX8_cost wsX1_setPrice := goodIn_r _ [10, 11, 24, 25, 26, 27, 28, 29] (by decide +kernel) (by decide +kernel)
set_option maxRecDepth 20000 in
theorem gX8_cost_X1_setPrice : GoodIn wsX8_cost (wsV RX8 165 RX1 yX1_setPrice wsX1_setPrice) := goodIn_app (goodIn_of _ (by decide +kernel)) ggX8_cost_X1_setPrice
set_option maxRecDepth 20000 in
theorem ggX8_cost_X1_setLoss : GoodIn wsX8_cost wsX1_setLoss := goodIn_r _ [15, 16, 24, 25, 26, 27, 28, 29] (by decide +kernel) (by decide +kernel)
set_option maxRecDepth 20000 in
theorem gX8_cost_X1_setLoss : GoodIn wsX8_cost (wsV RX8 168 RX1 yX1_setLoss wsX1_setLoss) := goodIn_app (goodIn_of _ (by decide +kernel)) ggX8_cost_X1_setLoss
theorem dX8_cost_0 : decode cX8_cost 0 = .ok (.iload_n 1, 1) := by decide +kernel
theorem dX8_cost_1 : decode cX8_cost 1 = .ok (.iconst 0, 1) := by decide +kernel
theorem dX8_cost_2 : decode cX8_cost 2 = .ok (.iconst 1, 1) := by decide +kernel
theorem dX8_cost_3 : decode cX8_cost 3 = .ok (.invokestatic 64, 3) := by decide +kernel
theorem dX8_cost_6 : decode cX8_cost 6 = .ok (.ifCond .ne 6, 3) := by decide +kernel
theorem dX8_cost_9 : decode cX8_cost 9 = .ok (.bipush (-3), 2) := by decide +kernel
theorem dX8_cost_11 : decode cX8_cost 11 = .ok (.ireturn, 1) := by decide +kernel
theorem dX8_cost_12 : decode cX8_cost 12 = .ok (.iload_n 1, 1) := by decide +kernel
theorem dX8_cost_13 : decode cX8_cost 13 = .ok (.ifCond .ne 28, 3) := by decide +kernel
theorem dX8_cost_16 : decode cX8_cost 16 = .ok (.iload_n 2, 1) := by decide +kernel
theorem dX8_cost_17 : decode cX8_cost 17 = .ok (.iconst 1, 1) := by decide +kernel
theorem dX8_cost_18 : decode cX8_cost 18 = .ok (.sipush 999, 3) := by decide +kernel
theorem dX8_cost_21 : decode cX8_cost 21 = .ok (.invokestatic 64, 3) := by decide +kernel
theorem dX8_cost_24 : decode cX8_cost 24 = .ok (.ifCond .eq 14, 3) := by decide +kernel
theorem dX8_cost_27 : decode cX8_cost 27 = .ok (.aload_n 0, 1) := by decide +kernel
theorem dX8_cost_28 : decode cX8_cost 28 = .ok (.getfield 49, 3) := by decide +kernel
theorem dX8_cost_31 : decode cX8_cost 31 = .ok (.iload_n 2, 1) := by decide +kernel
theorem dX8_cost_32 : decode cX8_cost 32 = .ok (.invokevirtual 165, 3) := by decide +kernel
theorem dX8_cost_35 : decode cX8_cost 35 = .ok (.goto 5, 3) := by decide +kernel
theorem dX8_cost_38 : decode cX8_cost 38 = .ok (.bipush (-3), 2) := by decide +kernel
theorem dX8_cost_40 : decode cX8_cost 40 = .ok (.ireturn, 1) := by decide +kernel
theorem dX8_cost_41 : decode cX8_cost 41 = .ok (.iload_n 2, 1) := by decide +kernel
theorem dX8_cost_42 : decode cX8_cost 42 = .ok (.iconst 0, 1) := by decide +kernel
theorem dX8_cost_43 : decode cX8_cost 43 = .ok (.bipush 99, 2) := by decide +kernel
theorem dX8_cost_45 : decode cX8_cost 45 = .ok (.invokestatic 64, 3) := by decide +kernel
theorem dX8_cost_48 : decode cX8_cost 48 = .ok (.ifCond .eq 14, 3) := by decide +kernel
theorem dX8_cost_51 : decode cX8_cost 51 = .ok (.aload_n 0, 1) := by decide +kernel
theorem dX8_cost_52 : decode cX8_cost 52 = .ok (.getfield 49, 3) := by decide +kernel
theorem dX8_cost_55 : decode cX8_cost 55 = .ok (.iload_n 2, 1) := by decide +kernel
theorem dX8_cost_56 : decode cX8_cost 56 = .ok (.invokevirtual 168, 3) := by decide +kernel
theorem dX8_cost_59 : decode cX8_cost 59 = .ok (.goto 5, 3) := by decide +kernel
theorem dX8_cost_62 : decode cX8_cost 62 = .ok (.bipush (-3), 2) := by decide +kernel
theorem dX8_cost_64 : decode cX8_cost 64 = .ok (.ireturn, 1) := by decide +kernel
set_option maxRecDepth 20000 in
theorem ggX8_wear_X8_isKind : GoodIn wsX8_wear wsX8_isKind := goodIn_r _ [5, 6, 7, 4, 8] (by decide +kernel) (by decide +kernel)
set_option maxRecDepth 20000 in
theorem gX8_wear_X8_isKind : GoodIn wsX8_wear (va_wsS RX8 60 yX8_isKind wsX8_isKind) := goodIn_app (goodIn_of _ (by decide +kernel)) ggX8_wear_X8_isKind
set_option maxRecDepth 20000 in
theorem ggX8_wear_X8_isWithin : GoodIn wsX8_wear wsX8_isWithin := goodIn_r _ [8] (by decide +kernel) (by decide +kernel)
set_option maxRecDepth 20000 in
theorem gX8_wear_X8_isWithin : GoodIn wsX8_wear (va_wsS RX8 64 yX8_isWithin wsX8_isWithin) := goodIn_app (goodIn_of _ (by decide +kernel)) ggX8_wear_X8_isWithin
set_option maxRecDepth 20000 in
theorem ggX8_wear_X1_setWear : GoodIn wsX8_wear wsX1_setWear := goodIn_r _ [13, 14, 22, 23, 24, 25, 26, 27] (by decide +kernel) (by decide +kernel)
set_option maxRecDepth 20000 in
theorem gX8_wear_X1_setWear : GoodIn wsX8_wear (wsV RX8 171 RX1 yX1_setWear wsX1_setWear) := goodIn_app (goodIn_of _ (by decide +kernel)) ggX8_wear_X1_setWear
theorem dX8_wear_0 : decode cX8_wear 0 = .ok (.iload_n 1, 1) := by decide +kernel
theorem dX8_wear_1 : decode cX8_wear 1 = .ok (.invokestatic 60, 3) := by decide +kernel
theorem dX8_wear_4 : decode cX8_wear 4 = .ok (.ifCond .ne 6, 3) := by decide +kernel
theorem dX8_wear_7 : decode cX8_wear 7 = .ok (.bipush (-2), 2) := by decide +kernel
theorem dX8_wear_9 : decode cX8_wear 9 = .ok (.ireturn, 1) := by decide +kernel
theorem dX8_wear_10 : decode cX8_wear 10 = .ok (.iload_n 2, 1) := by decide +kernel
theorem dX8_wear_11 : decode cX8_wear 11 = .ok (.iconst 0, 1) := by decide +kernel
theorem dX8_wear_12 : decode cX8_wear 12 = .ok (.bipush 9, 2) := by decide +kernel
theorem dX8_wear_14 : decode cX8_wear 14 = .ok (.invokestatic 64, 3) := by decide +kernel
theorem dX8_wear_17 : decode cX8_wear 17 = .ok (.ifCond .ne 6, 3) := by decide +kernel
theorem dX8_wear_20 : decode cX8_wear 20 = .ok (.bipush (-3), 2) := by decide +kernel
theorem dX8_wear_22 : decode cX8_wear 22 = .ok (.ireturn, 1) := by decide +kernel
theorem dX8_wear_23 : decode cX8_wear 23 = .ok (.aload_n 0, 1) := by decide +kernel
theorem dX8_wear_24 : decode cX8_wear 24 = .ok (.getfield 49, 3) := by decide +kernel
theorem dX8_wear_27 : decode cX8_wear 27 = .ok (.iload_n 1, 1) := by decide +kernel
theorem dX8_wear_28 : decode cX8_wear 28 = .ok (.iload_n 2, 1) := by decide +kernel
theorem dX8_wear_29 : decode cX8_wear 29 = .ok (.invokevirtual 171, 3) := by decide +kernel
theorem dX8_wear_32 : decode cX8_wear 32 = .ok (.ireturn, 1) := by decide +kernel
set_option maxRecDepth 20000 in
theorem ggX8_plan_X8_isKind : GoodIn wsX8_plan wsX8_isKind := goodIn_r _ [5, 6, 7, 4, 8] (by decide +kernel) (by decide +kernel)
set_option maxRecDepth 20000 in
theorem gX8_plan_X8_isKind : GoodIn wsX8_plan (va_wsS RX8 60 yX8_isKind wsX8_isKind) := goodIn_app (goodIn_of _ (by decide +kernel)) ggX8_plan_X8_isKind
set_option maxRecDepth 20000 in
theorem ggX8_plan_X1_add : GoodIn wsX8_plan wsX1_add := goodIn_r _ [13, 14, 15, 23, 24, 25, 26, 27, 28] (by decide +kernel) (by decide +kernel)
set_option maxRecDepth 20000 in
theorem gX8_plan_X1_add : GoodIn wsX8_plan (wsV RX8 174 RX1 yX1_add wsX1_add) := goodIn_app (goodIn_of _ (by decide +kernel)) ggX8_plan_X1_add
theorem dX8_plan_0 : decode cX8_plan 0 = .ok (.iload_n 1, 1) := by decide +kernel
theorem dX8_plan_1 : decode cX8_plan 1 = .ok (.invokestatic 60, 3) := by decide +kernel
theorem dX8_plan_4 : decode cX8_plan 4 = .ok (.ifCond .ne 6, 3) := by decide +kernel
theorem dX8_plan_7 : decode cX8_plan 7 = .ok (.bipush (-2), 2) := by decide +kernel
theorem dX8_plan_9 : decode cX8_plan 9 = .ok (.ireturn, 1) := by decide +kernel
theorem dX8_plan_10 : decode cX8_plan 10 = .ok (.aload_n 0, 1) := by decide +kernel
theorem dX8_plan_11 : decode cX8_plan 11 = .ok (.getfield 49, 3) := by decide +kernel
theorem dX8_plan_14 : decode cX8_plan 14 = .ok (.iload_n 1, 1) := by decide +kernel
theorem dX8_plan_15 : decode cX8_plan 15 = .ok (.invokevirtual 174, 3) := by decide +kernel
theorem dX8_plan_18 : decode cX8_plan 18 = .ok (.ireturn, 1) := by decide +kernel
set_option maxRecDepth 20000 in
theorem ggX8_unplan_X1_clear : GoodIn wsX8_unplan wsX1_clear := goodIn_r _ [6, 7, 15, 16, 17, 18, 19, 20] (by decide +kernel) (by decide +kernel)
set_option maxRecDepth 20000 in
theorem gX8_unplan_X1_clear : GoodIn wsX8_unplan (wsV RX8 176 RX1 yX1_clear wsX1_clear) := goodIn_app (goodIn_of _ (by decide +kernel)) ggX8_unplan_X1_clear
theorem dX8_unplan_0 : decode cX8_unplan 0 = .ok (.aload_n 0, 1) := by decide +kernel
theorem dX8_unplan_1 : decode cX8_unplan 1 = .ok (.getfield 49, 3) := by decide +kernel
theorem dX8_unplan_4 : decode cX8_unplan 4 = .ok (.invokevirtual 176, 3) := by decide +kernel
theorem dX8_unplan_7 : decode cX8_unplan 7 = .ok (.ireturn, 1) := by decide +kernel
set_option maxRecDepth 20000 in
theorem ggX8_costs_X8_isWithin : GoodIn wsX8_costs wsX8_isWithin := goodIn_r _ [5] (by decide +kernel) (by decide +kernel)
set_option maxRecDepth 20000 in
theorem gX8_costs_X8_isWithin : GoodIn wsX8_costs (va_wsS RX8 64 yX8_isWithin wsX8_isWithin) := goodIn_app (goodIn_of _ (by decide +kernel)) ggX8_costs_X8_isWithin
set_option maxRecDepth 20000 in
theorem ggX8_costs_X1_isEmpty : GoodIn wsX8_costs wsX1_isEmpty := goodIn_r _ [10, 11, 36, 37, 38, 39, 40, 41] (by decide +kernel) (by decide +kernel)
set_option maxRecDepth 20000 in
theorem gX8_costs_X1_isEmpty : GoodIn wsX8_costs (wsV RX8 179 RX1 yX1_isEmpty wsX1_isEmpty) := goodIn_app (goodIn_of _ (by decide +kernel)) ggX8_costs_X1_isEmpty
set_option maxRecDepth 20000 in
theorem ggX8_costs_X1_wholeCost : GoodIn wsX8_costs wsX1_wholeCost := goodIn_r _ [15, 16, 17, 18, 19, 9, 20, 21, 22, 23, 24, 25, 26, 27, 28, 11, 36, 37, 38, 39, 40, 41] (by decide +kernel) (by decide +kernel)
set_option maxRecDepth 20000 in
theorem gX8_costs_X1_wholeCost : GoodIn wsX8_costs (wsV RX8 182 RX1 yX1_wholeCost wsX1_wholeCost) := goodIn_app (goodIn_of _ (by decide +kernel)) ggX8_costs_X1_wholeCost
theorem dX8_costs_0 : decode cX8_costs 0 = .ok (.iload_n 1, 1) := by decide +kernel
theorem dX8_costs_1 : decode cX8_costs 1 = .ok (.iconst 1, 1) := by decide +kernel
theorem dX8_costs_2 : decode cX8_costs 2 = .ok (.bipush 120, 2) := by decide +kernel
theorem dX8_costs_4 : decode cX8_costs 4 = .ok (.invokestatic 64, 3) := by decide +kernel
theorem dX8_costs_7 : decode cX8_costs 7 = .ok (.ifCond .ne 6, 3) := by decide +kernel
theorem dX8_costs_10 : decode cX8_costs 10 = .ok (.bipush (-3), 2) := by decide +kernel
theorem dX8_costs_12 : decode cX8_costs 12 = .ok (.ireturn, 1) := by decide +kernel
theorem dX8_costs_13 : decode cX8_costs 13 = .ok (.aload_n 0, 1) := by decide +kernel
theorem dX8_costs_14 : decode cX8_costs 14 = .ok (.getfield 49, 3) := by decide +kernel
theorem dX8_costs_17 : decode cX8_costs 17 = .ok (.invokevirtual 179, 3) := by decide +kernel
theorem dX8_costs_20 : decode cX8_costs 20 = .ok (.ifCond .eq 6, 3) := by decide +kernel
theorem dX8_costs_23 : decode cX8_costs 23 = .ok (.bipush (-4), 2) := by decide +kernel
theorem dX8_costs_25 : decode cX8_costs 25 = .ok (.ireturn, 1) := by decide +kernel
theorem dX8_costs_26 : decode cX8_costs 26 = .ok (.aload_n 0, 1) := by decide +kernel
theorem dX8_costs_27 : decode cX8_costs 27 = .ok (.getfield 49, 3) := by decide +kernel
theorem dX8_costs_30 : decode cX8_costs 30 = .ok (.iload_n 1, 1) := by decide +kernel
theorem dX8_costs_31 : decode cX8_costs 31 = .ok (.invokevirtual 182, 3) := by decide +kernel
theorem dX8_costs_34 : decode cX8_costs 34 = .ok (.ireturn, 1) := by decide +kernel
set_option maxRecDepth 20000 in
theorem ggX8_change_X1_isEmpty : GoodIn wsX8_change wsX1_isEmpty := goodIn_r _ [6, 7, 32, 33, 34, 35, 36, 37] (by decide +kernel) (by decide +kernel)
set_option maxRecDepth 20000 in
theorem gX8_change_X1_isEmpty : GoodIn wsX8_change (wsV RX8 179 RX1 yX1_isEmpty wsX1_isEmpty) := goodIn_app (goodIn_of _ (by decide +kernel)) ggX8_change_X1_isEmpty
set_option maxRecDepth 20000 in
theorem ggX8_change_X1_bestChange : GoodIn wsX8_change wsX1_bestChange := goodIn_r _ [11, 12, 13, 14, 15, 5, 16, 17, 18, 19, 20, 21, 22, 23, 24, 7, 32, 33, 34, 35, 36, 37] (by decide +kernel) (by decide +kernel)
set_option maxRecDepth 20000 in
theorem gX8_change_X1_bestChange : GoodIn wsX8_change (wsV RX8 185 RX1 yX1_bestChange wsX1_bestChange) := goodIn_app (goodIn_of _ (by decide +kernel)) ggX8_change_X1_bestChange
theorem dX8_change_0 : decode cX8_change 0 = .ok (.aload_n 0, 1) := by decide +kernel
theorem dX8_change_1 : decode cX8_change 1 = .ok (.getfield 49, 3) := by decide +kernel
theorem dX8_change_4 : decode cX8_change 4 = .ok (.invokevirtual 179, 3) := by decide +kernel
theorem dX8_change_7 : decode cX8_change 7 = .ok (.ifCond .eq 6, 3) := by decide +kernel
theorem dX8_change_10 : decode cX8_change 10 = .ok (.bipush (-4), 2) := by decide +kernel
theorem dX8_change_12 : decode cX8_change 12 = .ok (.ireturn, 1) := by decide +kernel
theorem dX8_change_13 : decode cX8_change 13 = .ok (.aload_n 0, 1) := by decide +kernel
theorem dX8_change_14 : decode cX8_change 14 = .ok (.getfield 49, 3) := by decide +kernel
theorem dX8_change_17 : decode cX8_change 17 = .ok (.invokevirtual 185, 3) := by decide +kernel
theorem dX8_change_20 : decode cX8_change 20 = .ok (.ireturn, 1) := by decide +kernel
set_option maxRecDepth 20000 in
theorem ggX8_courts_X8_isWithin : GoodIn wsX8_courts wsX8_isWithin := goodIn_r _ [5] (by decide +kernel) (by decide +kernel)
set_option maxRecDepth 20000 in
theorem gX8_courts_X8_isWithin : GoodIn wsX8_courts (va_wsS RX8 64 yX8_isWithin wsX8_isWithin) := goodIn_app (goodIn_of _ (by decide +kernel)) ggX8_courts_X8_isWithin
set_option maxRecDepth 20000 in
theorem ggX8_courts_X4_setCourts : GoodIn wsX8_courts wsX4_setCourts := goodIn_r _ [10, 11, 12, 20, 21, 22, 23, 24, 25, 26, 27, 28, 29, 30, 31, 32, 33] (by decide +kernel) (by decide +kernel)
set_option maxRecDepth 20000 in
theorem gX8_courts_X4_setCourts : GoodIn wsX8_courts (wsV RX8 188 RX4 yX4_setCourts wsX4_setCourts) := goodIn_app (goodIn_of _ (by decide +kernel)) ggX8_courts_X4_setCourts
theorem dX8_courts_0 : decode cX8_courts 0 = .ok (.iload_n 1, 1) := by decide +kernel
theorem dX8_courts_1 : decode cX8_courts 1 = .ok (.iconst 1, 1) := by decide +kernel
theorem dX8_courts_2 : decode cX8_courts 2 = .ok (.iconst 4, 1) := by decide +kernel
theorem dX8_courts_3 : decode cX8_courts 3 = .ok (.invokestatic 64, 3) := by decide +kernel
theorem dX8_courts_6 : decode cX8_courts 6 = .ok (.ifCond .ne 6, 3) := by decide +kernel
theorem dX8_courts_9 : decode cX8_courts 9 = .ok (.bipush (-3), 2) := by decide +kernel
theorem dX8_courts_11 : decode cX8_courts 11 = .ok (.ireturn, 1) := by decide +kernel
theorem dX8_courts_12 : decode cX8_courts 12 = .ok (.aload_n 0, 1) := by decide +kernel
theorem dX8_courts_13 : decode cX8_courts 13 = .ok (.getfield 56, 3) := by decide +kernel
theorem dX8_courts_16 : decode cX8_courts 16 = .ok (.iload_n 1, 1) := by decide +kernel
theorem dX8_courts_17 : decode cX8_courts 17 = .ok (.invokevirtual 188, 3) := by decide +kernel
theorem dX8_courts_20 : decode cX8_courts 20 = .ok (.ireturn, 1) := by decide +kernel
set_option maxRecDepth 20000 in
theorem ggX8_come_X8_isPlayer : GoodIn wsX8_come wsX8_isPlayer := goodIn_r _ [5, 6, 7, 4, 8] (by decide +kernel) (by decide +kernel)
set_option maxRecDepth 20000 in
theorem gX8_come_X8_isPlayer : GoodIn wsX8_come (va_wsS RX8 102 yX8_isPlayer wsX8_isPlayer) := goodIn_app (goodIn_of _ (by decide +kernel)) ggX8_come_X8_isPlayer
set_option maxRecDepth 20000 in
theorem ggX8_come_X8_isWithin : GoodIn wsX8_come wsX8_isWithin := goodIn_r _ [8] (by decide +kernel) (by decide +kernel)
set_option maxRecDepth 20000 in
theorem gX8_come_X8_isWithin : GoodIn wsX8_come (va_wsS RX8 64 yX8_isWithin wsX8_isWithin) := goodIn_app (goodIn_of _ (by decide +kernel)) ggX8_come_X8_isWithin
set_option maxRecDepth 20000 in
theorem ggX8_come_X4_isThere : GoodIn wsX8_come wsX4_isThere := goodIn_r _ [13, 14, 30, 31, 32, 33, 34, 35, 36, 37, 38, 39, 40, 41, 42, 43] (by decide +kernel) (by decide +kernel)
set_option maxRecDepth 20000 in
theorem gX8_come_X4_isThere : GoodIn wsX8_come (wsV RX8 191 RX4 yX4_isThere wsX4_isThere) := goodIn_app (goodIn_of _ (by decide +kernel)) ggX8_come_X4_isThere
set_option maxRecDepth 20000 in
theorem ggX8_come_X4_enter : GoodIn wsX8_come wsX4_enter := goodIn_r _ [18, 14, 19, 20, 21, 22, 30, 31, 32, 33, 34, 35, 36, 37, 38, 39, 40, 41, 42, 43] (by decide +kernel) (by decide +kernel)
set_option maxRecDepth 20000 in
theorem gX8_come_X4_enter : GoodIn wsX8_come (wsV RX8 194 RX4 yX4_enter wsX4_enter) := goodIn_app (goodIn_of _ (by decide +kernel)) ggX8_come_X4_enter
theorem dX8_come_0 : decode cX8_come 0 = .ok (.iload_n 1, 1) := by decide +kernel
theorem dX8_come_1 : decode cX8_come 1 = .ok (.invokestatic 102, 3) := by decide +kernel
theorem dX8_come_4 : decode cX8_come 4 = .ok (.ifCond .ne 6, 3) := by decide +kernel
theorem dX8_come_7 : decode cX8_come 7 = .ok (.bipush (-2), 2) := by decide +kernel
theorem dX8_come_9 : decode cX8_come 9 = .ok (.ireturn, 1) := by decide +kernel
theorem dX8_come_10 : decode cX8_come 10 = .ok (.iload_n 2, 1) := by decide +kernel
theorem dX8_come_11 : decode cX8_come 11 = .ok (.iconst 0, 1) := by decide +kernel
theorem dX8_come_12 : decode cX8_come 12 = .ok (.bipush 99, 2) := by decide +kernel
theorem dX8_come_14 : decode cX8_come 14 = .ok (.invokestatic 64, 3) := by decide +kernel
theorem dX8_come_17 : decode cX8_come 17 = .ok (.ifCond .ne 6, 3) := by decide +kernel
theorem dX8_come_20 : decode cX8_come 20 = .ok (.bipush (-3), 2) := by decide +kernel
theorem dX8_come_22 : decode cX8_come 22 = .ok (.ireturn, 1) := by decide +kernel
theorem dX8_come_23 : decode cX8_come 23 = .ok (.aload_n 0, 1) := by decide +kernel
theorem dX8_come_24 : decode cX8_come 24 = .ok (.getfield 56, 3) := by decide +kernel
theorem dX8_come_27 : decode cX8_come 27 = .ok (.iload_n 1, 1) := by decide +kernel
theorem dX8_come_28 : decode cX8_come 28 = .ok (.invokevirtual 191, 3) := by decide +kernel
theorem dX8_come_31 : decode cX8_come 31 = .ok (.ifCond .eq 6, 3) := by decide +kernel
theorem dX8_come_34 : decode cX8_come 34 = .ok (.bipush (-4), 2) := by decide +kernel
theorem dX8_come_36 : decode cX8_come 36 = .ok (.ireturn, 1) := by decide +kernel
theorem dX8_come_37 : decode cX8_come 37 = .ok (.aload_n 0, 1) := by decide +kernel
theorem dX8_come_38 : decode cX8_come 38 = .ok (.getfield 56, 3) := by decide +kernel
theorem dX8_come_41 : decode cX8_come 41 = .ok (.iload_n 1, 1) := by decide +kernel
theorem dX8_come_42 : decode cX8_come 42 = .ok (.iload_n 2, 1) := by decide +kernel
theorem dX8_come_43 : decode cX8_come 43 = .ok (.invokevirtual 194, 3) := by decide +kernel
theorem dX8_come_46 : decode cX8_come 46 = .ok (.ireturn, 1) := by decide +kernel
set_option maxRecDepth 20000 in
theorem ggX8_leave_X8_isPlayer : GoodIn wsX8_leave wsX8_isPlayer := goodIn_r _ [5, 6, 7, 4, 8] (by decide +kernel) (by decide +kernel)
set_option maxRecDepth 20000 in
theorem gX8_leave_X8_isPlayer : GoodIn wsX8_leave (va_wsS RX8 102 yX8_isPlayer wsX8_isPlayer) := goodIn_app (goodIn_of _ (by decide +kernel)) ggX8_leave_X8_isPlayer
set_option maxRecDepth 20000 in
theorem ggX8_leave_X4_isThere : GoodIn wsX8_leave wsX4_isThere := goodIn_r _ [13, 14, 28, 29, 30, 31, 32, 33, 34, 35, 36, 37, 38, 39, 40, 41] (by decide +kernel) (by decide +kernel)
set_option maxRecDepth 20000 in
theorem gX8_leave_X4_isThere : GoodIn wsX8_leave (wsV RX8 191 RX4 yX4_isThere wsX4_isThere) := goodIn_app (goodIn_of _ (by decide +kernel)) ggX8_leave_X4_isThere
set_option maxRecDepth 20000 in
theorem ggX8_leave_X4_exit : GoodIn wsX8_leave wsX4_exit := goodIn_r _ [18, 14, 19, 20, 28, 29, 30, 31, 32, 33, 34, 35, 36, 37, 38, 39, 40, 41] (by decide +kernel) (by decide +kernel)
set_option maxRecDepth 20000 in
theorem gX8_leave_X4_exit : GoodIn wsX8_leave (wsV RX8 197 RX4 yX4_exit wsX4_exit) := goodIn_app (goodIn_of _ (by decide +kernel)) ggX8_leave_X4_exit
theorem dX8_leave_0 : decode cX8_leave 0 = .ok (.iload_n 1, 1) := by decide +kernel
theorem dX8_leave_1 : decode cX8_leave 1 = .ok (.invokestatic 102, 3) := by decide +kernel
theorem dX8_leave_4 : decode cX8_leave 4 = .ok (.ifCond .ne 6, 3) := by decide +kernel
theorem dX8_leave_7 : decode cX8_leave 7 = .ok (.bipush (-2), 2) := by decide +kernel
theorem dX8_leave_9 : decode cX8_leave 9 = .ok (.ireturn, 1) := by decide +kernel
theorem dX8_leave_10 : decode cX8_leave 10 = .ok (.aload_n 0, 1) := by decide +kernel
theorem dX8_leave_11 : decode cX8_leave 11 = .ok (.getfield 56, 3) := by decide +kernel
theorem dX8_leave_14 : decode cX8_leave 14 = .ok (.iload_n 1, 1) := by decide +kernel
theorem dX8_leave_15 : decode cX8_leave 15 = .ok (.invokevirtual 191, 3) := by decide +kernel
theorem dX8_leave_18 : decode cX8_leave 18 = .ok (.ifCond .ne 6, 3) := by decide +kernel
theorem dX8_leave_21 : decode cX8_leave 21 = .ok (.bipush (-4), 2) := by decide +kernel
theorem dX8_leave_23 : decode cX8_leave 23 = .ok (.ireturn, 1) := by decide +kernel
theorem dX8_leave_24 : decode cX8_leave 24 = .ok (.aload_n 0, 1) := by decide +kernel
theorem dX8_leave_25 : decode cX8_leave 25 = .ok (.getfield 56, 3) := by decide +kernel
theorem dX8_leave_28 : decode cX8_leave 28 = .ok (.iload_n 1, 1) := by decide +kernel
theorem dX8_leave_29 : decode cX8_leave 29 = .ok (.invokevirtual 197, 3) := by decide +kernel
theorem dX8_leave_32 : decode cX8_leave 32 = .ok (.ireturn, 1) := by decide +kernel
set_option maxRecDepth 20000 in
theorem ggX8_against_X8_isPlayer : GoodIn wsX8_against wsX8_isPlayer := goodIn_r _ [5, 6, 7, 4, 8] (by decide +kernel) (by decide +kernel)
set_option maxRecDepth 20000 in
theorem gX8_against_X8_isPlayer : GoodIn wsX8_against (va_wsS RX8 102 yX8_isPlayer wsX8_isPlayer) := goodIn_app (goodIn_of _ (by decide +kernel)) ggX8_against_X8_isPlayer
set_option maxRecDepth 20000 in
theorem ggX8_against_X4_mateOf : GoodIn wsX8_against wsX4_mateOf := goodIn_r _ [13, 14, 15, 16, 17, 12, 18, 19, 20, 21, 22, 23, 24, 25, 26, 27, 28, 29, 30, 31, 32, 33, 34, 35, 36, 37, 38, 39, 40, 41, 42, 43, 44, 45, 46, 47, 48, 49, 50, 51, 52, 53, 54, 55, 56, 57, 58, 59, 60, 61, 62, 63, 64, 65, 73, 74, 75, 76, 77, 78, 79, 80, 81, 82, 83, 84, 85, 86] (by decide +kernel) (by decide +kernel)
set_option maxRecDepth 20000 in
theorem gX8_against_X4_mateOf : GoodIn wsX8_against (wsV RX8 200 RX4 yX4_mateOf wsX4_mateOf) := goodIn_app (goodIn_of _ (by decide +kernel)) ggX8_against_X4_mateOf
theorem dX8_against_0 : decode cX8_against 0 = .ok (.iload_n 1, 1) := by decide +kernel
theorem dX8_against_1 : decode cX8_against 1 = .ok (.invokestatic 102, 3) := by decide +kernel
theorem dX8_against_4 : decode cX8_against 4 = .ok (.ifCond .ne 6, 3) := by decide +kernel
theorem dX8_against_7 : decode cX8_against 7 = .ok (.bipush (-2), 2) := by decide +kernel
theorem dX8_against_9 : decode cX8_against 9 = .ok (.ireturn, 1) := by decide +kernel
theorem dX8_against_10 : decode cX8_against 10 = .ok (.aload_n 0, 1) := by decide +kernel
theorem dX8_against_11 : decode cX8_against 11 = .ok (.getfield 56, 3) := by decide +kernel
theorem dX8_against_14 : decode cX8_against 14 = .ok (.iload_n 1, 1) := by decide +kernel
theorem dX8_against_15 : decode cX8_against 15 = .ok (.invokevirtual 200, 3) := by decide +kernel
theorem dX8_against_18 : decode cX8_against 18 = .ok (.ireturn, 1) := by decide +kernel
set_option maxRecDepth 20000 in
theorem ggX8_round_X8_isWithin : GoodIn wsX8_round wsX8_isWithin := goodIn_r _ [5] (by decide +kernel) (by decide +kernel)
set_option maxRecDepth 20000 in
theorem gX8_round_X8_isWithin : GoodIn wsX8_round (va_wsS RX8 64 yX8_isWithin wsX8_isWithin) := goodIn_app (goodIn_of _ (by decide +kernel)) ggX8_round_X8_isWithin
set_option maxRecDepth 20000 in
theorem ggX8_round_X4_readRound : GoodIn wsX8_round wsX4_readRound := goodIn_r _ [10, 11, 12, 13, 14, 15, 16, 9, 17, 18, 19, 20, 21, 22, 23, 24, 25, 26, 27, 28, 29, 30, 31, 32, 33, 34, 35, 36, 37, 38, 39, 40, 41, 42, 43, 44, 45, 46, 47, 48, 49, 50, 51, 52, 53, 54, 55, 56, 57, 58, 59, 60, 61, 62, 70, 71, 72, 73, 74, 75, 76, 77, 78, 79, 80, 81, 82, 83] (by decide +kernel) (by decide +kernel)
set_option maxRecDepth 20000 in
theorem gX8_round_X4_readRound : GoodIn wsX8_round (wsV RX8 203 RX4 yX4_readRound wsX4_readRound) := goodIn_app (goodIn_of _ (by decide +kernel)) ggX8_round_X4_readRound
theorem dX8_round_0 : decode cX8_round 0 = .ok (.iload_n 1, 1) := by decide +kernel
theorem dX8_round_1 : decode cX8_round 1 = .ok (.iconst 0, 1) := by decide +kernel
theorem dX8_round_2 : decode cX8_round 2 = .ok (.iconst 3, 1) := by decide +kernel
theorem dX8_round_3 : decode cX8_round 3 = .ok (.invokestatic 64, 3) := by decide +kernel
theorem dX8_round_6 : decode cX8_round 6 = .ok (.ifCond .ne 6, 3) := by decide +kernel
theorem dX8_round_9 : decode cX8_round 9 = .ok (.bipush (-3), 2) := by decide +kernel
theorem dX8_round_11 : decode cX8_round 11 = .ok (.ireturn, 1) := by decide +kernel
theorem dX8_round_12 : decode cX8_round 12 = .ok (.aload_n 0, 1) := by decide +kernel
theorem dX8_round_13 : decode cX8_round 13 = .ok (.getfield 56, 3) := by decide +kernel
theorem dX8_round_16 : decode cX8_round 16 = .ok (.iload_n 1, 1) := by decide +kernel
theorem dX8_round_17 : decode cX8_round 17 = .ok (.invokevirtual 203, 3) := by decide +kernel
theorem dX8_round_20 : decode cX8_round 20 = .ok (.ireturn, 1) := by decide +kernel
set_option maxRecDepth 20000 in
theorem ggX8_played_X4_playRound : GoodIn wsX8_played wsX4_playRound := goodIn_r _ [6, 7, 8, 9, 10, 11, 12, 13, 14, 15, 5, 16, 17, 18, 19, 20, 21, 22, 23, 24, 25, 26, 27, 28, 29, 30, 31, 32, 33, 34, 35, 36, 37, 38, 39, 40, 41, 42, 43, 44, 45, 46, 47, 48, 49, 50, 51, 52, 53, 54, 55, 56, 57, 58, 59, 67, 68, 69, 70, 71, 72, 73, 74, 75, 76, 77, 78, 79, 80] (by decide +kernel) (by decide +kernel)
set_option maxRecDepth 20000 in
theorem gX8_played_X4_playRound : GoodIn wsX8_played (wsV RX8 206 RX4 yX4_playRound wsX4_playRound) := goodIn_app (goodIn_of _ (by decide +kernel)) ggX8_played_X4_playRound
theorem dX8_played_0 : decode cX8_played 0 = .ok (.aload_n 0, 1) := by decide +kernel
theorem dX8_played_1 : decode cX8_played 1 = .ok (.getfield 56, 3) := by decide +kernel
theorem dX8_played_4 : decode cX8_played 4 = .ok (.invokevirtual 206, 3) := by decide +kernel
theorem dX8_played_7 : decode cX8_played 7 = .ok (.ireturn, 1) := by decide +kernel
set_option maxRecDepth 20000 in
theorem ggX8_had_X8_isPlayer : GoodIn wsX8_had wsX8_isPlayer := goodIn_r _ [5, 6, 7, 4, 8] (by decide +kernel) (by decide +kernel)
set_option maxRecDepth 20000 in
theorem gX8_had_X8_isPlayer : GoodIn wsX8_had (va_wsS RX8 102 yX8_isPlayer wsX8_isPlayer) := goodIn_app (goodIn_of _ (by decide +kernel)) ggX8_had_X8_isPlayer
set_option maxRecDepth 20000 in
theorem ggX8_had_X4_gamesOfBoth : GoodIn wsX8_had wsX4_gamesOfBoth := goodIn_r _ [13, 14, 22, 23, 24, 25, 26, 27, 28, 29, 30, 31, 32, 33, 34, 35] (by decide +kernel) (by decide +kernel)
set_option maxRecDepth 20000 in
theorem gX8_had_X4_gamesOfBoth : GoodIn wsX8_had (wsV RX8 209 RX4 yX4_gamesOfBoth wsX4_gamesOfBoth) := goodIn_app (goodIn_of _ (by decide +kernel)) ggX8_had_X4_gamesOfBoth
theorem dX8_had_0 : decode cX8_had 0 = .ok (.iload_n 1, 1) := by decide +kernel
theorem dX8_had_1 : decode cX8_had 1 = .ok (.invokestatic 102, 3) := by decide +kernel
theorem dX8_had_4 : decode cX8_had 4 = .ok (.ifCond .eq 15, 3) := by decide +kernel
theorem dX8_had_7 : decode cX8_had 7 = .ok (.iload_n 2, 1) := by decide +kernel
theorem dX8_had_8 : decode cX8_had 8 = .ok (.invokestatic 102, 3) := by decide +kernel
theorem dX8_had_11 : decode cX8_had 11 = .ok (.ifCond .eq 8, 3) := by decide +kernel
theorem dX8_had_14 : decode cX8_had 14 = .ok (.iload_n 1, 1) := by decide +kernel
theorem dX8_had_15 : decode cX8_had 15 = .ok (.iload_n 2, 1) := by decide +kernel
theorem dX8_had_16 : decode cX8_had 16 = .ok (.if_icmp .ne 6, 3) := by decide +kernel
theorem dX8_had_19 : decode cX8_had 19 = .ok (.bipush (-2), 2) := by decide +kernel
theorem dX8_had_21 : decode cX8_had 21 = .ok (.ireturn, 1) := by decide +kernel
theorem dX8_had_22 : decode cX8_had 22 = .ok (.aload_n 0, 1) := by decide +kernel
theorem dX8_had_23 : decode cX8_had 23 = .ok (.getfield 56, 3) := by decide +kernel
theorem dX8_had_26 : decode cX8_had 26 = .ok (.iload_n 1, 1) := by decide +kernel
theorem dX8_had_27 : decode cX8_had 27 = .ok (.iload_n 2, 1) := by decide +kernel
theorem dX8_had_28 : decode cX8_had 28 = .ok (.invokevirtual 209, 3) := by decide +kernel
theorem dX8_had_31 : decode cX8_had 31 = .ok (.ireturn, 1) := by decide +kernel
set_option maxRecDepth 20000 in
theorem ggX8_of_X8_isPlayer : GoodIn wsX8_of wsX8_isPlayer := goodIn_r _ [6, 7, 8, 5, 9] (by decide +kernel) (by decide +kernel)
set_option maxRecDepth 20000 in
theorem gX8_of_X8_isPlayer : GoodIn wsX8_of (va_wsS RX8 102 yX8_isPlayer wsX8_isPlayer) := goodIn_app (goodIn_of _ (by decide +kernel)) ggX8_of_X8_isPlayer
set_option maxRecDepth 20000 in
theorem ggX8_of_X6_strideOf : GoodIn wsX8_of wsX6_strideOf := goodIn_r _ [14, 15, 45, 46, 47, 48] (by decide +kernel) (by decide +kernel)
set_option maxRecDepth 20000 in
theorem gX8_of_X6_strideOf : GoodIn wsX8_of (wsV RX8 212 RX6 yX6_strideOf wsX6_strideOf) := goodIn_app (goodIn_of _ (by decide +kernel)) ggX8_of_X6_strideOf
set_option maxRecDepth 20000 in
theorem ggX8_of_X6_tiredOf : GoodIn wsX8_of wsX6_tiredOf := goodIn_r _ [19, 20, 45, 46, 47, 48] (by decide +kernel) (by decide +kernel)
set_option maxRecDepth 20000 in
theorem gX8_of_X6_tiredOf : GoodIn wsX8_of (wsV RX8 215 RX6 yX6_tiredOf wsX6_tiredOf) := goodIn_app (goodIn_of _ (by decide +kernel)) ggX8_of_X6_tiredOf
set_option maxRecDepth 20000 in
theorem ggX8_of_X4_waitedOf : GoodIn wsX8_of wsX4_waitedOf := goodIn_r _ [25, 26, 27, 49, 50, 51, 52, 53, 54, 55, 56, 57, 58, 59, 60, 61, 62] (by decide +kernel) (by decide +kernel)
set_option maxRecDepth 20000 in
theorem gX8_of_X4_waitedOf : GoodIn wsX8_of (wsV RX8 218 RX4 yX4_waitedOf wsX4_waitedOf) := goodIn_app (goodIn_of _ (by decide +kernel)) ggX8_of_X4_waitedOf
set_option maxRecDepth 20000 in
theorem ggX8_of_X4_gradeOf : GoodIn wsX8_of wsX4_gradeOf := goodIn_r _ [31, 26, 32, 49, 50, 51, 52, 53, 54, 55, 56, 57, 58, 59, 60, 61, 62] (by decide +kernel) (by decide +kernel)
set_option maxRecDepth 20000 in
theorem gX8_of_X4_gradeOf : GoodIn wsX8_of (wsV RX8 221 RX4 yX4_gradeOf wsX4_gradeOf) := goodIn_app (goodIn_of _ (by decide +kernel)) ggX8_of_X4_gradeOf
set_option maxRecDepth 20000 in
theorem ggX8_of_X4_gamesOf : GoodIn wsX8_of wsX4_gamesOf := goodIn_r _ [36, 37, 49, 50, 51, 52, 53, 54, 55, 56, 57, 58, 59, 60, 61, 62] (by decide +kernel) (by decide +kernel)
set_option maxRecDepth 20000 in
theorem gX8_of_X4_gamesOf : GoodIn wsX8_of (wsV RX8 224 RX4 yX4_gamesOf wsX4_gamesOf) := goodIn_app (goodIn_of _ (by decide +kernel)) ggX8_of_X4_gamesOf
theorem dX8_of_0 : decode cX8_of 0 = .ok (.iload_n 1, 1) := by decide +kernel
theorem dX8_of_1 : decode cX8_of 1 = .ok (.invokestatic 102, 3) := by decide +kernel
theorem dX8_of_4 : decode cX8_of 4 = .ok (.ifCond .ne 6, 3) := by decide +kernel
theorem dX8_of_7 : decode cX8_of 7 = .ok (.bipush (-2), 2) := by decide +kernel
theorem dX8_of_9 : decode cX8_of 9 = .ok (.ireturn, 1) := by decide +kernel
theorem dX8_of_10 : decode cX8_of 10 = .ok (.iload_n 2, 1) := by decide +kernel
theorem dX8_of_11 : decode cX8_of 11 = .ok (.tableswitch 78 0 4 #[33, 42, 51, 60, 69], 33) := by decide +kernel
theorem dX8_of_44 : decode cX8_of 44 = .ok (.aload_n 0, 1) := by decide +kernel
theorem dX8_of_45 : decode cX8_of 45 = .ok (.getfield 19, 3) := by decide +kernel
theorem dX8_of_48 : decode cX8_of 48 = .ok (.iload_n 1, 1) := by decide +kernel
theorem dX8_of_49 : decode cX8_of 49 = .ok (.invokevirtual 212, 3) := by decide +kernel
theorem dX8_of_52 : decode cX8_of 52 = .ok (.ireturn, 1) := by decide +kernel
theorem dX8_of_53 : decode cX8_of 53 = .ok (.aload_n 0, 1) := by decide +kernel
theorem dX8_of_54 : decode cX8_of 54 = .ok (.getfield 19, 3) := by decide +kernel
theorem dX8_of_57 : decode cX8_of 57 = .ok (.iload_n 1, 1) := by decide +kernel
theorem dX8_of_58 : decode cX8_of 58 = .ok (.invokevirtual 215, 3) := by decide +kernel
theorem dX8_of_61 : decode cX8_of 61 = .ok (.ireturn, 1) := by decide +kernel
theorem dX8_of_62 : decode cX8_of 62 = .ok (.aload_n 0, 1) := by decide +kernel
theorem dX8_of_63 : decode cX8_of 63 = .ok (.getfield 56, 3) := by decide +kernel
theorem dX8_of_66 : decode cX8_of 66 = .ok (.iload_n 1, 1) := by decide +kernel
theorem dX8_of_67 : decode cX8_of 67 = .ok (.invokevirtual 218, 3) := by decide +kernel
theorem dX8_of_70 : decode cX8_of 70 = .ok (.ireturn, 1) := by decide +kernel
theorem dX8_of_71 : decode cX8_of 71 = .ok (.aload_n 0, 1) := by decide +kernel
theorem dX8_of_72 : decode cX8_of 72 = .ok (.getfield 56, 3) := by decide +kernel
theorem dX8_of_75 : decode cX8_of 75 = .ok (.iload_n 1, 1) := by decide +kernel
theorem dX8_of_76 : decode cX8_of 76 = .ok (.invokevirtual 221, 3) := by decide +kernel
theorem dX8_of_79 : decode cX8_of 79 = .ok (.ireturn, 1) := by decide +kernel
theorem dX8_of_80 : decode cX8_of 80 = .ok (.aload_n 0, 1) := by decide +kernel
theorem dX8_of_81 : decode cX8_of 81 = .ok (.getfield 56, 3) := by decide +kernel
theorem dX8_of_84 : decode cX8_of 84 = .ok (.iload_n 1, 1) := by decide +kernel
theorem dX8_of_85 : decode cX8_of 85 = .ok (.invokevirtual 224, 3) := by decide +kernel
theorem dX8_of_88 : decode cX8_of 88 = .ok (.ireturn, 1) := by decide +kernel
theorem dX8_of_89 : decode cX8_of 89 = .ok (.bipush (-3), 2) := by decide +kernel
theorem dX8_of_91 : decode cX8_of 91 = .ok (.ireturn, 1) := by decide +kernel
set_option maxRecDepth 20000 in
theorem ggX8_count_X5_size : GoodIn wsX8_count wsX5_size := goodIn_r _ [8, 9, 43, 44, 45, 46, 47] (by decide +kernel) (by decide +kernel)
set_option maxRecDepth 20000 in
theorem gX8_count_X5_size : GoodIn wsX8_count (wsV RX8 227 RX5 yX5_size wsX5_size) := goodIn_app (goodIn_of _ (by decide +kernel)) ggX8_count_X5_size
set_option maxRecDepth 20000 in
theorem ggX8_count_X5_triedHabits : GoodIn wsX8_count wsX5_triedHabits := goodIn_r _ [13, 14, 15, 16, 17, 7, 18, 43, 44, 45, 46, 47] (by decide +kernel) (by decide +kernel)
set_option maxRecDepth 20000 in
theorem gX8_count_X5_triedHabits : GoodIn wsX8_count (wsV RX8 230 RX5 yX5_triedHabits wsX5_triedHabits) := goodIn_app (goodIn_of _ (by decide +kernel)) ggX8_count_X5_triedHabits
set_option maxRecDepth 20000 in
theorem ggX8_count_X4_thereNow : GoodIn wsX8_count wsX4_thereNow := goodIn_r _ [23, 24, 48, 49, 50, 51, 52, 53, 54, 55, 56, 57, 58, 59, 60, 61] (by decide +kernel) (by decide +kernel)
set_option maxRecDepth 20000 in
theorem gX8_count_X4_thereNow : GoodIn wsX8_count (wsV RX8 233 RX4 yX4_thereNow wsX4_thereNow) := goodIn_app (goodIn_of _ (by decide +kernel)) ggX8_count_X4_thereNow
set_option maxRecDepth 20000 in
theorem ggX8_count_X4_roundsPlayed : GoodIn wsX8_count wsX4_roundsPlayed := goodIn_r _ [28, 29, 48, 49, 50, 51, 52, 53, 54, 55, 56, 57, 58, 59, 60, 61] (by decide +kernel) (by decide +kernel)
set_option maxRecDepth 20000 in
theorem gX8_count_X4_roundsPlayed : GoodIn wsX8_count (wsV RX8 236 RX4 yX4_roundsPlayed wsX4_roundsPlayed) := goodIn_app (goodIn_of _ (by decide +kernel)) ggX8_count_X4_roundsPlayed
set_option maxRecDepth 20000 in
theorem ggX8_count_X1_size : GoodIn wsX8_count wsX1_size := goodIn_r _ [34, 35, 62, 63, 64, 65, 66, 67] (by decide +kernel) (by decide +kernel)
set_option maxRecDepth 20000 in
theorem gX8_count_X1_size : GoodIn wsX8_count (wsV RX8 239 RX1 yX1_size wsX1_size) := goodIn_app (goodIn_of _ (by decide +kernel)) ggX8_count_X1_size
theorem dX8_count_0 : decode cX8_count 0 = .ok (.iload_n 1, 1) := by decide +kernel
theorem dX8_count_1 : decode cX8_count 1 = .ok (.tableswitch 75 0 4 #[35, 43, 51, 59, 67], 35) := by decide +kernel
theorem dX8_count_36 : decode cX8_count 36 = .ok (.aload_n 0, 1) := by decide +kernel
theorem dX8_count_37 : decode cX8_count 37 = .ok (.getfield 42, 3) := by decide +kernel
theorem dX8_count_40 : decode cX8_count 40 = .ok (.invokevirtual 227, 3) := by decide +kernel
theorem dX8_count_43 : decode cX8_count 43 = .ok (.ireturn, 1) := by decide +kernel
theorem dX8_count_44 : decode cX8_count 44 = .ok (.aload_n 0, 1) := by decide +kernel
theorem dX8_count_45 : decode cX8_count 45 = .ok (.getfield 42, 3) := by decide +kernel
theorem dX8_count_48 : decode cX8_count 48 = .ok (.invokevirtual 230, 3) := by decide +kernel
theorem dX8_count_51 : decode cX8_count 51 = .ok (.ireturn, 1) := by decide +kernel
theorem dX8_count_52 : decode cX8_count 52 = .ok (.aload_n 0, 1) := by decide +kernel
theorem dX8_count_53 : decode cX8_count 53 = .ok (.getfield 56, 3) := by decide +kernel
theorem dX8_count_56 : decode cX8_count 56 = .ok (.invokevirtual 233, 3) := by decide +kernel
theorem dX8_count_59 : decode cX8_count 59 = .ok (.ireturn, 1) := by decide +kernel
theorem dX8_count_60 : decode cX8_count 60 = .ok (.aload_n 0, 1) := by decide +kernel
theorem dX8_count_61 : decode cX8_count 61 = .ok (.getfield 56, 3) := by decide +kernel
theorem dX8_count_64 : decode cX8_count 64 = .ok (.invokevirtual 236, 3) := by decide +kernel
theorem dX8_count_67 : decode cX8_count 67 = .ok (.ireturn, 1) := by decide +kernel
theorem dX8_count_68 : decode cX8_count 68 = .ok (.aload_n 0, 1) := by decide +kernel
theorem dX8_count_69 : decode cX8_count 69 = .ok (.getfield 49, 3) := by decide +kernel
theorem dX8_count_72 : decode cX8_count 72 = .ok (.invokevirtual 239, 3) := by decide +kernel
theorem dX8_count_75 : decode cX8_count 75 = .ok (.ireturn, 1) := by decide +kernel
theorem dX8_count_76 : decode cX8_count 76 = .ok (.bipush (-3), 2) := by decide +kernel
theorem dX8_count_78 : decode cX8_count 78 = .ok (.ireturn, 1) := by decide +kernel
theorem dX8_isWithin_0 : decode cX8_isWithin 0 = .ok (.iload_n 0, 1) := by decide +kernel
theorem dX8_isWithin_1 : decode cX8_isWithin 1 = .ok (.iload_n 1, 1) := by decide +kernel
theorem dX8_isWithin_2 : decode cX8_isWithin 2 = .ok (.if_icmp .lt 12, 3) := by decide +kernel
theorem dX8_isWithin_5 : decode cX8_isWithin 5 = .ok (.iload_n 0, 1) := by decide +kernel
theorem dX8_isWithin_6 : decode cX8_isWithin 6 = .ok (.iload_n 2, 1) := by decide +kernel
theorem dX8_isWithin_7 : decode cX8_isWithin 7 = .ok (.if_icmp .gt 7, 3) := by decide +kernel
theorem dX8_isWithin_10 : decode cX8_isWithin 10 = .ok (.iconst 1, 1) := by decide +kernel
theorem dX8_isWithin_11 : decode cX8_isWithin 11 = .ok (.goto 4, 3) := by decide +kernel
theorem dX8_isWithin_14 : decode cX8_isWithin 14 = .ok (.iconst 0, 1) := by decide +kernel
theorem dX8_isWithin_15 : decode cX8_isWithin 15 = .ok (.ireturn, 1) := by decide +kernel
set_option maxRecDepth 20000 in
theorem ggX8_isCell_X8_isWithin : GoodIn wsX8_isCell wsX8_isWithin := goodIn_r _ [4] (by decide +kernel) (by decide +kernel)
set_option maxRecDepth 20000 in
theorem gX8_isCell_X8_isWithin : GoodIn wsX8_isCell (va_wsS RX8 64 yX8_isWithin wsX8_isWithin) := goodIn_app (goodIn_of _ (by decide +kernel)) ggX8_isCell_X8_isWithin
theorem dX8_isCell_0 : decode cX8_isCell 0 = .ok (.iload_n 0, 1) := by decide +kernel
theorem dX8_isCell_1 : decode cX8_isCell 1 = .ok (.iconst 0, 1) := by decide +kernel
theorem dX8_isCell_2 : decode cX8_isCell 2 = .ok (.bipush 15, 2) := by decide +kernel
theorem dX8_isCell_4 : decode cX8_isCell 4 = .ok (.invokestatic 64, 3) := by decide +kernel
theorem dX8_isCell_7 : decode cX8_isCell 7 = .ok (.ireturn, 1) := by decide +kernel
set_option maxRecDepth 20000 in
theorem ggX8_isKind_X8_isWithin : GoodIn wsX8_isKind wsX8_isWithin := goodIn_r _ [4] (by decide +kernel) (by decide +kernel)
set_option maxRecDepth 20000 in
theorem gX8_isKind_X8_isWithin : GoodIn wsX8_isKind (va_wsS RX8 64 yX8_isWithin wsX8_isWithin) := goodIn_app (goodIn_of _ (by decide +kernel)) ggX8_isKind_X8_isWithin
theorem dX8_isKind_0 : decode cX8_isKind 0 = .ok (.iload_n 0, 1) := by decide +kernel
theorem dX8_isKind_1 : decode cX8_isKind 1 = .ok (.iconst 0, 1) := by decide +kernel
theorem dX8_isKind_2 : decode cX8_isKind 2 = .ok (.iconst 3, 1) := by decide +kernel
theorem dX8_isKind_3 : decode cX8_isKind 3 = .ok (.invokestatic 64, 3) := by decide +kernel
theorem dX8_isKind_6 : decode cX8_isKind 6 = .ok (.ireturn, 1) := by decide +kernel
set_option maxRecDepth 20000 in
theorem ggX8_isZone_X8_isWithin : GoodIn wsX8_isZone wsX8_isWithin := goodIn_r _ [4] (by decide +kernel) (by decide +kernel)
set_option maxRecDepth 20000 in
theorem gX8_isZone_X8_isWithin : GoodIn wsX8_isZone (va_wsS RX8 64 yX8_isWithin wsX8_isWithin) := goodIn_app (goodIn_of _ (by decide +kernel)) ggX8_isZone_X8_isWithin
theorem dX8_isZone_0 : decode cX8_isZone 0 = .ok (.iload_n 0, 1) := by decide +kernel
theorem dX8_isZone_1 : decode cX8_isZone 1 = .ok (.iconst 0, 1) := by decide +kernel
theorem dX8_isZone_2 : decode cX8_isZone 2 = .ok (.iconst 3, 1) := by decide +kernel
theorem dX8_isZone_3 : decode cX8_isZone 3 = .ok (.invokestatic 64, 3) := by decide +kernel
theorem dX8_isZone_6 : decode cX8_isZone 6 = .ok (.ireturn, 1) := by decide +kernel
set_option maxRecDepth 20000 in
theorem ggX8_isPlayer_X8_isWithin : GoodIn wsX8_isPlayer wsX8_isWithin := goodIn_r _ [4] (by decide +kernel) (by decide +kernel)
set_option maxRecDepth 20000 in
theorem gX8_isPlayer_X8_isWithin : GoodIn wsX8_isPlayer (va_wsS RX8 64 yX8_isWithin wsX8_isWithin) := goodIn_app (goodIn_of _ (by decide +kernel)) ggX8_isPlayer_X8_isWithin
theorem dX8_isPlayer_0 : decode cX8_isPlayer 0 = .ok (.iload_n 0, 1) := by decide +kernel
theorem dX8_isPlayer_1 : decode cX8_isPlayer 1 = .ok (.iconst 0, 1) := by decide +kernel
theorem dX8_isPlayer_2 : decode cX8_isPlayer 2 = .ok (.bipush 7, 2) := by decide +kernel
theorem dX8_isPlayer_4 : decode cX8_isPlayer 4 = .ok (.invokestatic 64, 3) := by decide +kernel
theorem dX8_isPlayer_7 : decode cX8_isPlayer 7 = .ok (.ireturn, 1) := by decide +kernel
end
section
theorem dX9_init_0 : decode cX9_init 0 = .ok (.aload_n 0, 1) := by decide +kernel
theorem dX9_init_1 : decode cX9_init 1 = .ok (.invokespecial 1, 3) := by decide +kernel
theorem dX9_init_4 : decode cX9_init 4 = .ok (.aload_n 0, 1) := by decide +kernel
theorem dX9_init_5 : decode cX9_init 5 = .ok (.iconst 4, 1) := by decide +kernel
theorem dX9_init_6 : decode cX9_init 6 = .ok (.newarray .int, 2) := by decide +kernel
theorem dX9_init_8 : decode cX9_init 8 = .ok (.putfield 7, 3) := by decide +kernel
theorem dX9_init_11 : decode cX9_init 11 = .ok (.aload_n 0, 1) := by decide +kernel
theorem dX9_init_12 : decode cX9_init 12 = .ok (.iconst 4, 1) := by decide +kernel
theorem dX9_init_13 : decode cX9_init 13 = .ok (.newarray .int, 2) := by decide +kernel
theorem dX9_init_15 : decode cX9_init 15 = .ok (.putfield 13, 3) := by decide +kernel
theorem dX9_init_18 : decode cX9_init 18 = .ok (.aload_n 0, 1) := by decide +kernel
theorem dX9_init_19 : decode cX9_init 19 = .ok (.iconst 4, 1) := by decide +kernel
theorem dX9_init_20 : decode cX9_init 20 = .ok (.newarray .int, 2) := by decide +kernel
theorem dX9_init_22 : decode cX9_init 22 = .ok (.putfield 16, 3) := by decide +kernel
theorem dX9_init_25 : decode cX9_init 25 = .ok (.aload_n 0, 1) := by decide +kernel
theorem dX9_init_26 : decode cX9_init 26 = .ok (.bipush 8, 2) := by decide +kernel
theorem dX9_init_28 : decode cX9_init 28 = .ok (.newarray .int, 2) := by decide +kernel
theorem dX9_init_30 : decode cX9_init 30 = .ok (.putfield 19, 3) := by decide +kernel
theorem dX9_init_33 : decode cX9_init 33 = .ok (.aload_n 0, 1) := by decide +kernel
theorem dX9_init_34 : decode cX9_init 34 = .ok (.bipush 8, 2) := by decide +kernel
theorem dX9_init_36 : decode cX9_init 36 = .ok (.newarray .int, 2) := by decide +kernel
theorem dX9_init_38 : decode cX9_init 38 = .ok (.putfield 22, 3) := by decide +kernel
theorem dX9_init_41 : decode cX9_init 41 = .ok (.aload_n 0, 1) := by decide +kernel
theorem dX9_init_42 : decode cX9_init 42 = .ok (.bipush 8, 2) := by decide +kernel
theorem dX9_init_44 : decode cX9_init 44 = .ok (.newarray .int, 2) := by decide +kernel
theorem dX9_init_46 : decode cX9_init 46 = .ok (.putfield 25, 3) := by decide +kernel
theorem dX9_init_49 : decode cX9_init 49 = .ok (.aload_n 0, 1) := by decide +kernel
theorem dX9_init_50 : decode cX9_init 50 = .ok (.bipush 64, 2) := by decide +kernel
theorem dX9_init_52 : decode cX9_init 52 = .ok (.newarray .int, 2) := by decide +kernel
theorem dX9_init_54 : decode cX9_init 54 = .ok (.putfield 28, 3) := by decide +kernel
theorem dX9_init_57 : decode cX9_init 57 = .ok (.aload_n 0, 1) := by decide +kernel
theorem dX9_init_58 : decode cX9_init 58 = .ok (.sipush 16384, 3) := by decide +kernel
theorem dX9_init_61 : decode cX9_init 61 = .ok (.newarray .int, 2) := by decide +kernel
theorem dX9_init_63 : decode cX9_init 63 = .ok (.putfield 31, 3) := by decide +kernel
theorem dX9_init_66 : decode cX9_init 66 = .ok (.aload_n 0, 1) := by decide +kernel
theorem dX9_init_67 : decode cX9_init 67 = .ok (.sipush 16384, 3) := by decide +kernel
theorem dX9_init_70 : decode cX9_init 70 = .ok (.newarray .int, 2) := by decide +kernel
theorem dX9_init_72 : decode cX9_init 72 = .ok (.putfield 34, 3) := by decide +kernel
theorem dX9_init_75 : decode cX9_init 75 = .ok (.aload_n 0, 1) := by decide +kernel
theorem dX9_init_76 : decode cX9_init 76 = .ok (.sipush 256, 3) := by decide +kernel
theorem dX9_init_79 : decode cX9_init 79 = .ok (.newarray .boolean, 2) := by decide +kernel
theorem dX9_init_81 : decode cX9_init 81 = .ok (.putfield 37, 3) := by decide +kernel
theorem dX9_init_84 : decode cX9_init 84 = .ok (.aload_n 0, 1) := by decide +kernel
theorem dX9_init_85 : decode cX9_init 85 = .ok (.sipush 256, 3) := by decide +kernel
theorem dX9_init_88 : decode cX9_init 88 = .ok (.newarray .boolean, 2) := by decide +kernel
theorem dX9_init_90 : decode cX9_init 90 = .ok (.putfield 41, 3) := by decide +kernel
theorem dX9_init_93 : decode cX9_init 93 = .ok (.aload_n 0, 1) := by decide +kernel
theorem dX9_init_94 : decode cX9_init 94 = .ok (.sipush 256, 3) := by decide +kernel
theorem dX9_init_97 : decode cX9_init 97 = .ok (.newarray .boolean, 2) := by decide +kernel
theorem dX9_init_99 : decode cX9_init 99 = .ok (.putfield 44, 3) := by decide +kernel
theorem dX9_init_102 : decode cX9_init 102 = .ok (.aload_n 0, 1) := by decide +kernel
theorem dX9_init_103 : decode cX9_init 103 = .ok (.iconst 3, 1) := by decide +kernel
theorem dX9_init_104 : decode cX9_init 104 = .ok (.newarray .int, 2) := by decide +kernel
theorem dX9_init_106 : decode cX9_init 106 = .ok (.putfield 47, 3) := by decide +kernel
theorem dX9_init_109 : decode cX9_init 109 = .ok (.aload_n 0, 1) := by decide +kernel
theorem dX9_init_110 : decode cX9_init 110 = .ok (.bipush 60, 2) := by decide +kernel
theorem dX9_init_112 : decode cX9_init 112 = .ok (.newarray .int, 2) := by decide +kernel
theorem dX9_init_114 : decode cX9_init 114 = .ok (.putfield 50, 3) := by decide +kernel
theorem dX9_init_117 : decode cX9_init 117 = .ok (.aload_n 0, 1) := by decide +kernel
theorem dX9_init_118 : decode cX9_init 118 = .ok (.bipush 60, 2) := by decide +kernel
theorem dX9_init_120 : decode cX9_init 120 = .ok (.newarray .int, 2) := by decide +kernel
theorem dX9_init_122 : decode cX9_init 122 = .ok (.putfield 53, 3) := by decide +kernel
theorem dX9_init_125 : decode cX9_init 125 = .ok (.aload_n 0, 1) := by decide +kernel
theorem dX9_init_126 : decode cX9_init 126 = .ok (.bipush 61, 2) := by decide +kernel
theorem dX9_init_128 : decode cX9_init 128 = .ok (.newarray .long, 2) := by decide +kernel
theorem dX9_init_130 : decode cX9_init 130 = .ok (.putfield 56, 3) := by decide +kernel
theorem dX9_init_133 : decode cX9_init 133 = .ok (.aload_n 0, 1) := by decide +kernel
theorem dX9_init_134 : decode cX9_init 134 = .ok (.bipush 20, 2) := by decide +kernel
theorem dX9_init_136 : decode cX9_init 136 = .ok (.putfield 60, 3) := by decide +kernel
theorem dX9_init_139 : decode cX9_init 139 = .ok (.aload_n 0, 1) := by decide +kernel
theorem dX9_init_140 : decode cX9_init 140 = .ok (.iconst 2, 1) := by decide +kernel
theorem dX9_init_141 : decode cX9_init 141 = .ok (.putfield 64, 3) := by decide +kernel
theorem dX9_init_144 : decode cX9_init 144 = .ok (.aload_n 0, 1) := by decide +kernel
theorem dX9_init_145 : decode cX9_init 145 = .ok (.iconst 4, 1) := by decide +kernel
theorem dX9_init_146 : decode cX9_init 146 = .ok (.newarray .int, 2) := by decide +kernel
theorem dX9_init_148 : decode cX9_init 148 = .ok (.putfield 67, 3) := by decide +kernel
theorem dX9_init_151 : decode cX9_init 151 = .ok (.aload_n 0, 1) := by decide +kernel
theorem dX9_init_152 : decode cX9_init 152 = .ok (.bipush 30, 2) := by decide +kernel
theorem dX9_init_154 : decode cX9_init 154 = .ok (.newarray .int, 2) := by decide +kernel
theorem dX9_init_156 : decode cX9_init 156 = .ok (.putfield 70, 3) := by decide +kernel
theorem dX9_init_159 : decode cX9_init 159 = .ok (.aload_n 0, 1) := by decide +kernel
theorem dX9_init_160 : decode cX9_init 160 = .ok (.iconst 2, 1) := by decide +kernel
theorem dX9_init_161 : decode cX9_init 161 = .ok (.putfield 73, 3) := by decide +kernel
theorem dX9_init_164 : decode cX9_init 164 = .ok (.aload_n 0, 1) := by decide +kernel
theorem dX9_init_165 : decode cX9_init 165 = .ok (.bipush 8, 2) := by decide +kernel
theorem dX9_init_167 : decode cX9_init 167 = .ok (.newarray .boolean, 2) := by decide +kernel
theorem dX9_init_169 : decode cX9_init 169 = .ok (.putfield 76, 3) := by decide +kernel
theorem dX9_init_172 : decode cX9_init 172 = .ok (.aload_n 0, 1) := by decide +kernel
theorem dX9_init_173 : decode cX9_init 173 = .ok (.bipush 8, 2) := by decide +kernel
theorem dX9_init_175 : decode cX9_init 175 = .ok (.newarray .int, 2) := by decide +kernel
theorem dX9_init_177 : decode cX9_init 177 = .ok (.putfield 79, 3) := by decide +kernel
theorem dX9_init_180 : decode cX9_init 180 = .ok (.aload_n 0, 1) := by decide +kernel
theorem dX9_init_181 : decode cX9_init 181 = .ok (.bipush 8, 2) := by decide +kernel
theorem dX9_init_183 : decode cX9_init 183 = .ok (.newarray .int, 2) := by decide +kernel
theorem dX9_init_185 : decode cX9_init 185 = .ok (.putfield 82, 3) := by decide +kernel
theorem dX9_init_188 : decode cX9_init 188 = .ok (.aload_n 0, 1) := by decide +kernel
theorem dX9_init_189 : decode cX9_init 189 = .ok (.bipush 64, 2) := by decide +kernel
theorem dX9_init_191 : decode cX9_init 191 = .ok (.newarray .int, 2) := by decide +kernel
theorem dX9_init_193 : decode cX9_init 193 = .ok (.putfield 85, 3) := by decide +kernel
theorem dX9_init_196 : decode cX9_init 196 = .ok (.aload_n 0, 1) := by decide +kernel
theorem dX9_init_197 : decode cX9_init 197 = .ok (.bipush 8, 2) := by decide +kernel
theorem dX9_init_199 : decode cX9_init 199 = .ok (.newarray .int, 2) := by decide +kernel
theorem dX9_init_201 : decode cX9_init 201 = .ok (.putfield 88, 3) := by decide +kernel
theorem dX9_init_204 : decode cX9_init 204 = .ok (.aload_n 0, 1) := by decide +kernel
theorem dX9_init_205 : decode cX9_init 205 = .ok (.bipush 8, 2) := by decide +kernel
theorem dX9_init_207 : decode cX9_init 207 = .ok (.newarray .int, 2) := by decide +kernel
theorem dX9_init_209 : decode cX9_init 209 = .ok (.putfield 91, 3) := by decide +kernel
theorem dX9_init_212 : decode cX9_init 212 = .ok (.aload_n 0, 1) := by decide +kernel
theorem dX9_init_213 : decode cX9_init 213 = .ok (.bipush 8, 2) := by decide +kernel
theorem dX9_init_215 : decode cX9_init 215 = .ok (.newarray .int, 2) := by decide +kernel
theorem dX9_init_217 : decode cX9_init 217 = .ok (.putfield 94, 3) := by decide +kernel
theorem dX9_init_220 : decode cX9_init 220 = .ok (.aload_n 0, 1) := by decide +kernel
theorem dX9_init_221 : decode cX9_init 221 = .ok (.getfield 7, 3) := by decide +kernel
theorem dX9_init_224 : decode cX9_init 224 = .ok (.iconst 0, 1) := by decide +kernel
theorem dX9_init_225 : decode cX9_init 225 = .ok (.bipush 60, 2) := by decide +kernel
theorem dX9_init_227 : decode cX9_init 227 = .ok (.iastore, 1) := by decide +kernel
theorem dX9_init_228 : decode cX9_init 228 = .ok (.aload_n 0, 1) := by decide +kernel
theorem dX9_init_229 : decode cX9_init 229 = .ok (.getfield 7, 3) := by decide +kernel
theorem dX9_init_232 : decode cX9_init 232 = .ok (.iconst 1, 1) := by decide +kernel
theorem dX9_init_233 : decode cX9_init 233 = .ok (.bipush 20, 2) := by decide +kernel
theorem dX9_init_235 : decode cX9_init 235 = .ok (.iastore, 1) := by decide +kernel
theorem dX9_init_236 : decode cX9_init 236 = .ok (.aload_n 0, 1) := by decide +kernel
theorem dX9_init_237 : decode cX9_init 237 = .ok (.getfield 7, 3) := by decide +kernel
theorem dX9_init_240 : decode cX9_init 240 = .ok (.iconst 2, 1) := by decide +kernel
theorem dX9_init_241 : decode cX9_init 241 = .ok (.bipush 30, 2) := by decide +kernel
theorem dX9_init_243 : decode cX9_init 243 = .ok (.iastore, 1) := by decide +kernel
theorem dX9_init_244 : decode cX9_init 244 = .ok (.aload_n 0, 1) := by decide +kernel
theorem dX9_init_245 : decode cX9_init 245 = .ok (.getfield 7, 3) := by decide +kernel
theorem dX9_init_248 : decode cX9_init 248 = .ok (.iconst 3, 1) := by decide +kernel
theorem dX9_init_249 : decode cX9_init 249 = .ok (.bipush 40, 2) := by decide +kernel
theorem dX9_init_251 : decode cX9_init 251 = .ok (.iastore, 1) := by decide +kernel
theorem dX9_init_252 : decode cX9_init 252 = .ok (.aload_n 0, 1) := by decide +kernel
theorem dX9_init_253 : decode cX9_init 253 = .ok (.getfield 13, 3) := by decide +kernel
theorem dX9_init_256 : decode cX9_init 256 = .ok (.iconst 0, 1) := by decide +kernel
theorem dX9_init_257 : decode cX9_init 257 = .ok (.bipush 30, 2) := by decide +kernel
theorem dX9_init_259 : decode cX9_init 259 = .ok (.iastore, 1) := by decide +kernel
theorem dX9_init_260 : decode cX9_init 260 = .ok (.aload_n 0, 1) := by decide +kernel
theorem dX9_init_261 : decode cX9_init 261 = .ok (.getfield 13, 3) := by decide +kernel
theorem dX9_init_264 : decode cX9_init 264 = .ok (.iconst 1, 1) := by decide +kernel
theorem dX9_init_265 : decode cX9_init 265 = .ok (.iconst 5, 1) := by decide +kernel
theorem dX9_init_266 : decode cX9_init 266 = .ok (.iastore, 1) := by decide +kernel
theorem dX9_init_267 : decode cX9_init 267 = .ok (.aload_n 0, 1) := by decide +kernel
theorem dX9_init_268 : decode cX9_init 268 = .ok (.getfield 13, 3) := by decide +kernel
theorem dX9_init_271 : decode cX9_init 271 = .ok (.iconst 2, 1) := by decide +kernel
theorem dX9_init_272 : decode cX9_init 272 = .ok (.bipush 20, 2) := by decide +kernel
theorem dX9_init_274 : decode cX9_init 274 = .ok (.iastore, 1) := by decide +kernel
theorem dX9_init_275 : decode cX9_init 275 = .ok (.aload_n 0, 1) := by decide +kernel
theorem dX9_init_276 : decode cX9_init 276 = .ok (.getfield 13, 3) := by decide +kernel
theorem dX9_init_279 : decode cX9_init 279 = .ok (.iconst 3, 1) := by decide +kernel
theorem dX9_init_280 : decode cX9_init 280 = .ok (.bipush 15, 2) := by decide +kernel
theorem dX9_init_282 : decode cX9_init 282 = .ok (.iastore, 1) := by decide +kernel
theorem dX9_init_283 : decode cX9_init 283 = .ok (.aload_n 0, 1) := by decide +kernel
theorem dX9_init_284 : decode cX9_init 284 = .ok (.getfield 16, 3) := by decide +kernel
theorem dX9_init_287 : decode cX9_init 287 = .ok (.iconst 0, 1) := by decide +kernel
theorem dX9_init_288 : decode cX9_init 288 = .ok (.iconst 2, 1) := by decide +kernel
theorem dX9_init_289 : decode cX9_init 289 = .ok (.iastore, 1) := by decide +kernel
theorem dX9_init_290 : decode cX9_init 290 = .ok (.aload_n 0, 1) := by decide +kernel
theorem dX9_init_291 : decode cX9_init 291 = .ok (.getfield 16, 3) := by decide +kernel
theorem dX9_init_294 : decode cX9_init 294 = .ok (.iconst 1, 1) := by decide +kernel
theorem dX9_init_295 : decode cX9_init 295 = .ok (.iconst 3, 1) := by decide +kernel
theorem dX9_init_296 : decode cX9_init 296 = .ok (.iastore, 1) := by decide +kernel
theorem dX9_init_297 : decode cX9_init 297 = .ok (.aload_n 0, 1) := by decide +kernel
theorem dX9_init_298 : decode cX9_init 298 = .ok (.getfield 16, 3) := by decide +kernel
theorem dX9_init_301 : decode cX9_init 301 = .ok (.iconst 2, 1) := by decide +kernel
theorem dX9_init_302 : decode cX9_init 302 = .ok (.iconst 2, 1) := by decide +kernel
theorem dX9_init_303 : decode cX9_init 303 = .ok (.iastore, 1) := by decide +kernel
theorem dX9_init_304 : decode cX9_init 304 = .ok (.aload_n 0, 1) := by decide +kernel
theorem dX9_init_305 : decode cX9_init 305 = .ok (.getfield 16, 3) := by decide +kernel
theorem dX9_init_308 : decode cX9_init 308 = .ok (.iconst 3, 1) := by decide +kernel
theorem dX9_init_309 : decode cX9_init 309 = .ok (.iconst 3, 1) := by decide +kernel
theorem dX9_init_310 : decode cX9_init 310 = .ok (.iastore, 1) := by decide +kernel
theorem dX9_init_311 : decode cX9_init 311 = .ok (.iconst 0, 1) := by decide +kernel
theorem dX9_init_312 : decode cX9_init 312 = .ok (.istore_n 1, 1) := by decide +kernel
theorem dX9_init_313 : decode cX9_init 313 = .ok (.iload_n 1, 1) := by decide +kernel
theorem dX9_init_314 : decode cX9_init 314 = .ok (.bipush 8, 2) := by decide +kernel
theorem dX9_init_316 : decode cX9_init 316 = .ok (.if_icmp .ge 24, 3) := by decide +kernel
theorem dX9_init_319 : decode cX9_init 319 = .ok (.aload_n 0, 1) := by decide +kernel
theorem dX9_init_320 : decode cX9_init 320 = .ok (.getfield 19, 3) := by decide +kernel
theorem dX9_init_323 : decode cX9_init 323 = .ok (.iload_n 1, 1) := by decide +kernel
theorem dX9_init_324 : decode cX9_init 324 = .ok (.bipush 10, 2) := by decide +kernel
theorem dX9_init_326 : decode cX9_init 326 = .ok (.iastore, 1) := by decide +kernel
theorem dX9_init_327 : decode cX9_init 327 = .ok (.aload_n 0, 1) := by decide +kernel
theorem dX9_init_328 : decode cX9_init 328 = .ok (.getfield 22, 3) := by decide +kernel
theorem dX9_init_331 : decode cX9_init 331 = .ok (.iload_n 1, 1) := by decide +kernel
theorem dX9_init_332 : decode cX9_init 332 = .ok (.iconst 1, 1) := by decide +kernel
theorem dX9_init_333 : decode cX9_init 333 = .ok (.iastore, 1) := by decide +kernel
theorem dX9_init_334 : decode cX9_init 334 = .ok (.iinc 1 1, 3) := by decide +kernel
theorem dX9_init_337 : decode cX9_init 337 = .ok (.goto (-24), 3) := by decide +kernel
theorem dX9_init_340 : decode cX9_init 340 = .ok (.aload_n 0, 1) := by decide +kernel
theorem dX9_init_341 : decode cX9_init 341 = .ok (.getfield 67, 3) := by decide +kernel
theorem dX9_init_344 : decode cX9_init 344 = .ok (.iconst 0, 1) := by decide +kernel
theorem dX9_init_345 : decode cX9_init 345 = .ok (.iconst 3, 1) := by decide +kernel
theorem dX9_init_346 : decode cX9_init 346 = .ok (.iastore, 1) := by decide +kernel
theorem dX9_init_347 : decode cX9_init 347 = .ok (.aload_n 0, 1) := by decide +kernel
theorem dX9_init_348 : decode cX9_init 348 = .ok (.getfield 67, 3) := by decide +kernel
theorem dX9_init_351 : decode cX9_init 351 = .ok (.iconst 1, 1) := by decide +kernel
theorem dX9_init_352 : decode cX9_init 352 = .ok (.iconst 1, 1) := by decide +kernel
theorem dX9_init_353 : decode cX9_init 353 = .ok (.iastore, 1) := by decide +kernel
theorem dX9_init_354 : decode cX9_init 354 = .ok (.aload_n 0, 1) := by decide +kernel
theorem dX9_init_355 : decode cX9_init 355 = .ok (.getfield 67, 3) := by decide +kernel
theorem dX9_init_358 : decode cX9_init 358 = .ok (.iconst 2, 1) := by decide +kernel
theorem dX9_init_359 : decode cX9_init 359 = .ok (.iconst 1, 1) := by decide +kernel
theorem dX9_init_360 : decode cX9_init 360 = .ok (.iastore, 1) := by decide +kernel
theorem dX9_init_361 : decode cX9_init 361 = .ok (.aload_n 0, 1) := by decide +kernel
theorem dX9_init_362 : decode cX9_init 362 = .ok (.getfield 67, 3) := by decide +kernel
theorem dX9_init_365 : decode cX9_init 365 = .ok (.iconst 3, 1) := by decide +kernel
theorem dX9_init_366 : decode cX9_init 366 = .ok (.iconst 2, 1) := by decide +kernel
theorem dX9_init_367 : decode cX9_init 367 = .ok (.iastore, 1) := by decide +kernel
theorem dX9_init_368 : decode cX9_init 368 = .ok (.return_, 1) := by decide +kernel
theorem dX9_in_0 : decode cX9_in 0 = .ok (.iload_n 0, 1) := by decide +kernel
theorem dX9_in_1 : decode cX9_in 1 = .ok (.iload_n 1, 1) := by decide +kernel
theorem dX9_in_2 : decode cX9_in 2 = .ok (.if_icmp .lt 12, 3) := by decide +kernel
theorem dX9_in_5 : decode cX9_in 5 = .ok (.iload_n 0, 1) := by decide +kernel
theorem dX9_in_6 : decode cX9_in 6 = .ok (.iload_n 2, 1) := by decide +kernel
theorem dX9_in_7 : decode cX9_in 7 = .ok (.if_icmp .gt 7, 3) := by decide +kernel
theorem dX9_in_10 : decode cX9_in 10 = .ok (.iconst 1, 1) := by decide +kernel
theorem dX9_in_11 : decode cX9_in 11 = .ok (.goto 4, 3) := by decide +kernel
theorem dX9_in_14 : decode cX9_in 14 = .ok (.iconst 0, 1) := by decide +kernel
theorem dX9_in_15 : decode cX9_in 15 = .ok (.ireturn, 1) := by decide +kernel
set_option maxRecDepth 20000 in
theorem ggX9_isCell_X9_in : GoodIn wsX9_isCell wsX9_in := goodIn_r _ [4] (by decide +kernel) (by decide +kernel)
set_option maxRecDepth 20000 in
theorem gX9_isCell_X9_in : GoodIn wsX9_isCell (va_wsS RX9 97 yX9_in wsX9_in) := goodIn_app (goodIn_of _ (by decide +kernel)) ggX9_isCell_X9_in
theorem dX9_isCell_0 : decode cX9_isCell 0 = .ok (.iload_n 0, 1) := by decide +kernel
theorem dX9_isCell_1 : decode cX9_isCell 1 = .ok (.iconst 0, 1) := by decide +kernel
theorem dX9_isCell_2 : decode cX9_isCell 2 = .ok (.bipush 15, 2) := by decide +kernel
theorem dX9_isCell_4 : decode cX9_isCell 4 = .ok (.invokestatic 97, 3) := by decide +kernel
theorem dX9_isCell_7 : decode cX9_isCell 7 = .ok (.ireturn, 1) := by decide +kernel
set_option maxRecDepth 20000 in
theorem ggX9_isKind_X9_in : GoodIn wsX9_isKind wsX9_in := goodIn_r _ [4] (by decide +kernel) (by decide +kernel)
set_option maxRecDepth 20000 in
theorem gX9_isKind_X9_in : GoodIn wsX9_isKind (va_wsS RX9 97 yX9_in wsX9_in) := goodIn_app (goodIn_of _ (by decide +kernel)) ggX9_isKind_X9_in
theorem dX9_isKind_0 : decode cX9_isKind 0 = .ok (.iload_n 0, 1) := by decide +kernel
theorem dX9_isKind_1 : decode cX9_isKind 1 = .ok (.iconst 0, 1) := by decide +kernel
theorem dX9_isKind_2 : decode cX9_isKind 2 = .ok (.iconst 3, 1) := by decide +kernel
theorem dX9_isKind_3 : decode cX9_isKind 3 = .ok (.invokestatic 97, 3) := by decide +kernel
theorem dX9_isKind_6 : decode cX9_isKind 6 = .ok (.ireturn, 1) := by decide +kernel
set_option maxRecDepth 20000 in
theorem ggX9_isPlayer_X9_in : GoodIn wsX9_isPlayer wsX9_in := goodIn_r _ [4] (by decide +kernel) (by decide +kernel)
set_option maxRecDepth 20000 in
theorem gX9_isPlayer_X9_in : GoodIn wsX9_isPlayer (va_wsS RX9 97 yX9_in wsX9_in) := goodIn_app (goodIn_of _ (by decide +kernel)) ggX9_isPlayer_X9_in
theorem dX9_isPlayer_0 : decode cX9_isPlayer 0 = .ok (.iload_n 0, 1) := by decide +kernel
theorem dX9_isPlayer_1 : decode cX9_isPlayer 1 = .ok (.iconst 0, 1) := by decide +kernel
theorem dX9_isPlayer_2 : decode cX9_isPlayer 2 = .ok (.bipush 7, 2) := by decide +kernel
theorem dX9_isPlayer_4 : decode cX9_isPlayer 4 = .ok (.invokestatic 97, 3) := by decide +kernel
theorem dX9_isPlayer_7 : decode cX9_isPlayer 7 = .ok (.ireturn, 1) := by decide +kernel
theorem dX9_size_0 : decode cX9_size 0 = .ok (.iload_n 0, 1) := by decide +kernel
theorem dX9_size_1 : decode cX9_size 1 = .ok (.ifCond .ge 8, 3) := by decide +kernel
theorem dX9_size_4 : decode cX9_size 4 = .ok (.iload_n 0, 1) := by decide +kernel
theorem dX9_size_5 : decode cX9_size 5 = .ok (.ineg, 1) := by decide +kernel
theorem dX9_size_6 : decode cX9_size 6 = .ok (.goto 4, 3) := by decide +kernel
theorem dX9_size_9 : decode cX9_size 9 = .ok (.iload_n 0, 1) := by decide +kernel
theorem dX9_size_10 : decode cX9_size 10 = .ok (.ireturn, 1) := by decide +kernel
set_option maxRecDepth 20000 in
theorem ggX9_far_X9_size : GoodIn wsX9_far wsX9_size := goodIn_r _ [4] (by decide +kernel) (by decide +kernel)
set_option maxRecDepth 20000 in
theorem gX9_far_X9_size : GoodIn wsX9_far (va_wsS RX9 101 yX9_size wsX9_size) := goodIn_app (goodIn_of _ (by decide +kernel)) ggX9_far_X9_size
theorem dX9_far_0 : decode cX9_far 0 = .ok (.iload_n 0, 1) := by decide +kernel
theorem dX9_far_1 : decode cX9_far 1 = .ok (.iconst 4, 1) := by decide +kernel
theorem dX9_far_2 : decode cX9_far 2 = .ok (.idiv, 1) := by decide +kernel
theorem dX9_far_3 : decode cX9_far 3 = .ok (.iload_n 1, 1) := by decide +kernel
theorem dX9_far_4 : decode cX9_far 4 = .ok (.iconst 4, 1) := by decide +kernel
theorem dX9_far_5 : decode cX9_far 5 = .ok (.idiv, 1) := by decide +kernel
theorem dX9_far_6 : decode cX9_far 6 = .ok (.isub, 1) := by decide +kernel
theorem dX9_far_7 : decode cX9_far 7 = .ok (.invokestatic 101, 3) := by decide +kernel
theorem dX9_far_10 : decode cX9_far 10 = .ok (.istore_n 2, 1) := by decide +kernel
theorem dX9_far_11 : decode cX9_far 11 = .ok (.iload_n 0, 1) := by decide +kernel
theorem dX9_far_12 : decode cX9_far 12 = .ok (.iconst 4, 1) := by decide +kernel
theorem dX9_far_13 : decode cX9_far 13 = .ok (.irem, 1) := by decide +kernel
theorem dX9_far_14 : decode cX9_far 14 = .ok (.iload_n 1, 1) := by decide +kernel
theorem dX9_far_15 : decode cX9_far 15 = .ok (.iconst 4, 1) := by decide +kernel
theorem dX9_far_16 : decode cX9_far 16 = .ok (.irem, 1) := by decide +kernel
theorem dX9_far_17 : decode cX9_far 17 = .ok (.isub, 1) := by decide +kernel
theorem dX9_far_18 : decode cX9_far 18 = .ok (.invokestatic 101, 3) := by decide +kernel
theorem dX9_far_21 : decode cX9_far 21 = .ok (.istore_n 3, 1) := by decide +kernel
theorem dX9_far_22 : decode cX9_far 22 = .ok (.iload_n 2, 1) := by decide +kernel
theorem dX9_far_23 : decode cX9_far 23 = .ok (.iload_n 3, 1) := by decide +kernel
theorem dX9_far_24 : decode cX9_far 24 = .ok (.if_icmp .le 7, 3) := by decide +kernel
theorem dX9_far_27 : decode cX9_far 27 = .ok (.iload_n 2, 1) := by decide +kernel
theorem dX9_far_28 : decode cX9_far 28 = .ok (.goto 4, 3) := by decide +kernel
theorem dX9_far_31 : decode cX9_far 31 = .ok (.iload_n 3, 1) := by decide +kernel
theorem dX9_far_32 : decode cX9_far 32 = .ok (.ireturn, 1) := by decide +kernel
set_option maxRecDepth 20000 in
theorem ggX9_kind_X9_isKind : GoodIn wsX9_kind wsX9_isKind := goodIn_r _ [7, 8, 9, 6, 10] (by decide +kernel) (by decide +kernel)
set_option maxRecDepth 20000 in
theorem gX9_kind_X9_isKind : GoodIn wsX9_kind (va_wsS RX9 105 yX9_isKind wsX9_isKind) := goodIn_app (goodIn_of _ (by decide +kernel)) ggX9_kind_X9_isKind
set_option maxRecDepth 20000 in
theorem ggX9_kind_X9_in : GoodIn wsX9_kind wsX9_in := goodIn_r _ [10] (by decide +kernel) (by decide +kernel)
set_option maxRecDepth 20000 in
theorem gX9_kind_X9_in : GoodIn wsX9_kind (va_wsS RX9 97 yX9_in wsX9_in) := goodIn_app (goodIn_of _ (by decide +kernel)) ggX9_kind_X9_in
theorem dX9_kind_0 : decode cX9_kind 0 = .ok (.iload_n 1, 1) := by decide +kernel
theorem dX9_kind_1 : decode cX9_kind 1 = .ok (.invokestatic 105, 3) := by decide +kernel
theorem dX9_kind_4 : decode cX9_kind 4 = .ok (.ifCond .ne 6, 3) := by decide +kernel
theorem dX9_kind_7 : decode cX9_kind 7 = .ok (.bipush (-2), 2) := by decide +kernel
theorem dX9_kind_9 : decode cX9_kind 9 = .ok (.ireturn, 1) := by decide +kernel
theorem dX9_kind_10 : decode cX9_kind 10 = .ok (.iload_n 2, 1) := by decide +kernel
theorem dX9_kind_11 : decode cX9_kind 11 = .ok (.bipush 10, 2) := by decide +kernel
theorem dX9_kind_13 : decode cX9_kind 13 = .ok (.bipush 60, 2) := by decide +kernel
theorem dX9_kind_15 : decode cX9_kind 15 = .ok (.invokestatic 97, 3) := by decide +kernel
theorem dX9_kind_18 : decode cX9_kind 18 = .ok (.ifCond .eq 24, 3) := by decide +kernel
theorem dX9_kind_21 : decode cX9_kind 21 = .ok (.iload_n 3, 1) := by decide +kernel
theorem dX9_kind_22 : decode cX9_kind 22 = .ok (.iconst 0, 1) := by decide +kernel
theorem dX9_kind_23 : decode cX9_kind 23 = .ok (.bipush 60, 2) := by decide +kernel
theorem dX9_kind_25 : decode cX9_kind 25 = .ok (.invokestatic 97, 3) := by decide +kernel
theorem dX9_kind_28 : decode cX9_kind 28 = .ok (.ifCond .eq 14, 3) := by decide +kernel
theorem dX9_kind_31 : decode cX9_kind 31 = .ok (.iload 4, 2) := by decide +kernel
theorem dX9_kind_33 : decode cX9_kind 33 = .ok (.iconst 1, 1) := by decide +kernel
theorem dX9_kind_34 : decode cX9_kind 34 = .ok (.bipush 6, 2) := by decide +kernel
theorem dX9_kind_36 : decode cX9_kind 36 = .ok (.invokestatic 97, 3) := by decide +kernel
theorem dX9_kind_39 : decode cX9_kind 39 = .ok (.ifCond .ne 6, 3) := by decide +kernel
theorem dX9_kind_42 : decode cX9_kind 42 = .ok (.bipush (-3), 2) := by decide +kernel
theorem dX9_kind_44 : decode cX9_kind 44 = .ok (.ireturn, 1) := by decide +kernel
theorem dX9_kind_45 : decode cX9_kind 45 = .ok (.aload_n 0, 1) := by decide +kernel
theorem dX9_kind_46 : decode cX9_kind 46 = .ok (.getfield 7, 3) := by decide +kernel
theorem dX9_kind_49 : decode cX9_kind 49 = .ok (.iload_n 1, 1) := by decide +kernel
theorem dX9_kind_50 : decode cX9_kind 50 = .ok (.iload_n 2, 1) := by decide +kernel
theorem dX9_kind_51 : decode cX9_kind 51 = .ok (.iastore, 1) := by decide +kernel
theorem dX9_kind_52 : decode cX9_kind 52 = .ok (.aload_n 0, 1) := by decide +kernel
theorem dX9_kind_53 : decode cX9_kind 53 = .ok (.getfield 13, 3) := by decide +kernel
theorem dX9_kind_56 : decode cX9_kind 56 = .ok (.iload_n 1, 1) := by decide +kernel
theorem dX9_kind_57 : decode cX9_kind 57 = .ok (.iload_n 3, 1) := by decide +kernel
theorem dX9_kind_58 : decode cX9_kind 58 = .ok (.iastore, 1) := by decide +kernel
theorem dX9_kind_59 : decode cX9_kind 59 = .ok (.aload_n 0, 1) := by decide +kernel
theorem dX9_kind_60 : decode cX9_kind 60 = .ok (.getfield 16, 3) := by decide +kernel
theorem dX9_kind_63 : decode cX9_kind 63 = .ok (.iload_n 1, 1) := by decide +kernel
theorem dX9_kind_64 : decode cX9_kind 64 = .ok (.iload 4, 2) := by decide +kernel
theorem dX9_kind_66 : decode cX9_kind 66 = .ok (.iastore, 1) := by decide +kernel
theorem dX9_kind_67 : decode cX9_kind 67 = .ok (.iconst 1, 1) := by decide +kernel
theorem dX9_kind_68 : decode cX9_kind 68 = .ok (.ireturn, 1) := by decide +kernel
set_option maxRecDepth 20000 in
theorem ggX9_broken_X9_in : GoodIn wsX9_broken wsX9_in := goodIn_r _ [5] (by decide +kernel) (by decide +kernel)
set_option maxRecDepth 20000 in
theorem gX9_broken_X9_in : GoodIn wsX9_broken (va_wsS RX9 97 yX9_in wsX9_in) := goodIn_app (goodIn_of _ (by decide +kernel)) ggX9_broken_X9_in
theorem dX9_broken_0 : decode cX9_broken 0 = .ok (.iload_n 1, 1) := by decide +kernel
theorem dX9_broken_1 : decode cX9_broken 1 = .ok (.iconst 0, 1) := by decide +kernel
theorem dX9_broken_2 : decode cX9_broken 2 = .ok (.bipush 8, 2) := by decide +kernel
theorem dX9_broken_4 : decode cX9_broken 4 = .ok (.invokestatic 97, 3) := by decide +kernel
theorem dX9_broken_7 : decode cX9_broken 7 = .ok (.ifCond .ne 6, 3) := by decide +kernel
theorem dX9_broken_10 : decode cX9_broken 10 = .ok (.bipush (-3), 2) := by decide +kernel
theorem dX9_broken_12 : decode cX9_broken 12 = .ok (.ireturn, 1) := by decide +kernel
theorem dX9_broken_13 : decode cX9_broken 13 = .ok (.aload_n 0, 1) := by decide +kernel
theorem dX9_broken_14 : decode cX9_broken 14 = .ok (.getfield 109, 3) := by decide +kernel
theorem dX9_broken_17 : decode cX9_broken 17 = .ok (.istore_n 2, 1) := by decide +kernel
theorem dX9_broken_18 : decode cX9_broken 18 = .ok (.aload_n 0, 1) := by decide +kernel
theorem dX9_broken_19 : decode cX9_broken 19 = .ok (.iload_n 1, 1) := by decide +kernel
theorem dX9_broken_20 : decode cX9_broken 20 = .ok (.putfield 109, 3) := by decide +kernel
theorem dX9_broken_23 : decode cX9_broken 23 = .ok (.iload_n 2, 1) := by decide +kernel
theorem dX9_broken_24 : decode cX9_broken 24 = .ok (.ireturn, 1) := by decide +kernel
set_option maxRecDepth 20000 in
theorem ggX9_fly_X9_size : GoodIn wsX9_fly wsX9_size := goodIn_r _ [9] (by decide +kernel) (by decide +kernel)
set_option maxRecDepth 20000 in
theorem gX9_fly_X9_size : GoodIn wsX9_fly (va_wsS RX9 101 yX9_size wsX9_size) := goodIn_app (goodIn_of _ (by decide +kernel)) ggX9_fly_X9_size
theorem dX9_fly_0 : decode cX9_fly 0 = .ok (.iload_n 2, 1) := by decide +kernel
theorem dX9_fly_1 : decode cX9_fly 1 = .ok (.iconst 4, 1) := by decide +kernel
theorem dX9_fly_2 : decode cX9_fly 2 = .ok (.idiv, 1) := by decide +kernel
theorem dX9_fly_3 : decode cX9_fly 3 = .ok (.iload_n 3, 1) := by decide +kernel
theorem dX9_fly_4 : decode cX9_fly 4 = .ok (.iconst 4, 1) := by decide +kernel
theorem dX9_fly_5 : decode cX9_fly 5 = .ok (.idiv, 1) := by decide +kernel
theorem dX9_fly_6 : decode cX9_fly 6 = .ok (.iadd, 1) := by decide +kernel
theorem dX9_fly_7 : decode cX9_fly 7 = .ok (.iconst 1, 1) := by decide +kernel
theorem dX9_fly_8 : decode cX9_fly 8 = .ok (.iadd, 1) := by decide +kernel
theorem dX9_fly_9 : decode cX9_fly 9 = .ok (.istore 4, 2) := by decide +kernel
theorem dX9_fly_11 : decode cX9_fly 11 = .ok (.bipush 10, 2) := by decide +kernel
theorem dX9_fly_13 : decode cX9_fly 13 = .ok (.iload 4, 2) := by decide +kernel
theorem dX9_fly_15 : decode cX9_fly 15 = .ok (.imul, 1) := by decide +kernel
theorem dX9_fly_16 : decode cX9_fly 16 = .ok (.iconst 5, 1) := by decide +kernel
theorem dX9_fly_17 : decode cX9_fly 17 = .ok (.iload_n 3, 1) := by decide +kernel
theorem dX9_fly_18 : decode cX9_fly 18 = .ok (.iconst 4, 1) := by decide +kernel
theorem dX9_fly_19 : decode cX9_fly 19 = .ok (.irem, 1) := by decide +kernel
theorem dX9_fly_20 : decode cX9_fly 20 = .ok (.iload_n 2, 1) := by decide +kernel
theorem dX9_fly_21 : decode cX9_fly 21 = .ok (.iconst 4, 1) := by decide +kernel
theorem dX9_fly_22 : decode cX9_fly 22 = .ok (.irem, 1) := by decide +kernel
theorem dX9_fly_23 : decode cX9_fly 23 = .ok (.isub, 1) := by decide +kernel
theorem dX9_fly_24 : decode cX9_fly 24 = .ok (.invokestatic 101, 3) := by decide +kernel
theorem dX9_fly_27 : decode cX9_fly 27 = .ok (.imul, 1) := by decide +kernel
theorem dX9_fly_28 : decode cX9_fly 28 = .ok (.iadd, 1) := by decide +kernel
theorem dX9_fly_29 : decode cX9_fly 29 = .ok (.istore 5, 2) := by decide +kernel
theorem dX9_fly_31 : decode cX9_fly 31 = .ok (.iload 5, 2) := by decide +kernel
theorem dX9_fly_33 : decode cX9_fly 33 = .ok (.bipush 100, 2) := by decide +kernel
theorem dX9_fly_35 : decode cX9_fly 35 = .ok (.iconst 4, 1) := by decide +kernel
theorem dX9_fly_36 : decode cX9_fly 36 = .ok (.aload_n 0, 1) := by decide +kernel
theorem dX9_fly_37 : decode cX9_fly 37 = .ok (.getfield 109, 3) := by decide +kernel
theorem dX9_fly_40 : decode cX9_fly 40 = .ok (.imul, 1) := by decide +kernel
theorem dX9_fly_41 : decode cX9_fly 41 = .ok (.isub, 1) := by decide +kernel
theorem dX9_fly_42 : decode cX9_fly 42 = .ok (.imul, 1) := by decide +kernel
theorem dX9_fly_43 : decode cX9_fly 43 = .ok (.bipush 100, 2) := by decide +kernel
theorem dX9_fly_45 : decode cX9_fly 45 = .ok (.idiv, 1) := by decide +kernel
theorem dX9_fly_46 : decode cX9_fly 46 = .ok (.istore 6, 2) := by decide +kernel
theorem dX9_fly_48 : decode cX9_fly 48 = .ok (.iconst 0, 1) := by decide +kernel
theorem dX9_fly_49 : decode cX9_fly 49 = .ok (.istore 7, 2) := by decide +kernel
theorem dX9_fly_51 : decode cX9_fly 51 = .ok (.aload_n 0, 1) := by decide +kernel
theorem dX9_fly_52 : decode cX9_fly 52 = .ok (.getfield 7, 3) := by decide +kernel
theorem dX9_fly_55 : decode cX9_fly 55 = .ok (.iload_n 1, 1) := by decide +kernel
theorem dX9_fly_56 : decode cX9_fly 56 = .ok (.iaload, 1) := by decide +kernel
theorem dX9_fly_57 : decode cX9_fly 57 = .ok (.istore 8, 2) := by decide +kernel
theorem dX9_fly_59 : decode cX9_fly 59 = .ok (.aload_n 0, 1) := by decide +kernel
theorem dX9_fly_60 : decode cX9_fly 60 = .ok (.iconst 0, 1) := by decide +kernel
theorem dX9_fly_61 : decode cX9_fly 61 = .ok (.putfield 112, 3) := by decide +kernel
theorem dX9_fly_64 : decode cX9_fly 64 = .ok (.iload 7, 2) := by decide +kernel
theorem dX9_fly_66 : decode cX9_fly 66 = .ok (.iload 6, 2) := by decide +kernel
theorem dX9_fly_68 : decode cX9_fly 68 = .ok (.if_icmp .ge 136, 3) := by decide +kernel
theorem dX9_fly_71 : decode cX9_fly 71 = .ok (.aload_n 0, 1) := by decide +kernel
theorem dX9_fly_72 : decode cX9_fly 72 = .ok (.dup, 1) := by decide +kernel
theorem dX9_fly_73 : decode cX9_fly 73 = .ok (.getfield 112, 3) := by decide +kernel
theorem dX9_fly_76 : decode cX9_fly 76 = .ok (.iconst 1, 1) := by decide +kernel
theorem dX9_fly_77 : decode cX9_fly 77 = .ok (.iadd, 1) := by decide +kernel
theorem dX9_fly_78 : decode cX9_fly 78 = .ok (.putfield 112, 3) := by decide +kernel
theorem dX9_fly_81 : decode cX9_fly 81 = .ok (.iload 8, 2) := by decide +kernel
theorem dX9_fly_83 : decode cX9_fly 83 = .ok (.iconst 2, 1) := by decide +kernel
theorem dX9_fly_84 : decode cX9_fly 84 = .ok (.if_icmp .ge 7, 3) := by decide +kernel
theorem dX9_fly_87 : decode cX9_fly 87 = .ok (.iconst 2, 1) := by decide +kernel
theorem dX9_fly_88 : decode cX9_fly 88 = .ok (.goto 5, 3) := by decide +kernel
theorem dX9_fly_91 : decode cX9_fly 91 = .ok (.iload 8, 2) := by decide +kernel
theorem dX9_fly_93 : decode cX9_fly 93 = .ok (.istore 8, 2) := by decide +kernel
theorem dX9_fly_95 : decode cX9_fly 95 = .ok (.iload 7, 2) := by decide +kernel
theorem dX9_fly_97 : decode cX9_fly 97 = .ok (.iload 8, 2) := by decide +kernel
theorem dX9_fly_99 : decode cX9_fly 99 = .ok (.iadd, 1) := by decide +kernel
theorem dX9_fly_100 : decode cX9_fly 100 = .ok (.iload 6, 2) := by decide +kernel
theorem dX9_fly_102 : decode cX9_fly 102 = .ok (.if_icmp .le 8, 3) := by decide +kernel
theorem dX9_fly_105 : decode cX9_fly 105 = .ok (.iload 6, 2) := by decide +kernel
theorem dX9_fly_107 : decode cX9_fly 107 = .ok (.goto 8, 3) := by decide +kernel
theorem dX9_fly_110 : decode cX9_fly 110 = .ok (.iload 7, 2) := by decide +kernel
theorem dX9_fly_112 : decode cX9_fly 112 = .ok (.iload 8, 2) := by decide +kernel
theorem dX9_fly_114 : decode cX9_fly 114 = .ok (.iadd, 1) := by decide +kernel
theorem dX9_fly_115 : decode cX9_fly 115 = .ok (.istore 7, 2) := by decide +kernel
theorem dX9_fly_117 : decode cX9_fly 117 = .ok (.iload 8, 2) := by decide +kernel
theorem dX9_fly_119 : decode cX9_fly 119 = .ok (.bipush 100, 2) := by decide +kernel
theorem dX9_fly_121 : decode cX9_fly 121 = .ok (.aload_n 0, 1) := by decide +kernel
theorem dX9_fly_122 : decode cX9_fly 122 = .ok (.getfield 13, 3) := by decide +kernel
theorem dX9_fly_125 : decode cX9_fly 125 = .ok (.iload_n 1, 1) := by decide +kernel
theorem dX9_fly_126 : decode cX9_fly 126 = .ok (.iaload, 1) := by decide +kernel
theorem dX9_fly_127 : decode cX9_fly 127 = .ok (.isub, 1) := by decide +kernel
theorem dX9_fly_128 : decode cX9_fly 128 = .ok (.iconst 2, 1) := by decide +kernel
theorem dX9_fly_129 : decode cX9_fly 129 = .ok (.aload_n 0, 1) := by decide +kernel
theorem dX9_fly_130 : decode cX9_fly 130 = .ok (.getfield 109, 3) := by decide +kernel
theorem dX9_fly_133 : decode cX9_fly 133 = .ok (.imul, 1) := by decide +kernel
theorem dX9_fly_134 : decode cX9_fly 134 = .ok (.isub, 1) := by decide +kernel
theorem dX9_fly_135 : decode cX9_fly 135 = .ok (.imul, 1) := by decide +kernel
theorem dX9_fly_136 : decode cX9_fly 136 = .ok (.bipush 100, 2) := by decide +kernel
theorem dX9_fly_138 : decode cX9_fly 138 = .ok (.idiv, 1) := by decide +kernel
theorem dX9_fly_139 : decode cX9_fly 139 = .ok (.istore 8, 2) := by decide +kernel
theorem dX9_fly_141 : decode cX9_fly 141 = .ok (.iload 4, 2) := by decide +kernel
theorem dX9_fly_143 : decode cX9_fly 143 = .ok (.iload 7, 2) := by decide +kernel
theorem dX9_fly_145 : decode cX9_fly 145 = .ok (.imul, 1) := by decide +kernel
theorem dX9_fly_146 : decode cX9_fly 146 = .ok (.iload 5, 2) := by decide +kernel
theorem dX9_fly_148 : decode cX9_fly 148 = .ok (.idiv, 1) := by decide +kernel
theorem dX9_fly_149 : decode cX9_fly 149 = .ok (.iload_n 2, 1) := by decide +kernel
theorem dX9_fly_150 : decode cX9_fly 150 = .ok (.iconst 4, 1) := by decide +kernel
theorem dX9_fly_151 : decode cX9_fly 151 = .ok (.idiv, 1) := by decide +kernel
theorem dX9_fly_152 : decode cX9_fly 152 = .ok (.isub, 1) := by decide +kernel
theorem dX9_fly_153 : decode cX9_fly 153 = .ok (.iconst 1, 1) := by decide +kernel
theorem dX9_fly_154 : decode cX9_fly 154 = .ok (.isub, 1) := by decide +kernel
theorem dX9_fly_155 : decode cX9_fly 155 = .ok (.istore 9, 2) := by decide +kernel
theorem dX9_fly_157 : decode cX9_fly 157 = .ok (.iload_n 2, 1) := by decide +kernel
theorem dX9_fly_158 : decode cX9_fly 158 = .ok (.iconst 4, 1) := by decide +kernel
theorem dX9_fly_159 : decode cX9_fly 159 = .ok (.irem, 1) := by decide +kernel
theorem dX9_fly_160 : decode cX9_fly 160 = .ok (.iload_n 3, 1) := by decide +kernel
theorem dX9_fly_161 : decode cX9_fly 161 = .ok (.iconst 4, 1) := by decide +kernel
theorem dX9_fly_162 : decode cX9_fly 162 = .ok (.irem, 1) := by decide +kernel
theorem dX9_fly_163 : decode cX9_fly 163 = .ok (.iload_n 2, 1) := by decide +kernel
theorem dX9_fly_164 : decode cX9_fly 164 = .ok (.iconst 4, 1) := by decide +kernel
theorem dX9_fly_165 : decode cX9_fly 165 = .ok (.irem, 1) := by decide +kernel
theorem dX9_fly_166 : decode cX9_fly 166 = .ok (.isub, 1) := by decide +kernel
theorem dX9_fly_167 : decode cX9_fly 167 = .ok (.iload 7, 2) := by decide +kernel
theorem dX9_fly_169 : decode cX9_fly 169 = .ok (.imul, 1) := by decide +kernel
theorem dX9_fly_170 : decode cX9_fly 170 = .ok (.iload 5, 2) := by decide +kernel
theorem dX9_fly_172 : decode cX9_fly 172 = .ok (.idiv, 1) := by decide +kernel
theorem dX9_fly_173 : decode cX9_fly 173 = .ok (.iadd, 1) := by decide +kernel
theorem dX9_fly_174 : decode cX9_fly 174 = .ok (.istore 10, 2) := by decide +kernel
theorem dX9_fly_176 : decode cX9_fly 176 = .ok (.aload_n 0, 1) := by decide +kernel
theorem dX9_fly_177 : decode cX9_fly 177 = .ok (.getfield 28, 3) := by decide +kernel
theorem dX9_fly_180 : decode cX9_fly 180 = .ok (.aload_n 0, 1) := by decide +kernel
theorem dX9_fly_181 : decode cX9_fly 181 = .ok (.getfield 112, 3) := by decide +kernel
theorem dX9_fly_184 : decode cX9_fly 184 = .ok (.iload 9, 2) := by decide +kernel
theorem dX9_fly_186 : decode cX9_fly 186 = .ok (.ifCond .lt 13, 3) := by decide +kernel
theorem dX9_fly_189 : decode cX9_fly 189 = .ok (.iconst 4, 1) := by decide +kernel
theorem dX9_fly_190 : decode cX9_fly 190 = .ok (.iload 9, 2) := by decide +kernel
theorem dX9_fly_192 : decode cX9_fly 192 = .ok (.imul, 1) := by decide +kernel
theorem dX9_fly_193 : decode cX9_fly 193 = .ok (.iload 10, 2) := by decide +kernel
theorem dX9_fly_195 : decode cX9_fly 195 = .ok (.iadd, 1) := by decide +kernel
theorem dX9_fly_196 : decode cX9_fly 196 = .ok (.goto 4, 3) := by decide +kernel
theorem dX9_fly_199 : decode cX9_fly 199 = .ok (.iconst (-1), 1) := by decide +kernel
theorem dX9_fly_200 : decode cX9_fly 200 = .ok (.iastore, 1) := by decide +kernel
theorem dX9_fly_201 : decode cX9_fly 201 = .ok (.goto (-137), 3) := by decide +kernel
theorem dX9_fly_204 : decode cX9_fly 204 = .ok (.return_, 1) := by decide +kernel
theorem dX9_firstMet_0 : decode cX9_firstMet 0 = .ok (.aload_n 0, 1) := by decide +kernel
theorem dX9_firstMet_1 : decode cX9_firstMet 1 = .ok (.getfield 112, 3) := by decide +kernel
theorem dX9_firstMet_4 : decode cX9_firstMet 4 = .ok (.aload_n 0, 1) := by decide +kernel
theorem dX9_firstMet_5 : decode cX9_firstMet 5 = .ok (.getfield 16, 3) := by decide +kernel
theorem dX9_firstMet_8 : decode cX9_firstMet 8 = .ok (.iload_n 1, 1) := by decide +kernel
theorem dX9_firstMet_9 : decode cX9_firstMet 9 = .ok (.iaload, 1) := by decide +kernel
theorem dX9_firstMet_10 : decode cX9_firstMet 10 = .ok (.isub, 1) := by decide +kernel
theorem dX9_firstMet_11 : decode cX9_firstMet 11 = .ok (.iconst 1, 1) := by decide +kernel
theorem dX9_firstMet_12 : decode cX9_firstMet 12 = .ok (.iadd, 1) := by decide +kernel
theorem dX9_firstMet_13 : decode cX9_firstMet 13 = .ok (.istore_n 2, 1) := by decide +kernel
theorem dX9_firstMet_14 : decode cX9_firstMet 14 = .ok (.iload_n 2, 1) := by decide +kernel
theorem dX9_firstMet_15 : decode cX9_firstMet 15 = .ok (.iconst 1, 1) := by decide +kernel
theorem dX9_firstMet_16 : decode cX9_firstMet 16 = .ok (.if_icmp .ge 7, 3) := by decide +kernel
theorem dX9_firstMet_19 : decode cX9_firstMet 19 = .ok (.iconst 1, 1) := by decide +kernel
theorem dX9_firstMet_20 : decode cX9_firstMet 20 = .ok (.goto 4, 3) := by decide +kernel
theorem dX9_firstMet_23 : decode cX9_firstMet 23 = .ok (.iload_n 2, 1) := by decide +kernel
theorem dX9_firstMet_24 : decode cX9_firstMet 24 = .ok (.istore_n 2, 1) := by decide +kernel
theorem dX9_firstMet_25 : decode cX9_firstMet 25 = .ok (.iload_n 2, 1) := by decide +kernel
theorem dX9_firstMet_26 : decode cX9_firstMet 26 = .ok (.aload_n 0, 1) := by decide +kernel
theorem dX9_firstMet_27 : decode cX9_firstMet 27 = .ok (.getfield 112, 3) := by decide +kernel
theorem dX9_firstMet_30 : decode cX9_firstMet 30 = .ok (.if_icmp .gt 19, 3) := by decide +kernel
theorem dX9_firstMet_33 : decode cX9_firstMet 33 = .ok (.aload_n 0, 1) := by decide +kernel
theorem dX9_firstMet_34 : decode cX9_firstMet 34 = .ok (.getfield 28, 3) := by decide +kernel
theorem dX9_firstMet_37 : decode cX9_firstMet 37 = .ok (.iload_n 2, 1) := by decide +kernel
theorem dX9_firstMet_38 : decode cX9_firstMet 38 = .ok (.iaload, 1) := by decide +kernel
theorem dX9_firstMet_39 : decode cX9_firstMet 39 = .ok (.iconst (-1), 1) := by decide +kernel
theorem dX9_firstMet_40 : decode cX9_firstMet 40 = .ok (.if_icmp .ne 9, 3) := by decide +kernel
theorem dX9_firstMet_43 : decode cX9_firstMet 43 = .ok (.iinc 2 1, 3) := by decide +kernel
theorem dX9_firstMet_46 : decode cX9_firstMet 46 = .ok (.goto (-21), 3) := by decide +kernel
theorem dX9_firstMet_49 : decode cX9_firstMet 49 = .ok (.iload_n 2, 1) := by decide +kernel
theorem dX9_firstMet_50 : decode cX9_firstMet 50 = .ok (.aload_n 0, 1) := by decide +kernel
theorem dX9_firstMet_51 : decode cX9_firstMet 51 = .ok (.getfield 112, 3) := by decide +kernel
theorem dX9_firstMet_54 : decode cX9_firstMet 54 = .ok (.if_icmp .le 7, 3) := by decide +kernel
theorem dX9_firstMet_57 : decode cX9_firstMet 57 = .ok (.iconst (-1), 1) := by decide +kernel
theorem dX9_firstMet_58 : decode cX9_firstMet 58 = .ok (.goto 4, 3) := by decide +kernel
theorem dX9_firstMet_61 : decode cX9_firstMet 61 = .ok (.iload_n 2, 1) := by decide +kernel
theorem dX9_firstMet_62 : decode cX9_firstMet 62 = .ok (.ireturn, 1) := by decide +kernel
set_option maxRecDepth 20000 in
theorem ggX9_flight_X9_isKind : GoodIn wsX9_flight wsX9_isKind := goodIn_r _ [6, 7, 8, 5, 9] (by decide +kernel) (by decide +kernel)
set_option maxRecDepth 20000 in
theorem gX9_flight_X9_isKind : GoodIn wsX9_flight (va_wsS RX9 105 yX9_isKind wsX9_isKind) := goodIn_app (goodIn_of _ (by decide +kernel)) ggX9_flight_X9_isKind
set_option maxRecDepth 20000 in
theorem ggX9_flight_X9_isCell : GoodIn wsX9_flight wsX9_isCell := goodIn_r _ [12, 7, 8, 5, 9] (by decide +kernel) (by decide +kernel)
set_option maxRecDepth 20000 in
theorem gX9_flight_X9_isCell : GoodIn wsX9_flight (va_wsS RX9 115 yX9_isCell wsX9_isCell) := goodIn_app (goodIn_of _ (by decide +kernel)) ggX9_flight_X9_isCell
set_option maxRecDepth 20000 in
theorem ggX9_flight_X9_fly : GoodIn wsX9_flight wsX9_fly := goodIn_r _ [16, 17, 18, 1, 19, 2, 20, 21, 5, 22, 28, 29, 30, 31, 32, 33, 34, 35, 36, 37, 38, 39, 40, 41, 42, 43, 44, 45, 46, 47, 48, 49, 50, 51, 52, 53, 54, 55, 56, 57, 58, 59, 60, 61, 62, 63, 64, 65] (by decide +kernel) (by decide +kernel)
set_option maxRecDepth 20000 in
theorem gX9_flight_X9_fly : GoodIn wsX9_flight (wsV RX9 118 RX9 yX9_fly wsX9_fly) := goodIn_app (goodIn_of _ (by decide +kernel)) ggX9_flight_X9_fly
set_option maxRecDepth 20000 in
theorem ggX9_flight_X9_firstMet : GoodIn wsX9_flight wsX9_firstMet := goodIn_r _ [26, 1, 27, 2, 28, 29, 30, 31, 32, 33, 34, 35, 36, 37, 38, 39, 40, 41, 42, 43, 44, 45, 46, 47, 48, 49, 50, 51, 52, 53, 54, 55, 56, 57, 58, 59, 60, 61, 62, 63, 64, 65] (by decide +kernel) (by decide +kernel)
set_option maxRecDepth 20000 in
theorem gX9_flight_X9_firstMet : GoodIn wsX9_flight (wsV RX9 122 RX9 yX9_firstMet wsX9_firstMet) := goodIn_app (goodIn_of _ (by decide +kernel)) ggX9_flight_X9_firstMet
theorem dX9_flight_0 : decode cX9_flight 0 = .ok (.iload_n 1, 1) := by decide +kernel
theorem dX9_flight_1 : decode cX9_flight 1 = .ok (.invokestatic 105, 3) := by decide +kernel
theorem dX9_flight_4 : decode cX9_flight 4 = .ok (.ifCond .eq 17, 3) := by decide +kernel
theorem dX9_flight_7 : decode cX9_flight 7 = .ok (.iload_n 2, 1) := by decide +kernel
theorem dX9_flight_8 : decode cX9_flight 8 = .ok (.invokestatic 115, 3) := by decide +kernel
theorem dX9_flight_11 : decode cX9_flight 11 = .ok (.ifCond .eq 10, 3) := by decide +kernel
theorem dX9_flight_14 : decode cX9_flight 14 = .ok (.iload_n 3, 1) := by decide +kernel
theorem dX9_flight_15 : decode cX9_flight 15 = .ok (.invokestatic 115, 3) := by decide +kernel
theorem dX9_flight_18 : decode cX9_flight 18 = .ok (.ifCond .ne 6, 3) := by decide +kernel
theorem dX9_flight_21 : decode cX9_flight 21 = .ok (.bipush (-2), 2) := by decide +kernel
theorem dX9_flight_23 : decode cX9_flight 23 = .ok (.ireturn, 1) := by decide +kernel
theorem dX9_flight_24 : decode cX9_flight 24 = .ok (.aload_n 0, 1) := by decide +kernel
theorem dX9_flight_25 : decode cX9_flight 25 = .ok (.iload_n 1, 1) := by decide +kernel
theorem dX9_flight_26 : decode cX9_flight 26 = .ok (.iload_n 2, 1) := by decide +kernel
theorem dX9_flight_27 : decode cX9_flight 27 = .ok (.iload_n 3, 1) := by decide +kernel
theorem dX9_flight_28 : decode cX9_flight 28 = .ok (.invokevirtual 118, 3) := by decide +kernel
theorem dX9_flight_31 : decode cX9_flight 31 = .ok (.iload 4, 2) := by decide +kernel
theorem dX9_flight_33 : decode cX9_flight 33 = .ok (.ifCond .ne 10, 3) := by decide +kernel
theorem dX9_flight_36 : decode cX9_flight 36 = .ok (.aload_n 0, 1) := by decide +kernel
theorem dX9_flight_37 : decode cX9_flight 37 = .ok (.getfield 112, 3) := by decide +kernel
theorem dX9_flight_40 : decode cX9_flight 40 = .ok (.goto 37, 3) := by decide +kernel
theorem dX9_flight_43 : decode cX9_flight 43 = .ok (.iload 4, 2) := by decide +kernel
theorem dX9_flight_45 : decode cX9_flight 45 = .ok (.iconst 1, 1) := by decide +kernel
theorem dX9_flight_46 : decode cX9_flight 46 = .ok (.if_icmp .ne 15, 3) := by decide +kernel
theorem dX9_flight_49 : decode cX9_flight 49 = .ok (.aload_n 0, 1) := by decide +kernel
theorem dX9_flight_50 : decode cX9_flight 50 = .ok (.getfield 28, 3) := by decide +kernel
theorem dX9_flight_53 : decode cX9_flight 53 = .ok (.aload_n 0, 1) := by decide +kernel
theorem dX9_flight_54 : decode cX9_flight 54 = .ok (.getfield 112, 3) := by decide +kernel
theorem dX9_flight_57 : decode cX9_flight 57 = .ok (.iaload, 1) := by decide +kernel
theorem dX9_flight_58 : decode cX9_flight 58 = .ok (.goto 19, 3) := by decide +kernel
theorem dX9_flight_61 : decode cX9_flight 61 = .ok (.iload 4, 2) := by decide +kernel
theorem dX9_flight_63 : decode cX9_flight 63 = .ok (.iconst 2, 1) := by decide +kernel
theorem dX9_flight_64 : decode cX9_flight 64 = .ok (.if_icmp .ne 11, 3) := by decide +kernel
theorem dX9_flight_67 : decode cX9_flight 67 = .ok (.aload_n 0, 1) := by decide +kernel
theorem dX9_flight_68 : decode cX9_flight 68 = .ok (.iload_n 1, 1) := by decide +kernel
theorem dX9_flight_69 : decode cX9_flight 69 = .ok (.invokevirtual 122, 3) := by decide +kernel
theorem dX9_flight_72 : decode cX9_flight 72 = .ok (.goto 5, 3) := by decide +kernel
theorem dX9_flight_75 : decode cX9_flight 75 = .ok (.bipush (-3), 2) := by decide +kernel
theorem dX9_flight_77 : decode cX9_flight 77 = .ok (.ireturn, 1) := by decide +kernel
set_option maxRecDepth 20000 in
theorem ggX9_over_X9_isKind : GoodIn wsX9_over wsX9_isKind := goodIn_r _ [6, 7, 8, 5, 9] (by decide +kernel) (by decide +kernel)
set_option maxRecDepth 20000 in
theorem gX9_over_X9_isKind : GoodIn wsX9_over (va_wsS RX9 105 yX9_isKind wsX9_isKind) := goodIn_app (goodIn_of _ (by decide +kernel)) ggX9_over_X9_isKind
set_option maxRecDepth 20000 in
theorem ggX9_over_X9_isCell : GoodIn wsX9_over wsX9_isCell := goodIn_r _ [12, 7, 8, 5, 9] (by decide +kernel) (by decide +kernel)
set_option maxRecDepth 20000 in
theorem gX9_over_X9_isCell : GoodIn wsX9_over (va_wsS RX9 115 yX9_isCell wsX9_isCell) := goodIn_app (goodIn_of _ (by decide +kernel)) ggX9_over_X9_isCell
set_option maxRecDepth 20000 in
theorem ggX9_over_X9_in : GoodIn wsX9_over wsX9_in := goodIn_r _ [9] (by decide +kernel) (by decide +kernel)
set_option maxRecDepth 20000 in
theorem gX9_over_X9_in : GoodIn wsX9_over (va_wsS RX9 97 yX9_in wsX9_in) := goodIn_app (goodIn_of _ (by decide +kernel)) ggX9_over_X9_in
set_option maxRecDepth 20000 in
theorem ggX9_over_X9_fly : GoodIn wsX9_over wsX9_fly := goodIn_r _ [16, 17, 18, 2, 19, 1, 20, 21, 5, 22, 23, 24, 25, 26, 27, 28, 29, 30, 31, 32, 33, 34, 35, 36, 37, 38, 39, 40, 41, 42, 43, 44, 45, 46, 47, 48, 49, 50, 51, 52, 53, 54, 55, 56, 57, 58, 59, 60] (by decide +kernel) (by decide +kernel)
set_option maxRecDepth 20000 in
theorem gX9_over_X9_fly : GoodIn wsX9_over (wsV RX9 118 RX9 yX9_fly wsX9_fly) := goodIn_app (goodIn_of _ (by decide +kernel)) ggX9_over_X9_fly
theorem dX9_over_0 : decode cX9_over 0 = .ok (.iload_n 1, 1) := by decide +kernel
theorem dX9_over_1 : decode cX9_over 1 = .ok (.invokestatic 105, 3) := by decide +kernel
theorem dX9_over_4 : decode cX9_over 4 = .ok (.ifCond .eq 17, 3) := by decide +kernel
theorem dX9_over_7 : decode cX9_over 7 = .ok (.iload_n 2, 1) := by decide +kernel
theorem dX9_over_8 : decode cX9_over 8 = .ok (.invokestatic 115, 3) := by decide +kernel
theorem dX9_over_11 : decode cX9_over 11 = .ok (.ifCond .eq 10, 3) := by decide +kernel
theorem dX9_over_14 : decode cX9_over 14 = .ok (.iload_n 3, 1) := by decide +kernel
theorem dX9_over_15 : decode cX9_over 15 = .ok (.invokestatic 115, 3) := by decide +kernel
theorem dX9_over_18 : decode cX9_over 18 = .ok (.ifCond .ne 6, 3) := by decide +kernel
theorem dX9_over_21 : decode cX9_over 21 = .ok (.bipush (-2), 2) := by decide +kernel
theorem dX9_over_23 : decode cX9_over 23 = .ok (.ireturn, 1) := by decide +kernel
theorem dX9_over_24 : decode cX9_over 24 = .ok (.iload 4, 2) := by decide +kernel
theorem dX9_over_26 : decode cX9_over 26 = .ok (.iconst 1, 1) := by decide +kernel
theorem dX9_over_27 : decode cX9_over 27 = .ok (.bipush 60, 2) := by decide +kernel
theorem dX9_over_29 : decode cX9_over 29 = .ok (.invokestatic 97, 3) := by decide +kernel
theorem dX9_over_32 : decode cX9_over 32 = .ok (.ifCond .ne 6, 3) := by decide +kernel
theorem dX9_over_35 : decode cX9_over 35 = .ok (.bipush (-3), 2) := by decide +kernel
theorem dX9_over_37 : decode cX9_over 37 = .ok (.ireturn, 1) := by decide +kernel
theorem dX9_over_38 : decode cX9_over 38 = .ok (.aload_n 0, 1) := by decide +kernel
theorem dX9_over_39 : decode cX9_over 39 = .ok (.iload_n 1, 1) := by decide +kernel
theorem dX9_over_40 : decode cX9_over 40 = .ok (.iload_n 2, 1) := by decide +kernel
theorem dX9_over_41 : decode cX9_over 41 = .ok (.iload_n 3, 1) := by decide +kernel
theorem dX9_over_42 : decode cX9_over 42 = .ok (.invokevirtual 118, 3) := by decide +kernel
theorem dX9_over_45 : decode cX9_over 45 = .ok (.aload_n 0, 1) := by decide +kernel
theorem dX9_over_46 : decode cX9_over 46 = .ok (.getfield 28, 3) := by decide +kernel
theorem dX9_over_49 : decode cX9_over 49 = .ok (.iload 4, 2) := by decide +kernel
theorem dX9_over_51 : decode cX9_over 51 = .ok (.aload_n 0, 1) := by decide +kernel
theorem dX9_over_52 : decode cX9_over 52 = .ok (.getfield 112, 3) := by decide +kernel
theorem dX9_over_55 : decode cX9_over 55 = .ok (.if_icmp .ge 8, 3) := by decide +kernel
theorem dX9_over_58 : decode cX9_over 58 = .ok (.iload 4, 2) := by decide +kernel
theorem dX9_over_60 : decode cX9_over 60 = .ok (.goto 7, 3) := by decide +kernel
theorem dX9_over_63 : decode cX9_over 63 = .ok (.aload_n 0, 1) := by decide +kernel
theorem dX9_over_64 : decode cX9_over 64 = .ok (.getfield 112, 3) := by decide +kernel
theorem dX9_over_67 : decode cX9_over 67 = .ok (.iaload, 1) := by decide +kernel
theorem dX9_over_68 : decode cX9_over 68 = .ok (.ireturn, 1) := by decide +kernel
set_option maxRecDepth 20000 in
theorem ggX9_player_X9_isPlayer : GoodIn wsX9_player wsX9_isPlayer := goodIn_r _ [6, 7, 8, 5, 9] (by decide +kernel) (by decide +kernel)
set_option maxRecDepth 20000 in
theorem gX9_player_X9_isPlayer : GoodIn wsX9_player (va_wsS RX9 125 yX9_isPlayer wsX9_isPlayer) := goodIn_app (goodIn_of _ (by decide +kernel)) ggX9_player_X9_isPlayer
set_option maxRecDepth 20000 in
theorem ggX9_player_X9_in : GoodIn wsX9_player wsX9_in := goodIn_r _ [9] (by decide +kernel) (by decide +kernel)
set_option maxRecDepth 20000 in
theorem gX9_player_X9_in : GoodIn wsX9_player (va_wsS RX9 97 yX9_in wsX9_in) := goodIn_app (goodIn_of _ (by decide +kernel)) ggX9_player_X9_in
theorem dX9_player_0 : decode cX9_player 0 = .ok (.iload_n 1, 1) := by decide +kernel
theorem dX9_player_1 : decode cX9_player 1 = .ok (.invokestatic 125, 3) := by decide +kernel
theorem dX9_player_4 : decode cX9_player 4 = .ok (.ifCond .ne 6, 3) := by decide +kernel
theorem dX9_player_7 : decode cX9_player 7 = .ok (.bipush (-2), 2) := by decide +kernel
theorem dX9_player_9 : decode cX9_player 9 = .ok (.ireturn, 1) := by decide +kernel
theorem dX9_player_10 : decode cX9_player 10 = .ok (.iload_n 2, 1) := by decide +kernel
theorem dX9_player_11 : decode cX9_player 11 = .ok (.iconst 1, 1) := by decide +kernel
theorem dX9_player_12 : decode cX9_player 12 = .ok (.bipush 20, 2) := by decide +kernel
theorem dX9_player_14 : decode cX9_player 14 = .ok (.invokestatic 97, 3) := by decide +kernel
theorem dX9_player_17 : decode cX9_player 17 = .ok (.ifCond .eq 12, 3) := by decide +kernel
theorem dX9_player_20 : decode cX9_player 20 = .ok (.iload_n 3, 1) := by decide +kernel
theorem dX9_player_21 : decode cX9_player 21 = .ok (.iconst 0, 1) := by decide +kernel
theorem dX9_player_22 : decode cX9_player 22 = .ok (.iconst 2, 1) := by decide +kernel
theorem dX9_player_23 : decode cX9_player 23 = .ok (.invokestatic 97, 3) := by decide +kernel
theorem dX9_player_26 : decode cX9_player 26 = .ok (.ifCond .ne 6, 3) := by decide +kernel
theorem dX9_player_29 : decode cX9_player 29 = .ok (.bipush (-3), 2) := by decide +kernel
theorem dX9_player_31 : decode cX9_player 31 = .ok (.ireturn, 1) := by decide +kernel
theorem dX9_player_32 : decode cX9_player 32 = .ok (.aload_n 0, 1) := by decide +kernel
theorem dX9_player_33 : decode cX9_player 33 = .ok (.getfield 19, 3) := by decide +kernel
theorem dX9_player_36 : decode cX9_player 36 = .ok (.iload_n 1, 1) := by decide +kernel
theorem dX9_player_37 : decode cX9_player 37 = .ok (.iload_n 2, 1) := by decide +kernel
theorem dX9_player_38 : decode cX9_player 38 = .ok (.iastore, 1) := by decide +kernel
theorem dX9_player_39 : decode cX9_player 39 = .ok (.aload_n 0, 1) := by decide +kernel
theorem dX9_player_40 : decode cX9_player 40 = .ok (.getfield 22, 3) := by decide +kernel
theorem dX9_player_43 : decode cX9_player 43 = .ok (.iload_n 1, 1) := by decide +kernel
theorem dX9_player_44 : decode cX9_player 44 = .ok (.iload_n 3, 1) := by decide +kernel
theorem dX9_player_45 : decode cX9_player 45 = .ok (.iastore, 1) := by decide +kernel
theorem dX9_player_46 : decode cX9_player 46 = .ok (.iconst 1, 1) := by decide +kernel
theorem dX9_player_47 : decode cX9_player 47 = .ok (.ireturn, 1) := by decide +kernel
set_option maxRecDepth 20000 in
theorem ggX9_run_X9_isPlayer : GoodIn wsX9_run wsX9_isPlayer := goodIn_r _ [5, 6, 7, 4, 8] (by decide +kernel) (by decide +kernel)
set_option maxRecDepth 20000 in
theorem gX9_run_X9_isPlayer : GoodIn wsX9_run (va_wsS RX9 125 yX9_isPlayer wsX9_isPlayer) := goodIn_app (goodIn_of _ (by decide +kernel)) ggX9_run_X9_isPlayer
set_option maxRecDepth 20000 in
theorem ggX9_run_X9_in : GoodIn wsX9_run wsX9_in := goodIn_r _ [8] (by decide +kernel) (by decide +kernel)
set_option maxRecDepth 20000 in
theorem gX9_run_X9_in : GoodIn wsX9_run (va_wsS RX9 97 yX9_in wsX9_in) := goodIn_app (goodIn_of _ (by decide +kernel)) ggX9_run_X9_in
theorem dX9_run_0 : decode cX9_run 0 = .ok (.iload_n 1, 1) := by decide +kernel
theorem dX9_run_1 : decode cX9_run 1 = .ok (.invokestatic 125, 3) := by decide +kernel
theorem dX9_run_4 : decode cX9_run 4 = .ok (.ifCond .ne 6, 3) := by decide +kernel
theorem dX9_run_7 : decode cX9_run 7 = .ok (.bipush (-2), 2) := by decide +kernel
theorem dX9_run_9 : decode cX9_run 9 = .ok (.ireturn, 1) := by decide +kernel
theorem dX9_run_10 : decode cX9_run 10 = .ok (.iload_n 2, 1) := by decide +kernel
theorem dX9_run_11 : decode cX9_run 11 = .ok (.iconst 0, 1) := by decide +kernel
theorem dX9_run_12 : decode cX9_run 12 = .ok (.bipush 100, 2) := by decide +kernel
theorem dX9_run_14 : decode cX9_run 14 = .ok (.invokestatic 97, 3) := by decide +kernel
theorem dX9_run_17 : decode cX9_run 17 = .ok (.ifCond .ne 6, 3) := by decide +kernel
theorem dX9_run_20 : decode cX9_run 20 = .ok (.bipush (-3), 2) := by decide +kernel
theorem dX9_run_22 : decode cX9_run 22 = .ok (.ireturn, 1) := by decide +kernel
theorem dX9_run_23 : decode cX9_run 23 = .ok (.aload_n 0, 1) := by decide +kernel
theorem dX9_run_24 : decode cX9_run 24 = .ok (.getfield 25, 3) := by decide +kernel
theorem dX9_run_27 : decode cX9_run 27 = .ok (.iload_n 1, 1) := by decide +kernel
theorem dX9_run_28 : decode cX9_run 28 = .ok (.aload_n 0, 1) := by decide +kernel
theorem dX9_run_29 : decode cX9_run 29 = .ok (.getfield 25, 3) := by decide +kernel
theorem dX9_run_32 : decode cX9_run 32 = .ok (.iload_n 1, 1) := by decide +kernel
theorem dX9_run_33 : decode cX9_run 33 = .ok (.iaload, 1) := by decide +kernel
theorem dX9_run_34 : decode cX9_run 34 = .ok (.iload_n 2, 1) := by decide +kernel
theorem dX9_run_35 : decode cX9_run 35 = .ok (.iadd, 1) := by decide +kernel
theorem dX9_run_36 : decode cX9_run 36 = .ok (.bipush 100, 2) := by decide +kernel
theorem dX9_run_38 : decode cX9_run 38 = .ok (.if_icmp .le 8, 3) := by decide +kernel
theorem dX9_run_41 : decode cX9_run 41 = .ok (.bipush 100, 2) := by decide +kernel
theorem dX9_run_43 : decode cX9_run 43 = .ok (.goto 11, 3) := by decide +kernel
theorem dX9_run_46 : decode cX9_run 46 = .ok (.aload_n 0, 1) := by decide +kernel
theorem dX9_run_47 : decode cX9_run 47 = .ok (.getfield 25, 3) := by decide +kernel
theorem dX9_run_50 : decode cX9_run 50 = .ok (.iload_n 1, 1) := by decide +kernel
theorem dX9_run_51 : decode cX9_run 51 = .ok (.iaload, 1) := by decide +kernel
theorem dX9_run_52 : decode cX9_run 52 = .ok (.iload_n 2, 1) := by decide +kernel
theorem dX9_run_53 : decode cX9_run 53 = .ok (.iadd, 1) := by decide +kernel
theorem dX9_run_54 : decode cX9_run 54 = .ok (.iastore, 1) := by decide +kernel
theorem dX9_run_55 : decode cX9_run 55 = .ok (.aload_n 0, 1) := by decide +kernel
theorem dX9_run_56 : decode cX9_run 56 = .ok (.getfield 25, 3) := by decide +kernel
theorem dX9_run_59 : decode cX9_run 59 = .ok (.iload_n 1, 1) := by decide +kernel
theorem dX9_run_60 : decode cX9_run 60 = .ok (.iaload, 1) := by decide +kernel
theorem dX9_run_61 : decode cX9_run 61 = .ok (.ireturn, 1) := by decide +kernel
set_option maxRecDepth 20000 in
theorem ggX9_rest_X9_isPlayer : GoodIn wsX9_rest wsX9_isPlayer := goodIn_r _ [5, 6, 7, 4, 8] (by decide +kernel) (by decide +kernel)
set_option maxRecDepth 20000 in
theorem gX9_rest_X9_isPlayer : GoodIn wsX9_rest (va_wsS RX9 125 yX9_isPlayer wsX9_isPlayer) := goodIn_app (goodIn_of _ (by decide +kernel)) ggX9_rest_X9_isPlayer
set_option maxRecDepth 20000 in
theorem ggX9_rest_X9_in : GoodIn wsX9_rest wsX9_in := goodIn_r _ [8] (by decide +kernel) (by decide +kernel)
set_option maxRecDepth 20000 in
theorem gX9_rest_X9_in : GoodIn wsX9_rest (va_wsS RX9 97 yX9_in wsX9_in) := goodIn_app (goodIn_of _ (by decide +kernel)) ggX9_rest_X9_in
theorem dX9_rest_0 : decode cX9_rest 0 = .ok (.iload_n 1, 1) := by decide +kernel
theorem dX9_rest_1 : decode cX9_rest 1 = .ok (.invokestatic 125, 3) := by decide +kernel
theorem dX9_rest_4 : decode cX9_rest 4 = .ok (.ifCond .ne 6, 3) := by decide +kernel
theorem dX9_rest_7 : decode cX9_rest 7 = .ok (.bipush (-2), 2) := by decide +kernel
theorem dX9_rest_9 : decode cX9_rest 9 = .ok (.ireturn, 1) := by decide +kernel
theorem dX9_rest_10 : decode cX9_rest 10 = .ok (.iload_n 2, 1) := by decide +kernel
theorem dX9_rest_11 : decode cX9_rest 11 = .ok (.iconst 0, 1) := by decide +kernel
theorem dX9_rest_12 : decode cX9_rest 12 = .ok (.bipush 100, 2) := by decide +kernel
theorem dX9_rest_14 : decode cX9_rest 14 = .ok (.invokestatic 97, 3) := by decide +kernel
theorem dX9_rest_17 : decode cX9_rest 17 = .ok (.ifCond .ne 6, 3) := by decide +kernel
theorem dX9_rest_20 : decode cX9_rest 20 = .ok (.bipush (-3), 2) := by decide +kernel
theorem dX9_rest_22 : decode cX9_rest 22 = .ok (.ireturn, 1) := by decide +kernel
theorem dX9_rest_23 : decode cX9_rest 23 = .ok (.aload_n 0, 1) := by decide +kernel
theorem dX9_rest_24 : decode cX9_rest 24 = .ok (.getfield 25, 3) := by decide +kernel
theorem dX9_rest_27 : decode cX9_rest 27 = .ok (.iload_n 1, 1) := by decide +kernel
theorem dX9_rest_28 : decode cX9_rest 28 = .ok (.aload_n 0, 1) := by decide +kernel
theorem dX9_rest_29 : decode cX9_rest 29 = .ok (.getfield 25, 3) := by decide +kernel
theorem dX9_rest_32 : decode cX9_rest 32 = .ok (.iload_n 1, 1) := by decide +kernel
theorem dX9_rest_33 : decode cX9_rest 33 = .ok (.iaload, 1) := by decide +kernel
theorem dX9_rest_34 : decode cX9_rest 34 = .ok (.iload_n 2, 1) := by decide +kernel
theorem dX9_rest_35 : decode cX9_rest 35 = .ok (.if_icmp .ge 7, 3) := by decide +kernel
theorem dX9_rest_38 : decode cX9_rest 38 = .ok (.iconst 0, 1) := by decide +kernel
theorem dX9_rest_39 : decode cX9_rest 39 = .ok (.goto 11, 3) := by decide +kernel
theorem dX9_rest_42 : decode cX9_rest 42 = .ok (.aload_n 0, 1) := by decide +kernel
theorem dX9_rest_43 : decode cX9_rest 43 = .ok (.getfield 25, 3) := by decide +kernel
theorem dX9_rest_46 : decode cX9_rest 46 = .ok (.iload_n 1, 1) := by decide +kernel
theorem dX9_rest_47 : decode cX9_rest 47 = .ok (.iaload, 1) := by decide +kernel
theorem dX9_rest_48 : decode cX9_rest 48 = .ok (.iload_n 2, 1) := by decide +kernel
theorem dX9_rest_49 : decode cX9_rest 49 = .ok (.isub, 1) := by decide +kernel
theorem dX9_rest_50 : decode cX9_rest 50 = .ok (.iastore, 1) := by decide +kernel
theorem dX9_rest_51 : decode cX9_rest 51 = .ok (.aload_n 0, 1) := by decide +kernel
theorem dX9_rest_52 : decode cX9_rest 52 = .ok (.getfield 25, 3) := by decide +kernel
theorem dX9_rest_55 : decode cX9_rest 55 = .ok (.iload_n 1, 1) := by decide +kernel
theorem dX9_rest_56 : decode cX9_rest 56 = .ok (.iaload, 1) := by decide +kernel
theorem dX9_rest_57 : decode cX9_rest 57 = .ok (.ireturn, 1) := by decide +kernel
theorem dX9_stride_0 : decode cX9_stride 0 = .ok (.aload_n 0, 1) := by decide +kernel
theorem dX9_stride_1 : decode cX9_stride 1 = .ok (.getfield 19, 3) := by decide +kernel
theorem dX9_stride_4 : decode cX9_stride 4 = .ok (.iload_n 1, 1) := by decide +kernel
theorem dX9_stride_5 : decode cX9_stride 5 = .ok (.iaload, 1) := by decide +kernel
theorem dX9_stride_6 : decode cX9_stride 6 = .ok (.sipush 200, 3) := by decide +kernel
theorem dX9_stride_9 : decode cX9_stride 9 = .ok (.aload_n 0, 1) := by decide +kernel
theorem dX9_stride_10 : decode cX9_stride 10 = .ok (.getfield 25, 3) := by decide +kernel
theorem dX9_stride_13 : decode cX9_stride 13 = .ok (.iload_n 1, 1) := by decide +kernel
theorem dX9_stride_14 : decode cX9_stride 14 = .ok (.iaload, 1) := by decide +kernel
theorem dX9_stride_15 : decode cX9_stride 15 = .ok (.isub, 1) := by decide +kernel
theorem dX9_stride_16 : decode cX9_stride 16 = .ok (.imul, 1) := by decide +kernel
theorem dX9_stride_17 : decode cX9_stride 17 = .ok (.sipush 200, 3) := by decide +kernel
theorem dX9_stride_20 : decode cX9_stride 20 = .ok (.idiv, 1) := by decide +kernel
theorem dX9_stride_21 : decode cX9_stride 21 = .ok (.istore_n 2, 1) := by decide +kernel
theorem dX9_stride_22 : decode cX9_stride 22 = .ok (.iload_n 2, 1) := by decide +kernel
theorem dX9_stride_23 : decode cX9_stride 23 = .ok (.iconst 1, 1) := by decide +kernel
theorem dX9_stride_24 : decode cX9_stride 24 = .ok (.if_icmp .ge 7, 3) := by decide +kernel
theorem dX9_stride_27 : decode cX9_stride 27 = .ok (.iconst 1, 1) := by decide +kernel
theorem dX9_stride_28 : decode cX9_stride 28 = .ok (.goto 4, 3) := by decide +kernel
theorem dX9_stride_31 : decode cX9_stride 31 = .ok (.iload_n 2, 1) := by decide +kernel
theorem dX9_stride_32 : decode cX9_stride 32 = .ok (.ireturn, 1) := by decide +kernel
set_option maxRecDepth 20000 in
theorem ggX9_over0_X9_far : GoodIn wsX9_over0 wsX9_far := goodIn_r _ [6, 7, 8, 5, 9] (by decide +kernel) (by decide +kernel)
set_option maxRecDepth 20000 in
theorem gX9_over0_X9_far : GoodIn wsX9_over0 (va_wsS RX9 128 yX9_far wsX9_far) := goodIn_app (goodIn_of _ (by decide +kernel)) ggX9_over0_X9_far
set_option maxRecDepth 20000 in
theorem ggX9_over0_X9_stride : GoodIn wsX9_over0 wsX9_stride := goodIn_r _ [13, 14, 15, 16, 17, 18, 19, 20, 21, 22, 23, 24, 25, 26, 27, 28, 29, 30, 31, 32, 33, 34, 35, 36, 37, 38, 39, 40, 41, 42, 43, 44, 45, 46, 47, 48, 49, 50, 51, 52, 53] (by decide +kernel) (by decide +kernel)
set_option maxRecDepth 20000 in
theorem gX9_over0_X9_stride : GoodIn wsX9_over0 (wsV RX9 132 RX9 yX9_stride wsX9_stride) := goodIn_app (goodIn_of _ (by decide +kernel)) ggX9_over0_X9_stride
theorem dX9_over0_0 : decode cX9_over0 0 = .ok (.iload_n 2, 1) := by decide +kernel
theorem dX9_over0_1 : decode cX9_over0 1 = .ok (.aload_n 0, 1) := by decide +kernel
theorem dX9_over0_2 : decode cX9_over0 2 = .ok (.getfield 28, 3) := by decide +kernel
theorem dX9_over0_5 : decode cX9_over0 5 = .ok (.iload_n 3, 1) := by decide +kernel
theorem dX9_over0_6 : decode cX9_over0 6 = .ok (.iaload, 1) := by decide +kernel
theorem dX9_over0_7 : decode cX9_over0 7 = .ok (.invokestatic 128, 3) := by decide +kernel
theorem dX9_over0_10 : decode cX9_over0 10 = .ok (.aload_n 0, 1) := by decide +kernel
theorem dX9_over0_11 : decode cX9_over0 11 = .ok (.getfield 22, 3) := by decide +kernel
theorem dX9_over0_14 : decode cX9_over0 14 = .ok (.iload_n 1, 1) := by decide +kernel
theorem dX9_over0_15 : decode cX9_over0 15 = .ok (.iaload, 1) := by decide +kernel
theorem dX9_over0_16 : decode cX9_over0 16 = .ok (.isub, 1) := by decide +kernel
theorem dX9_over0_17 : decode cX9_over0 17 = .ok (.istore 4, 2) := by decide +kernel
theorem dX9_over0_19 : decode cX9_over0 19 = .ok (.iload_n 3, 1) := by decide +kernel
theorem dX9_over0_20 : decode cX9_over0 20 = .ok (.aload_n 0, 1) := by decide +kernel
theorem dX9_over0_21 : decode cX9_over0 21 = .ok (.iload_n 1, 1) := by decide +kernel
theorem dX9_over0_22 : decode cX9_over0 22 = .ok (.invokevirtual 132, 3) := by decide +kernel
theorem dX9_over0_25 : decode cX9_over0 25 = .ok (.imul, 1) := by decide +kernel
theorem dX9_over0_26 : decode cX9_over0 26 = .ok (.bipush 10, 2) := by decide +kernel
theorem dX9_over0_28 : decode cX9_over0 28 = .ok (.idiv, 1) := by decide +kernel
theorem dX9_over0_29 : decode cX9_over0 29 = .ok (.iload 4, 2) := by decide +kernel
theorem dX9_over0_31 : decode cX9_over0 31 = .ok (.ifCond .ge 7, 3) := by decide +kernel
theorem dX9_over0_34 : decode cX9_over0 34 = .ok (.iconst 0, 1) := by decide +kernel
theorem dX9_over0_35 : decode cX9_over0 35 = .ok (.goto 5, 3) := by decide +kernel
theorem dX9_over0_38 : decode cX9_over0 38 = .ok (.iload 4, 2) := by decide +kernel
theorem dX9_over0_40 : decode cX9_over0 40 = .ok (.isub, 1) := by decide +kernel
theorem dX9_over0_41 : decode cX9_over0 41 = .ok (.ireturn, 1) := by decide +kernel
set_option maxRecDepth 20000 in
theorem ggX9_slackOf_X9_firstMet : GoodIn wsX9_slackOf wsX9_firstMet := goodIn_r _ [7, 1, 8, 2, 26, 27, 28, 29, 30, 31, 32, 33, 34, 35, 36, 37, 38, 39, 40, 41, 42, 43, 44, 45, 46, 47, 48, 49, 50, 51, 52, 53, 54, 55, 56, 57, 58, 59, 60, 61, 62, 63] (by decide +kernel) (by decide +kernel)
set_option maxRecDepth 20000 in
theorem gX9_slackOf_X9_firstMet : GoodIn wsX9_slackOf (wsV RX9 122 RX9 yX9_firstMet wsX9_firstMet) := goodIn_app (goodIn_of _ (by decide +kernel)) ggX9_slackOf_X9_firstMet
set_option maxRecDepth 20000 in
theorem ggX9_slackOf_X9_over0 : GoodIn wsX9_slackOf wsX9_over0 := goodIn_r _ [12, 2, 13, 14, 15, 6, 16, 17, 18, 19, 20, 21, 22, 23, 24, 25, 26, 27, 28, 29, 30, 31, 32, 33, 34, 35, 36, 37, 38, 39, 40, 41, 42, 43, 44, 45, 46, 47, 48, 49, 50, 51, 52, 53, 54, 55, 56, 57, 58, 59, 60, 61, 62, 63] (by decide +kernel) (by decide +kernel)
set_option maxRecDepth 20000 in
theorem gX9_slackOf_X9_over0 : GoodIn wsX9_slackOf (wsV RX9 135 RX9 yX9_over0 wsX9_over0) := goodIn_app (goodIn_of _ (by decide +kernel)) ggX9_slackOf_X9_over0
theorem dX9_slackOf_0 : decode cX9_slackOf 0 = .ok (.aload_n 0, 1) := by decide +kernel
theorem dX9_slackOf_1 : decode cX9_slackOf 1 = .ok (.iload_n 3, 1) := by decide +kernel
theorem dX9_slackOf_2 : decode cX9_slackOf 2 = .ok (.invokevirtual 122, 3) := by decide +kernel
theorem dX9_slackOf_5 : decode cX9_slackOf 5 = .ok (.istore 4, 2) := by decide +kernel
theorem dX9_slackOf_7 : decode cX9_slackOf 7 = .ok (.bipush (-100), 2) := by decide +kernel
theorem dX9_slackOf_9 : decode cX9_slackOf 9 = .ok (.istore 5, 2) := by decide +kernel
theorem dX9_slackOf_11 : decode cX9_slackOf 11 = .ok (.iload 4, 2) := by decide +kernel
theorem dX9_slackOf_13 : decode cX9_slackOf 13 = .ok (.istore 6, 2) := by decide +kernel
theorem dX9_slackOf_15 : decode cX9_slackOf 15 = .ok (.iload 6, 2) := by decide +kernel
theorem dX9_slackOf_17 : decode cX9_slackOf 17 = .ok (.aload_n 0, 1) := by decide +kernel
theorem dX9_slackOf_18 : decode cX9_slackOf 18 = .ok (.getfield 112, 3) := by decide +kernel
theorem dX9_slackOf_21 : decode cX9_slackOf 21 = .ok (.if_icmp .gt 57, 3) := by decide +kernel
theorem dX9_slackOf_24 : decode cX9_slackOf 24 = .ok (.iload 4, 2) := by decide +kernel
theorem dX9_slackOf_26 : decode cX9_slackOf 26 = .ok (.iconst (-1), 1) := by decide +kernel
theorem dX9_slackOf_27 : decode cX9_slackOf 27 = .ok (.if_icmp .eq 51, 3) := by decide +kernel
theorem dX9_slackOf_30 : decode cX9_slackOf 30 = .ok (.aload_n 0, 1) := by decide +kernel
theorem dX9_slackOf_31 : decode cX9_slackOf 31 = .ok (.getfield 28, 3) := by decide +kernel
theorem dX9_slackOf_34 : decode cX9_slackOf 34 = .ok (.iload 6, 2) := by decide +kernel
theorem dX9_slackOf_36 : decode cX9_slackOf 36 = .ok (.iaload, 1) := by decide +kernel
theorem dX9_slackOf_37 : decode cX9_slackOf 37 = .ok (.iconst (-1), 1) := by decide +kernel
theorem dX9_slackOf_38 : decode cX9_slackOf 38 = .ok (.if_icmp .ne 8, 3) := by decide +kernel
theorem dX9_slackOf_41 : decode cX9_slackOf 41 = .ok (.bipush (-100), 2) := by decide +kernel
theorem dX9_slackOf_43 : decode cX9_slackOf 43 = .ok (.goto 11, 3) := by decide +kernel
theorem dX9_slackOf_46 : decode cX9_slackOf 46 = .ok (.aload_n 0, 1) := by decide +kernel
theorem dX9_slackOf_47 : decode cX9_slackOf 47 = .ok (.iload_n 1, 1) := by decide +kernel
theorem dX9_slackOf_48 : decode cX9_slackOf 48 = .ok (.iload_n 2, 1) := by decide +kernel
theorem dX9_slackOf_49 : decode cX9_slackOf 49 = .ok (.iload 6, 2) := by decide +kernel
theorem dX9_slackOf_51 : decode cX9_slackOf 51 = .ok (.invokevirtual 135, 3) := by decide +kernel
theorem dX9_slackOf_54 : decode cX9_slackOf 54 = .ok (.istore 7, 2) := by decide +kernel
theorem dX9_slackOf_56 : decode cX9_slackOf 56 = .ok (.iload 7, 2) := by decide +kernel
theorem dX9_slackOf_58 : decode cX9_slackOf 58 = .ok (.iload 5, 2) := by decide +kernel
theorem dX9_slackOf_60 : decode cX9_slackOf 60 = .ok (.if_icmp .le 8, 3) := by decide +kernel
theorem dX9_slackOf_63 : decode cX9_slackOf 63 = .ok (.iload 7, 2) := by decide +kernel
theorem dX9_slackOf_65 : decode cX9_slackOf 65 = .ok (.goto 5, 3) := by decide +kernel
theorem dX9_slackOf_68 : decode cX9_slackOf 68 = .ok (.iload 5, 2) := by decide +kernel
theorem dX9_slackOf_70 : decode cX9_slackOf 70 = .ok (.istore 5, 2) := by decide +kernel
theorem dX9_slackOf_72 : decode cX9_slackOf 72 = .ok (.iinc 6 1, 3) := by decide +kernel
theorem dX9_slackOf_75 : decode cX9_slackOf 75 = .ok (.goto (-60), 3) := by decide +kernel
theorem dX9_slackOf_78 : decode cX9_slackOf 78 = .ok (.iload 5, 2) := by decide +kernel
theorem dX9_slackOf_80 : decode cX9_slackOf 80 = .ok (.ireturn, 1) := by decide +kernel
set_option maxRecDepth 20000 in
theorem ggX9_slack_X9_isPlayer : GoodIn wsX9_slack wsX9_isPlayer := goodIn_r _ [4, 5, 6, 3, 7] (by decide +kernel) (by decide +kernel)
set_option maxRecDepth 20000 in
theorem gX9_slack_X9_isPlayer : GoodIn wsX9_slack (va_wsS RX9 125 yX9_isPlayer wsX9_isPlayer) := goodIn_app (goodIn_of _ (by decide +kernel)) ggX9_slack_X9_isPlayer
set_option maxRecDepth 20000 in
theorem ggX9_slack_X9_isCell : GoodIn wsX9_slack wsX9_isCell := goodIn_r _ [10, 5, 6, 3, 7] (by decide +kernel) (by decide +kernel)
set_option maxRecDepth 20000 in
theorem gX9_slack_X9_isCell : GoodIn wsX9_slack (va_wsS RX9 115 yX9_isCell wsX9_isCell) := goodIn_app (goodIn_of _ (by decide +kernel)) ggX9_slack_X9_isCell
set_option maxRecDepth 20000 in
theorem ggX9_slack_X9_isKind : GoodIn wsX9_slack wsX9_isKind := goodIn_r _ [13, 5, 6, 3, 7] (by decide +kernel) (by decide +kernel)
set_option maxRecDepth 20000 in
theorem gX9_slack_X9_isKind : GoodIn wsX9_slack (va_wsS RX9 105 yX9_isKind wsX9_isKind) := goodIn_app (goodIn_of _ (by decide +kernel)) ggX9_slack_X9_isKind
set_option maxRecDepth 20000 in
theorem ggX9_slack_X9_fly : GoodIn wsX9_slack wsX9_fly := goodIn_r _ [17, 18, 19, 20, 21, 22, 23, 24, 3, 25, 49, 50, 51, 52, 53, 54, 55, 56, 57, 58, 59, 60, 61, 62, 63, 64, 65, 66, 67, 68, 69, 70, 71, 72, 73, 74, 75, 76, 77, 78, 79, 80, 81, 82, 83, 84, 85, 86] (by decide +kernel) (by decide +kernel)
set_option maxRecDepth 20000 in
theorem gX9_slack_X9_fly : GoodIn wsX9_slack (wsV RX9 118 RX9 yX9_fly wsX9_fly) := goodIn_app (goodIn_of _ (by decide +kernel)) ggX9_slack_X9_fly
set_option maxRecDepth 20000 in
theorem ggX9_slack_X9_slackOf : GoodIn wsX9_slack wsX9_slackOf := goodIn_r _ [29, 20, 22, 30, 31, 32, 3, 33, 34, 35, 36, 37, 38, 39, 40, 41, 42, 23, 24, 25, 43, 44, 45, 46, 47, 48, 49, 50, 51, 52, 53, 54, 55, 56, 57, 58, 59, 60, 61, 62, 63, 64, 65, 66, 67, 68, 69, 70, 71, 72, 73, 74, 75, 76, 77, 78, 79, 80, 81, 82, 83, 84, 85, 86] (by decide +kernel) (by decide +kernel)
set_option maxRecDepth 20000 in
theorem gX9_slack_X9_slackOf : GoodIn wsX9_slack (wsV RX9 139 RX9 yX9_slackOf wsX9_slackOf) := goodIn_app (goodIn_of _ (by decide +kernel)) ggX9_slack_X9_slackOf
theorem dX9_slack_0 : decode cX9_slack 0 = .ok (.iload_n 1, 1) := by decide +kernel
theorem dX9_slack_1 : decode cX9_slack 1 = .ok (.invokestatic 125, 3) := by decide +kernel
theorem dX9_slack_4 : decode cX9_slack 4 = .ok (.ifCond .eq 33, 3) := by decide +kernel
theorem dX9_slack_7 : decode cX9_slack 7 = .ok (.iload_n 2, 1) := by decide +kernel
theorem dX9_slack_8 : decode cX9_slack 8 = .ok (.invokestatic 115, 3) := by decide +kernel
theorem dX9_slack_11 : decode cX9_slack 11 = .ok (.ifCond .eq 26, 3) := by decide +kernel
theorem dX9_slack_14 : decode cX9_slack 14 = .ok (.iload_n 3, 1) := by decide +kernel
theorem dX9_slack_15 : decode cX9_slack 15 = .ok (.invokestatic 105, 3) := by decide +kernel
theorem dX9_slack_18 : decode cX9_slack 18 = .ok (.ifCond .eq 19, 3) := by decide +kernel
theorem dX9_slack_21 : decode cX9_slack 21 = .ok (.iload 4, 2) := by decide +kernel
theorem dX9_slack_23 : decode cX9_slack 23 = .ok (.invokestatic 115, 3) := by decide +kernel
theorem dX9_slack_26 : decode cX9_slack 26 = .ok (.ifCond .eq 11, 3) := by decide +kernel
theorem dX9_slack_29 : decode cX9_slack 29 = .ok (.iload 5, 2) := by decide +kernel
theorem dX9_slack_31 : decode cX9_slack 31 = .ok (.invokestatic 115, 3) := by decide +kernel
theorem dX9_slack_34 : decode cX9_slack 34 = .ok (.ifCond .ne 6, 3) := by decide +kernel
theorem dX9_slack_37 : decode cX9_slack 37 = .ok (.bipush (-102), 2) := by decide +kernel
theorem dX9_slack_39 : decode cX9_slack 39 = .ok (.ireturn, 1) := by decide +kernel
theorem dX9_slack_40 : decode cX9_slack 40 = .ok (.aload_n 0, 1) := by decide +kernel
theorem dX9_slack_41 : decode cX9_slack 41 = .ok (.iload_n 3, 1) := by decide +kernel
theorem dX9_slack_42 : decode cX9_slack 42 = .ok (.iload 4, 2) := by decide +kernel
theorem dX9_slack_44 : decode cX9_slack 44 = .ok (.iload 5, 2) := by decide +kernel
theorem dX9_slack_46 : decode cX9_slack 46 = .ok (.invokevirtual 118, 3) := by decide +kernel
theorem dX9_slack_49 : decode cX9_slack 49 = .ok (.aload_n 0, 1) := by decide +kernel
theorem dX9_slack_50 : decode cX9_slack 50 = .ok (.iload_n 1, 1) := by decide +kernel
theorem dX9_slack_51 : decode cX9_slack 51 = .ok (.iload_n 2, 1) := by decide +kernel
theorem dX9_slack_52 : decode cX9_slack 52 = .ok (.iload_n 3, 1) := by decide +kernel
theorem dX9_slack_53 : decode cX9_slack 53 = .ok (.invokevirtual 139, 3) := by decide +kernel
theorem dX9_slack_56 : decode cX9_slack 56 = .ok (.ireturn, 1) := by decide +kernel
set_option maxRecDepth 20000 in
theorem ggX9_strike_X9_isCell : GoodIn wsX9_strike wsX9_isCell := goodIn_r _ [4, 5, 6, 3, 7] (by decide +kernel) (by decide +kernel)
set_option maxRecDepth 20000 in
theorem gX9_strike_X9_isCell : GoodIn wsX9_strike (va_wsS RX9 115 yX9_isCell wsX9_isCell) := goodIn_app (goodIn_of _ (by decide +kernel)) ggX9_strike_X9_isCell
set_option maxRecDepth 20000 in
theorem ggX9_strike_X9_isPlayer : GoodIn wsX9_strike wsX9_isPlayer := goodIn_r _ [10, 5, 6, 3, 7] (by decide +kernel) (by decide +kernel)
set_option maxRecDepth 20000 in
theorem gX9_strike_X9_isPlayer : GoodIn wsX9_strike (va_wsS RX9 125 yX9_isPlayer wsX9_isPlayer) := goodIn_app (goodIn_of _ (by decide +kernel)) ggX9_strike_X9_isPlayer
set_option maxRecDepth 20000 in
theorem ggX9_strike_X9_in : GoodIn wsX9_strike wsX9_in := goodIn_r _ [7] (by decide +kernel) (by decide +kernel)
set_option maxRecDepth 20000 in
theorem gX9_strike_X9_in : GoodIn wsX9_strike (va_wsS RX9 97 yX9_in wsX9_in) := goodIn_app (goodIn_of _ (by decide +kernel)) ggX9_strike_X9_in
set_option maxRecDepth 20000 in
theorem ggX9_strike_X9_fly : GoodIn wsX9_strike wsX9_fly := goodIn_r _ [14, 15, 16, 17, 18, 19, 20, 21, 3, 22, 46, 47, 48, 49, 50, 51, 52, 53, 54, 55, 56, 57, 58, 59, 60, 61, 62, 63, 64, 65, 66, 67, 68, 69, 70, 71, 72, 73, 74, 75, 76, 77, 78, 79, 80, 81, 82, 83] (by decide +kernel) (by decide +kernel)
set_option maxRecDepth 20000 in
theorem gX9_strike_X9_fly : GoodIn wsX9_strike (wsV RX9 118 RX9 yX9_fly wsX9_fly) := goodIn_app (goodIn_of _ (by decide +kernel)) ggX9_strike_X9_fly
set_option maxRecDepth 20000 in
theorem ggX9_strike_X9_slackOf : GoodIn wsX9_strike wsX9_slackOf := goodIn_r _ [26, 17, 19, 27, 28, 29, 3, 30, 31, 32, 33, 34, 35, 36, 37, 38, 39, 20, 21, 22, 40, 41, 42, 43, 44, 45, 46, 47, 48, 49, 50, 51, 52, 53, 54, 55, 56, 57, 58, 59, 60, 61, 62, 63, 64, 65, 66, 67, 68, 69, 70, 71, 72, 73, 74, 75, 76, 77, 78, 79, 80, 81, 82, 83] (by decide +kernel) (by decide +kernel)
set_option maxRecDepth 20000 in
theorem gX9_strike_X9_slackOf : GoodIn wsX9_strike (wsV RX9 139 RX9 yX9_slackOf wsX9_slackOf) := goodIn_app (goodIn_of _ (by decide +kernel)) ggX9_strike_X9_slackOf
theorem dX9_strike_0 : decode cX9_strike 0 = .ok (.iload_n 1, 1) := by decide +kernel
theorem dX9_strike_1 : decode cX9_strike 1 = .ok (.invokestatic 115, 3) := by decide +kernel
theorem dX9_strike_4 : decode cX9_strike 4 = .ok (.ifCond .eq 17, 3) := by decide +kernel
theorem dX9_strike_7 : decode cX9_strike 7 = .ok (.iload_n 2, 1) := by decide +kernel
theorem dX9_strike_8 : decode cX9_strike 8 = .ok (.invokestatic 125, 3) := by decide +kernel
theorem dX9_strike_11 : decode cX9_strike 11 = .ok (.ifCond .eq 10, 3) := by decide +kernel
theorem dX9_strike_14 : decode cX9_strike 14 = .ok (.iload_n 3, 1) := by decide +kernel
theorem dX9_strike_15 : decode cX9_strike 15 = .ok (.invokestatic 115, 3) := by decide +kernel
theorem dX9_strike_18 : decode cX9_strike 18 = .ok (.ifCond .ne 6, 3) := by decide +kernel
theorem dX9_strike_21 : decode cX9_strike 21 = .ok (.bipush (-102), 2) := by decide +kernel
theorem dX9_strike_23 : decode cX9_strike 23 = .ok (.ireturn, 1) := by decide +kernel
theorem dX9_strike_24 : decode cX9_strike 24 = .ok (.iload 4, 2) := by decide +kernel
theorem dX9_strike_26 : decode cX9_strike 26 = .ok (.iconst 0, 1) := by decide +kernel
theorem dX9_strike_27 : decode cX9_strike 27 = .ok (.iconst 1, 1) := by decide +kernel
theorem dX9_strike_28 : decode cX9_strike 28 = .ok (.invokestatic 97, 3) := by decide +kernel
theorem dX9_strike_31 : decode cX9_strike 31 = .ok (.ifCond .ne 6, 3) := by decide +kernel
theorem dX9_strike_34 : decode cX9_strike 34 = .ok (.bipush (-103), 2) := by decide +kernel
theorem dX9_strike_36 : decode cX9_strike 36 = .ok (.ireturn, 1) := by decide +kernel
theorem dX9_strike_37 : decode cX9_strike 37 = .ok (.iconst (-1), 1) := by decide +kernel
theorem dX9_strike_38 : decode cX9_strike 38 = .ok (.istore 5, 2) := by decide +kernel
theorem dX9_strike_40 : decode cX9_strike 40 = .ok (.bipush (-100), 2) := by decide +kernel
theorem dX9_strike_42 : decode cX9_strike 42 = .ok (.istore 6, 2) := by decide +kernel
theorem dX9_strike_44 : decode cX9_strike 44 = .ok (.iconst 0, 1) := by decide +kernel
theorem dX9_strike_45 : decode cX9_strike 45 = .ok (.istore 7, 2) := by decide +kernel
theorem dX9_strike_47 : decode cX9_strike 47 = .ok (.iload 7, 2) := by decide +kernel
theorem dX9_strike_49 : decode cX9_strike 49 = .ok (.bipush 64, 2) := by decide +kernel
theorem dX9_strike_51 : decode cX9_strike 51 = .ok (.if_icmp .ge 65, 3) := by decide +kernel
theorem dX9_strike_54 : decode cX9_strike 54 = .ok (.aload_n 0, 1) := by decide +kernel
theorem dX9_strike_55 : decode cX9_strike 55 = .ok (.iload 7, 2) := by decide +kernel
theorem dX9_strike_57 : decode cX9_strike 57 = .ok (.bipush 16, 2) := by decide +kernel
theorem dX9_strike_59 : decode cX9_strike 59 = .ok (.idiv, 1) := by decide +kernel
theorem dX9_strike_60 : decode cX9_strike 60 = .ok (.iload_n 1, 1) := by decide +kernel
theorem dX9_strike_61 : decode cX9_strike 61 = .ok (.iload 7, 2) := by decide +kernel
theorem dX9_strike_63 : decode cX9_strike 63 = .ok (.bipush 16, 2) := by decide +kernel
theorem dX9_strike_65 : decode cX9_strike 65 = .ok (.irem, 1) := by decide +kernel
theorem dX9_strike_66 : decode cX9_strike 66 = .ok (.invokevirtual 118, 3) := by decide +kernel
theorem dX9_strike_69 : decode cX9_strike 69 = .ok (.aload_n 0, 1) := by decide +kernel
theorem dX9_strike_70 : decode cX9_strike 70 = .ok (.iload_n 2, 1) := by decide +kernel
theorem dX9_strike_71 : decode cX9_strike 71 = .ok (.iload_n 3, 1) := by decide +kernel
theorem dX9_strike_72 : decode cX9_strike 72 = .ok (.iload 7, 2) := by decide +kernel
theorem dX9_strike_74 : decode cX9_strike 74 = .ok (.bipush 16, 2) := by decide +kernel
theorem dX9_strike_76 : decode cX9_strike 76 = .ok (.idiv, 1) := by decide +kernel
theorem dX9_strike_77 : decode cX9_strike 77 = .ok (.invokevirtual 139, 3) := by decide +kernel
theorem dX9_strike_80 : decode cX9_strike 80 = .ok (.istore 8, 2) := by decide +kernel
theorem dX9_strike_82 : decode cX9_strike 82 = .ok (.iload 8, 2) := by decide +kernel
theorem dX9_strike_84 : decode cX9_strike 84 = .ok (.bipush (-100), 2) := by decide +kernel
theorem dX9_strike_86 : decode cX9_strike 86 = .ok (.if_icmp .eq 24, 3) := by decide +kernel
theorem dX9_strike_89 : decode cX9_strike 89 = .ok (.iload 5, 2) := by decide +kernel
theorem dX9_strike_91 : decode cX9_strike 91 = .ok (.iconst (-1), 1) := by decide +kernel
theorem dX9_strike_92 : decode cX9_strike 92 = .ok (.if_icmp .eq 10, 3) := by decide +kernel
theorem dX9_strike_95 : decode cX9_strike 95 = .ok (.iload 8, 2) := by decide +kernel
theorem dX9_strike_97 : decode cX9_strike 97 = .ok (.iload 6, 2) := by decide +kernel
theorem dX9_strike_99 : decode cX9_strike 99 = .ok (.if_icmp .ge 11, 3) := by decide +kernel
theorem dX9_strike_102 : decode cX9_strike 102 = .ok (.iload 7, 2) := by decide +kernel
theorem dX9_strike_104 : decode cX9_strike 104 = .ok (.istore 5, 2) := by decide +kernel
theorem dX9_strike_106 : decode cX9_strike 106 = .ok (.iload 8, 2) := by decide +kernel
theorem dX9_strike_108 : decode cX9_strike 108 = .ok (.istore 6, 2) := by decide +kernel
theorem dX9_strike_110 : decode cX9_strike 110 = .ok (.iinc 7 1, 3) := by decide +kernel
theorem dX9_strike_113 : decode cX9_strike 113 = .ok (.goto (-66), 3) := by decide +kernel
theorem dX9_strike_116 : decode cX9_strike 116 = .ok (.iload 4, 2) := by decide +kernel
theorem dX9_strike_118 : decode cX9_strike 118 = .ok (.ifCond .ne 8, 3) := by decide +kernel
theorem dX9_strike_121 : decode cX9_strike 121 = .ok (.iload 5, 2) := by decide +kernel
theorem dX9_strike_123 : decode cX9_strike 123 = .ok (.goto 5, 3) := by decide +kernel
theorem dX9_strike_126 : decode cX9_strike 126 = .ok (.iload 6, 2) := by decide +kernel
theorem dX9_strike_128 : decode cX9_strike 128 = .ok (.ireturn, 1) := by decide +kernel
set_option maxRecDepth 20000 in
theorem ggX9_leastSlack_X9_fly : GoodIn wsX9_leastSlack wsX9_fly := goodIn_r _ [5, 6, 7, 8, 9, 10, 11, 12, 4, 13, 37, 38, 39, 40, 41, 42, 43, 44, 45, 46, 47, 48, 49, 50, 51, 52, 53, 54, 55, 56, 57, 58, 59, 60, 61, 62, 63, 64, 65, 66, 67, 68, 69, 70, 71, 72, 73, 74] (by decide +kernel) (by decide +kernel)
set_option maxRecDepth 20000 in
theorem gX9_leastSlack_X9_fly : GoodIn wsX9_leastSlack (wsV RX9 118 RX9 yX9_fly wsX9_fly) := goodIn_app (goodIn_of _ (by decide +kernel)) ggX9_leastSlack_X9_fly
set_option maxRecDepth 20000 in
theorem ggX9_leastSlack_X9_slackOf : GoodIn wsX9_leastSlack wsX9_slackOf := goodIn_r _ [17, 8, 10, 18, 19, 20, 4, 21, 22, 23, 24, 25, 26, 27, 28, 29, 30, 11, 12, 13, 31, 32, 33, 34, 35, 36, 37, 38, 39, 40, 41, 42, 43, 44, 45, 46, 47, 48, 49, 50, 51, 52, 53, 54, 55, 56, 57, 58, 59, 60, 61, 62, 63, 64, 65, 66, 67, 68, 69, 70, 71, 72, 73, 74] (by decide +kernel) (by decide +kernel)
set_option maxRecDepth 20000 in
theorem gX9_leastSlack_X9_slackOf : GoodIn wsX9_leastSlack (wsV RX9 139 RX9 yX9_slackOf wsX9_slackOf) := goodIn_app (goodIn_of _ (by decide +kernel)) ggX9_leastSlack_X9_slackOf
theorem dX9_leastSlack_0 : decode cX9_leastSlack 0 = .ok (.bipush (-100), 2) := by decide +kernel
theorem dX9_leastSlack_2 : decode cX9_leastSlack 2 = .ok (.istore 4, 2) := by decide +kernel
theorem dX9_leastSlack_4 : decode cX9_leastSlack 4 = .ok (.iconst 0, 1) := by decide +kernel
theorem dX9_leastSlack_5 : decode cX9_leastSlack 5 = .ok (.istore 5, 2) := by decide +kernel
theorem dX9_leastSlack_7 : decode cX9_leastSlack 7 = .ok (.iload 5, 2) := by decide +kernel
theorem dX9_leastSlack_9 : decode cX9_leastSlack 9 = .ok (.bipush 64, 2) := by decide +kernel
theorem dX9_leastSlack_11 : decode cX9_leastSlack 11 = .ok (.if_icmp .ge 67, 3) := by decide +kernel
theorem dX9_leastSlack_14 : decode cX9_leastSlack 14 = .ok (.aload_n 0, 1) := by decide +kernel
theorem dX9_leastSlack_15 : decode cX9_leastSlack 15 = .ok (.iload 5, 2) := by decide +kernel
theorem dX9_leastSlack_17 : decode cX9_leastSlack 17 = .ok (.bipush 16, 2) := by decide +kernel
theorem dX9_leastSlack_19 : decode cX9_leastSlack 19 = .ok (.idiv, 1) := by decide +kernel
theorem dX9_leastSlack_20 : decode cX9_leastSlack 20 = .ok (.iload_n 3, 1) := by decide +kernel
theorem dX9_leastSlack_21 : decode cX9_leastSlack 21 = .ok (.iload 5, 2) := by decide +kernel
theorem dX9_leastSlack_23 : decode cX9_leastSlack 23 = .ok (.bipush 16, 2) := by decide +kernel
theorem dX9_leastSlack_25 : decode cX9_leastSlack 25 = .ok (.irem, 1) := by decide +kernel
theorem dX9_leastSlack_26 : decode cX9_leastSlack 26 = .ok (.invokevirtual 118, 3) := by decide +kernel
theorem dX9_leastSlack_29 : decode cX9_leastSlack 29 = .ok (.aload_n 0, 1) := by decide +kernel
theorem dX9_leastSlack_30 : decode cX9_leastSlack 30 = .ok (.iload_n 1, 1) := by decide +kernel
theorem dX9_leastSlack_31 : decode cX9_leastSlack 31 = .ok (.iload_n 2, 1) := by decide +kernel
theorem dX9_leastSlack_32 : decode cX9_leastSlack 32 = .ok (.iload 5, 2) := by decide +kernel
theorem dX9_leastSlack_34 : decode cX9_leastSlack 34 = .ok (.bipush 16, 2) := by decide +kernel
theorem dX9_leastSlack_36 : decode cX9_leastSlack 36 = .ok (.idiv, 1) := by decide +kernel
theorem dX9_leastSlack_37 : decode cX9_leastSlack 37 = .ok (.invokevirtual 139, 3) := by decide +kernel
theorem dX9_leastSlack_40 : decode cX9_leastSlack 40 = .ok (.istore 6, 2) := by decide +kernel
theorem dX9_leastSlack_42 : decode cX9_leastSlack 42 = .ok (.iload 6, 2) := by decide +kernel
theorem dX9_leastSlack_44 : decode cX9_leastSlack 44 = .ok (.bipush (-100), 2) := by decide +kernel
theorem dX9_leastSlack_46 : decode cX9_leastSlack 46 = .ok (.if_icmp .eq 22, 3) := by decide +kernel
theorem dX9_leastSlack_49 : decode cX9_leastSlack 49 = .ok (.iload 4, 2) := by decide +kernel
theorem dX9_leastSlack_51 : decode cX9_leastSlack 51 = .ok (.bipush (-100), 2) := by decide +kernel
theorem dX9_leastSlack_53 : decode cX9_leastSlack 53 = .ok (.if_icmp .eq 10, 3) := by decide +kernel
theorem dX9_leastSlack_56 : decode cX9_leastSlack 56 = .ok (.iload 6, 2) := by decide +kernel
theorem dX9_leastSlack_58 : decode cX9_leastSlack 58 = .ok (.iload 4, 2) := by decide +kernel
theorem dX9_leastSlack_60 : decode cX9_leastSlack 60 = .ok (.if_icmp .ge 8, 3) := by decide +kernel
theorem dX9_leastSlack_63 : decode cX9_leastSlack 63 = .ok (.iload 6, 2) := by decide +kernel
theorem dX9_leastSlack_65 : decode cX9_leastSlack 65 = .ok (.goto 5, 3) := by decide +kernel
theorem dX9_leastSlack_68 : decode cX9_leastSlack 68 = .ok (.iload 4, 2) := by decide +kernel
theorem dX9_leastSlack_70 : decode cX9_leastSlack 70 = .ok (.istore 4, 2) := by decide +kernel
theorem dX9_leastSlack_72 : decode cX9_leastSlack 72 = .ok (.iinc 5 1, 3) := by decide +kernel
theorem dX9_leastSlack_75 : decode cX9_leastSlack 75 = .ok (.goto (-68), 3) := by decide +kernel
theorem dX9_leastSlack_78 : decode cX9_leastSlack 78 = .ok (.iload 4, 2) := by decide +kernel
theorem dX9_leastSlack_80 : decode cX9_leastSlack 80 = .ok (.ireturn, 1) := by decide +kernel
set_option maxRecDepth 20000 in
theorem ggX9_stand_X9_isPlayer : GoodIn wsX9_stand wsX9_isPlayer := goodIn_r _ [4, 5, 6, 3, 7] (by decide +kernel) (by decide +kernel)
set_option maxRecDepth 20000 in
theorem gX9_stand_X9_isPlayer : GoodIn wsX9_stand (va_wsS RX9 125 yX9_isPlayer wsX9_isPlayer) := goodIn_app (goodIn_of _ (by decide +kernel)) ggX9_stand_X9_isPlayer
set_option maxRecDepth 20000 in
theorem ggX9_stand_X9_isCell : GoodIn wsX9_stand wsX9_isCell := goodIn_r _ [10, 5, 6, 3, 7] (by decide +kernel) (by decide +kernel)
set_option maxRecDepth 20000 in
theorem gX9_stand_X9_isCell : GoodIn wsX9_stand (va_wsS RX9 115 yX9_isCell wsX9_isCell) := goodIn_app (goodIn_of _ (by decide +kernel)) ggX9_stand_X9_isCell
set_option maxRecDepth 20000 in
theorem ggX9_stand_X9_in : GoodIn wsX9_stand wsX9_in := goodIn_r _ [7] (by decide +kernel) (by decide +kernel)
set_option maxRecDepth 20000 in
theorem gX9_stand_X9_in : GoodIn wsX9_stand (va_wsS RX9 97 yX9_in wsX9_in) := goodIn_app (goodIn_of _ (by decide +kernel)) ggX9_stand_X9_in
set_option maxRecDepth 20000 in
theorem ggX9_stand_X9_leastSlack : GoodIn wsX9_stand wsX9_leastSlack := goodIn_r _ [14, 15, 16, 17, 3, 18, 19, 20, 21, 22, 23, 24, 25, 26, 27, 28, 29, 30, 31, 32, 33, 34, 35, 36, 37, 38, 39, 40, 41, 42, 43, 44, 45, 46, 47, 48, 49, 50, 51, 52, 53, 54, 55, 56, 57, 58, 59, 60, 61, 62, 63, 64, 65, 66, 67, 68, 69, 70, 71, 72, 73, 74, 75, 76, 77, 78, 79, 80, 81, 82, 83, 84, 85, 86, 87] (by decide +kernel) (by decide +kernel)
set_option maxRecDepth 20000 in
theorem gX9_stand_X9_leastSlack : GoodIn wsX9_stand (wsV RX9 142 RX9 yX9_leastSlack wsX9_leastSlack) := goodIn_app (goodIn_of _ (by decide +kernel)) ggX9_stand_X9_leastSlack
theorem dX9_stand_0 : decode cX9_stand 0 = .ok (.iload_n 1, 1) := by decide +kernel
theorem dX9_stand_1 : decode cX9_stand 1 = .ok (.invokestatic 125, 3) := by decide +kernel
theorem dX9_stand_4 : decode cX9_stand 4 = .ok (.ifCond .eq 10, 3) := by decide +kernel
theorem dX9_stand_7 : decode cX9_stand 7 = .ok (.iload_n 2, 1) := by decide +kernel
theorem dX9_stand_8 : decode cX9_stand 8 = .ok (.invokestatic 115, 3) := by decide +kernel
theorem dX9_stand_11 : decode cX9_stand 11 = .ok (.ifCond .ne 6, 3) := by decide +kernel
theorem dX9_stand_14 : decode cX9_stand 14 = .ok (.bipush (-102), 2) := by decide +kernel
theorem dX9_stand_16 : decode cX9_stand 16 = .ok (.ireturn, 1) := by decide +kernel
theorem dX9_stand_17 : decode cX9_stand 17 = .ok (.iload_n 3, 1) := by decide +kernel
theorem dX9_stand_18 : decode cX9_stand 18 = .ok (.iconst 0, 1) := by decide +kernel
theorem dX9_stand_19 : decode cX9_stand 19 = .ok (.iconst 1, 1) := by decide +kernel
theorem dX9_stand_20 : decode cX9_stand 20 = .ok (.invokestatic 97, 3) := by decide +kernel
theorem dX9_stand_23 : decode cX9_stand 23 = .ok (.ifCond .ne 6, 3) := by decide +kernel
theorem dX9_stand_26 : decode cX9_stand 26 = .ok (.bipush (-103), 2) := by decide +kernel
theorem dX9_stand_28 : decode cX9_stand 28 = .ok (.ireturn, 1) := by decide +kernel
theorem dX9_stand_29 : decode cX9_stand 29 = .ok (.iconst (-1), 1) := by decide +kernel
theorem dX9_stand_30 : decode cX9_stand 30 = .ok (.istore 4, 2) := by decide +kernel
theorem dX9_stand_32 : decode cX9_stand 32 = .ok (.bipush (-100), 2) := by decide +kernel
theorem dX9_stand_34 : decode cX9_stand 34 = .ok (.istore 5, 2) := by decide +kernel
theorem dX9_stand_36 : decode cX9_stand 36 = .ok (.iconst 0, 1) := by decide +kernel
theorem dX9_stand_37 : decode cX9_stand 37 = .ok (.istore 6, 2) := by decide +kernel
theorem dX9_stand_39 : decode cX9_stand 39 = .ok (.iload 6, 2) := by decide +kernel
theorem dX9_stand_41 : decode cX9_stand 41 = .ok (.bipush 16, 2) := by decide +kernel
theorem dX9_stand_43 : decode cX9_stand 43 = .ok (.if_icmp .ge 47, 3) := by decide +kernel
theorem dX9_stand_46 : decode cX9_stand 46 = .ok (.aload_n 0, 1) := by decide +kernel
theorem dX9_stand_47 : decode cX9_stand 47 = .ok (.iload_n 1, 1) := by decide +kernel
theorem dX9_stand_48 : decode cX9_stand 48 = .ok (.iload 6, 2) := by decide +kernel
theorem dX9_stand_50 : decode cX9_stand 50 = .ok (.iload_n 2, 1) := by decide +kernel
theorem dX9_stand_51 : decode cX9_stand 51 = .ok (.invokevirtual 142, 3) := by decide +kernel
theorem dX9_stand_54 : decode cX9_stand 54 = .ok (.istore 7, 2) := by decide +kernel
theorem dX9_stand_56 : decode cX9_stand 56 = .ok (.iload 7, 2) := by decide +kernel
theorem dX9_stand_58 : decode cX9_stand 58 = .ok (.bipush (-100), 2) := by decide +kernel
theorem dX9_stand_60 : decode cX9_stand 60 = .ok (.if_icmp .eq 24, 3) := by decide +kernel
theorem dX9_stand_63 : decode cX9_stand 63 = .ok (.iload 4, 2) := by decide +kernel
theorem dX9_stand_65 : decode cX9_stand 65 = .ok (.iconst (-1), 1) := by decide +kernel
theorem dX9_stand_66 : decode cX9_stand 66 = .ok (.if_icmp .eq 10, 3) := by decide +kernel
theorem dX9_stand_69 : decode cX9_stand 69 = .ok (.iload 7, 2) := by decide +kernel
theorem dX9_stand_71 : decode cX9_stand 71 = .ok (.iload 5, 2) := by decide +kernel
theorem dX9_stand_73 : decode cX9_stand 73 = .ok (.if_icmp .le 11, 3) := by decide +kernel
theorem dX9_stand_76 : decode cX9_stand 76 = .ok (.iload 6, 2) := by decide +kernel
theorem dX9_stand_78 : decode cX9_stand 78 = .ok (.istore 4, 2) := by decide +kernel
theorem dX9_stand_80 : decode cX9_stand 80 = .ok (.iload 7, 2) := by decide +kernel
theorem dX9_stand_82 : decode cX9_stand 82 = .ok (.istore 5, 2) := by decide +kernel
theorem dX9_stand_84 : decode cX9_stand 84 = .ok (.iinc 6 1, 3) := by decide +kernel
theorem dX9_stand_87 : decode cX9_stand 87 = .ok (.goto (-48), 3) := by decide +kernel
theorem dX9_stand_90 : decode cX9_stand 90 = .ok (.iload_n 3, 1) := by decide +kernel
theorem dX9_stand_91 : decode cX9_stand 91 = .ok (.ifCond .ne 8, 3) := by decide +kernel
theorem dX9_stand_94 : decode cX9_stand 94 = .ok (.iload 4, 2) := by decide +kernel
theorem dX9_stand_96 : decode cX9_stand 96 = .ok (.goto 5, 3) := by decide +kernel
theorem dX9_stand_99 : decode cX9_stand 99 = .ok (.iload 5, 2) := by decide +kernel
theorem dX9_stand_101 : decode cX9_stand 101 = .ok (.ireturn, 1) := by decide +kernel
set_option maxRecDepth 20000 in
theorem ggX9_meetsOf_X9_firstMet : GoodIn wsX9_meetsOf wsX9_firstMet := goodIn_r _ [7, 1, 8, 2, 26, 27, 28, 29, 30, 31, 32, 33, 34, 35, 36, 37, 38, 39, 40, 41, 42, 43, 44, 45, 46, 47, 48, 49, 50, 51, 52, 53, 54, 55, 56, 57, 58, 59, 60, 61, 62, 63] (by decide +kernel) (by decide +kernel)
set_option maxRecDepth 20000 in
theorem gX9_meetsOf_X9_firstMet : GoodIn wsX9_meetsOf (wsV RX9 122 RX9 yX9_firstMet wsX9_firstMet) := goodIn_app (goodIn_of _ (by decide +kernel)) ggX9_meetsOf_X9_firstMet
set_option maxRecDepth 20000 in
theorem ggX9_meetsOf_X9_over0 : GoodIn wsX9_meetsOf wsX9_over0 := goodIn_r _ [12, 2, 13, 14, 15, 6, 16, 17, 18, 19, 20, 21, 22, 23, 24, 25, 26, 27, 28, 29, 30, 31, 32, 33, 34, 35, 36, 37, 38, 39, 40, 41, 42, 43, 44, 45, 46, 47, 48, 49, 50, 51, 52, 53, 54, 55, 56, 57, 58, 59, 60, 61, 62, 63] (by decide +kernel) (by decide +kernel)
set_option maxRecDepth 20000 in
theorem gX9_meetsOf_X9_over0 : GoodIn wsX9_meetsOf (wsV RX9 135 RX9 yX9_over0 wsX9_over0) := goodIn_app (goodIn_of _ (by decide +kernel)) ggX9_meetsOf_X9_over0
theorem dX9_meetsOf_0 : decode cX9_meetsOf 0 = .ok (.aload_n 0, 1) := by decide +kernel
theorem dX9_meetsOf_1 : decode cX9_meetsOf 1 = .ok (.iload_n 3, 1) := by decide +kernel
theorem dX9_meetsOf_2 : decode cX9_meetsOf 2 = .ok (.invokevirtual 122, 3) := by decide +kernel
theorem dX9_meetsOf_5 : decode cX9_meetsOf 5 = .ok (.istore 4, 2) := by decide +kernel
theorem dX9_meetsOf_7 : decode cX9_meetsOf 7 = .ok (.iload 4, 2) := by decide +kernel
theorem dX9_meetsOf_9 : decode cX9_meetsOf 9 = .ok (.iconst (-1), 1) := by decide +kernel
theorem dX9_meetsOf_10 : decode cX9_meetsOf 10 = .ok (.if_icmp .ne 6, 3) := by decide +kernel
theorem dX9_meetsOf_13 : decode cX9_meetsOf 13 = .ok (.bipush (-100), 2) := by decide +kernel
theorem dX9_meetsOf_15 : decode cX9_meetsOf 15 = .ok (.ireturn, 1) := by decide +kernel
theorem dX9_meetsOf_16 : decode cX9_meetsOf 16 = .ok (.iload 4, 2) := by decide +kernel
theorem dX9_meetsOf_18 : decode cX9_meetsOf 18 = .ok (.istore 5, 2) := by decide +kernel
theorem dX9_meetsOf_20 : decode cX9_meetsOf 20 = .ok (.iload 5, 2) := by decide +kernel
theorem dX9_meetsOf_22 : decode cX9_meetsOf 22 = .ok (.aload_n 0, 1) := by decide +kernel
theorem dX9_meetsOf_23 : decode cX9_meetsOf 23 = .ok (.getfield 112, 3) := by decide +kernel
theorem dX9_meetsOf_26 : decode cX9_meetsOf 26 = .ok (.if_icmp .gt 45, 3) := by decide +kernel
theorem dX9_meetsOf_29 : decode cX9_meetsOf 29 = .ok (.aload_n 0, 1) := by decide +kernel
theorem dX9_meetsOf_30 : decode cX9_meetsOf 30 = .ok (.getfield 28, 3) := by decide +kernel
theorem dX9_meetsOf_33 : decode cX9_meetsOf 33 = .ok (.iload 5, 2) := by decide +kernel
theorem dX9_meetsOf_35 : decode cX9_meetsOf 35 = .ok (.iaload, 1) := by decide +kernel
theorem dX9_meetsOf_36 : decode cX9_meetsOf 36 = .ok (.iconst (-1), 1) := by decide +kernel
theorem dX9_meetsOf_37 : decode cX9_meetsOf 37 = .ok (.if_icmp .eq 28, 3) := by decide +kernel
theorem dX9_meetsOf_40 : decode cX9_meetsOf 40 = .ok (.aload_n 0, 1) := by decide +kernel
theorem dX9_meetsOf_41 : decode cX9_meetsOf 41 = .ok (.iload_n 1, 1) := by decide +kernel
theorem dX9_meetsOf_42 : decode cX9_meetsOf 42 = .ok (.iload_n 2, 1) := by decide +kernel
theorem dX9_meetsOf_43 : decode cX9_meetsOf 43 = .ok (.iload 5, 2) := by decide +kernel
theorem dX9_meetsOf_45 : decode cX9_meetsOf 45 = .ok (.invokevirtual 135, 3) := by decide +kernel
theorem dX9_meetsOf_48 : decode cX9_meetsOf 48 = .ok (.ifCond .lt 17, 3) := by decide +kernel
theorem dX9_meetsOf_51 : decode cX9_meetsOf 51 = .ok (.bipush 16, 2) := by decide +kernel
theorem dX9_meetsOf_53 : decode cX9_meetsOf 53 = .ok (.iload 5, 2) := by decide +kernel
theorem dX9_meetsOf_55 : decode cX9_meetsOf 55 = .ok (.imul, 1) := by decide +kernel
theorem dX9_meetsOf_56 : decode cX9_meetsOf 56 = .ok (.aload_n 0, 1) := by decide +kernel
theorem dX9_meetsOf_57 : decode cX9_meetsOf 57 = .ok (.getfield 28, 3) := by decide +kernel
theorem dX9_meetsOf_60 : decode cX9_meetsOf 60 = .ok (.iload 5, 2) := by decide +kernel
theorem dX9_meetsOf_62 : decode cX9_meetsOf 62 = .ok (.iaload, 1) := by decide +kernel
theorem dX9_meetsOf_63 : decode cX9_meetsOf 63 = .ok (.iadd, 1) := by decide +kernel
theorem dX9_meetsOf_64 : decode cX9_meetsOf 64 = .ok (.ireturn, 1) := by decide +kernel
theorem dX9_meetsOf_65 : decode cX9_meetsOf 65 = .ok (.iinc 5 1, 3) := by decide +kernel
theorem dX9_meetsOf_68 : decode cX9_meetsOf 68 = .ok (.goto (-48), 3) := by decide +kernel
theorem dX9_meetsOf_71 : decode cX9_meetsOf 71 = .ok (.iconst (-1), 1) := by decide +kernel
theorem dX9_meetsOf_72 : decode cX9_meetsOf 72 = .ok (.ireturn, 1) := by decide +kernel
set_option maxRecDepth 20000 in
theorem ggX9_findMeetings_X9_fly : GoodIn wsX9_findMeetings wsX9_fly := goodIn_r _ [7, 8, 9, 10, 11, 12, 13, 14, 6, 15, 39, 40, 41, 42, 43, 44, 45, 46, 47, 48, 49, 50, 51, 52, 53, 54, 55, 56, 57, 58, 59, 60, 61, 62, 63, 64, 65, 66, 67, 68, 69, 70, 71, 72, 73, 74, 75, 76] (by decide +kernel) (by decide +kernel)
set_option maxRecDepth 20000 in
theorem gX9_findMeetings_X9_fly : GoodIn wsX9_findMeetings (wsV RX9 118 RX9 yX9_fly wsX9_fly) := goodIn_app (goodIn_of _ (by decide +kernel)) ggX9_findMeetings_X9_fly
set_option maxRecDepth 20000 in
theorem ggX9_findMeetings_X9_meetsOf : GoodIn wsX9_findMeetings wsX9_meetsOf := goodIn_r _ [19, 10, 12, 20, 21, 22, 6, 23, 24, 25, 26, 27, 28, 29, 30, 31, 32, 13, 14, 15, 33, 34, 35, 36, 37, 38, 39, 40, 41, 42, 43, 44, 45, 46, 47, 48, 49, 50, 51, 52, 53, 54, 55, 56, 57, 58, 59, 60, 61, 62, 63, 64, 65, 66, 67, 68, 69, 70, 71, 72, 73, 74, 75, 76] (by decide +kernel) (by decide +kernel)
set_option maxRecDepth 20000 in
theorem gX9_findMeetings_X9_meetsOf : GoodIn wsX9_findMeetings (wsV RX9 145 RX9 yX9_meetsOf wsX9_meetsOf) := goodIn_app (goodIn_of _ (by decide +kernel)) ggX9_findMeetings_X9_meetsOf
theorem dX9_findMeetings_0 : decode cX9_findMeetings 0 = .ok (.iconst 0, 1) := by decide +kernel
theorem dX9_findMeetings_1 : decode cX9_findMeetings 1 = .ok (.istore_n 3, 1) := by decide +kernel
theorem dX9_findMeetings_2 : decode cX9_findMeetings 2 = .ok (.iload_n 3, 1) := by decide +kernel
theorem dX9_findMeetings_3 : decode cX9_findMeetings 3 = .ok (.bipush 16, 2) := by decide +kernel
theorem dX9_findMeetings_5 : decode cX9_findMeetings 5 = .ok (.if_icmp .ge 118, 3) := by decide +kernel
theorem dX9_findMeetings_8 : decode cX9_findMeetings 8 = .ok (.iconst 0, 1) := by decide +kernel
theorem dX9_findMeetings_9 : decode cX9_findMeetings 9 = .ok (.istore 4, 2) := by decide +kernel
theorem dX9_findMeetings_11 : decode cX9_findMeetings 11 = .ok (.iload 4, 2) := by decide +kernel
theorem dX9_findMeetings_13 : decode cX9_findMeetings 13 = .ok (.bipush 64, 2) := by decide +kernel
theorem dX9_findMeetings_15 : decode cX9_findMeetings 15 = .ok (.if_icmp .ge 102, 3) := by decide +kernel
theorem dX9_findMeetings_18 : decode cX9_findMeetings 18 = .ok (.aload_n 0, 1) := by decide +kernel
theorem dX9_findMeetings_19 : decode cX9_findMeetings 19 = .ok (.iload 4, 2) := by decide +kernel
theorem dX9_findMeetings_21 : decode cX9_findMeetings 21 = .ok (.bipush 16, 2) := by decide +kernel
theorem dX9_findMeetings_23 : decode cX9_findMeetings 23 = .ok (.idiv, 1) := by decide +kernel
theorem dX9_findMeetings_24 : decode cX9_findMeetings 24 = .ok (.iload_n 3, 1) := by decide +kernel
theorem dX9_findMeetings_25 : decode cX9_findMeetings 25 = .ok (.iload 4, 2) := by decide +kernel
theorem dX9_findMeetings_27 : decode cX9_findMeetings 27 = .ok (.bipush 16, 2) := by decide +kernel
theorem dX9_findMeetings_29 : decode cX9_findMeetings 29 = .ok (.irem, 1) := by decide +kernel
theorem dX9_findMeetings_30 : decode cX9_findMeetings 30 = .ok (.invokevirtual 118, 3) := by decide +kernel
theorem dX9_findMeetings_33 : decode cX9_findMeetings 33 = .ok (.iconst 0, 1) := by decide +kernel
theorem dX9_findMeetings_34 : decode cX9_findMeetings 34 = .ok (.istore 5, 2) := by decide +kernel
theorem dX9_findMeetings_36 : decode cX9_findMeetings 36 = .ok (.iload 5, 2) := by decide +kernel
theorem dX9_findMeetings_38 : decode cX9_findMeetings 38 = .ok (.bipush 16, 2) := by decide +kernel
theorem dX9_findMeetings_40 : decode cX9_findMeetings 40 = .ok (.if_icmp .ge 71, 3) := by decide +kernel
theorem dX9_findMeetings_43 : decode cX9_findMeetings 43 = .ok (.aload_n 0, 1) := by decide +kernel
theorem dX9_findMeetings_44 : decode cX9_findMeetings 44 = .ok (.getfield 31, 3) := by decide +kernel
theorem dX9_findMeetings_47 : decode cX9_findMeetings 47 = .ok (.sipush 1024, 3) := by decide +kernel
theorem dX9_findMeetings_50 : decode cX9_findMeetings 50 = .ok (.iload 5, 2) := by decide +kernel
theorem dX9_findMeetings_52 : decode cX9_findMeetings 52 = .ok (.imul, 1) := by decide +kernel
theorem dX9_findMeetings_53 : decode cX9_findMeetings 53 = .ok (.bipush 64, 2) := by decide +kernel
theorem dX9_findMeetings_55 : decode cX9_findMeetings 55 = .ok (.iload_n 3, 1) := by decide +kernel
theorem dX9_findMeetings_56 : decode cX9_findMeetings 56 = .ok (.imul, 1) := by decide +kernel
theorem dX9_findMeetings_57 : decode cX9_findMeetings 57 = .ok (.iadd, 1) := by decide +kernel
theorem dX9_findMeetings_58 : decode cX9_findMeetings 58 = .ok (.iload 4, 2) := by decide +kernel
theorem dX9_findMeetings_60 : decode cX9_findMeetings 60 = .ok (.iadd, 1) := by decide +kernel
theorem dX9_findMeetings_61 : decode cX9_findMeetings 61 = .ok (.aload_n 0, 1) := by decide +kernel
theorem dX9_findMeetings_62 : decode cX9_findMeetings 62 = .ok (.iload_n 1, 1) := by decide +kernel
theorem dX9_findMeetings_63 : decode cX9_findMeetings 63 = .ok (.iload 5, 2) := by decide +kernel
theorem dX9_findMeetings_65 : decode cX9_findMeetings 65 = .ok (.iload 4, 2) := by decide +kernel
theorem dX9_findMeetings_67 : decode cX9_findMeetings 67 = .ok (.bipush 16, 2) := by decide +kernel
theorem dX9_findMeetings_69 : decode cX9_findMeetings 69 = .ok (.idiv, 1) := by decide +kernel
theorem dX9_findMeetings_70 : decode cX9_findMeetings 70 = .ok (.invokevirtual 145, 3) := by decide +kernel
theorem dX9_findMeetings_73 : decode cX9_findMeetings 73 = .ok (.iastore, 1) := by decide +kernel
theorem dX9_findMeetings_74 : decode cX9_findMeetings 74 = .ok (.aload_n 0, 1) := by decide +kernel
theorem dX9_findMeetings_75 : decode cX9_findMeetings 75 = .ok (.getfield 34, 3) := by decide +kernel
theorem dX9_findMeetings_78 : decode cX9_findMeetings 78 = .ok (.sipush 1024, 3) := by decide +kernel
theorem dX9_findMeetings_81 : decode cX9_findMeetings 81 = .ok (.iload 5, 2) := by decide +kernel
theorem dX9_findMeetings_83 : decode cX9_findMeetings 83 = .ok (.imul, 1) := by decide +kernel
theorem dX9_findMeetings_84 : decode cX9_findMeetings 84 = .ok (.bipush 64, 2) := by decide +kernel
theorem dX9_findMeetings_86 : decode cX9_findMeetings 86 = .ok (.iload_n 3, 1) := by decide +kernel
theorem dX9_findMeetings_87 : decode cX9_findMeetings 87 = .ok (.imul, 1) := by decide +kernel
theorem dX9_findMeetings_88 : decode cX9_findMeetings 88 = .ok (.iadd, 1) := by decide +kernel
theorem dX9_findMeetings_89 : decode cX9_findMeetings 89 = .ok (.iload 4, 2) := by decide +kernel
theorem dX9_findMeetings_91 : decode cX9_findMeetings 91 = .ok (.iadd, 1) := by decide +kernel
theorem dX9_findMeetings_92 : decode cX9_findMeetings 92 = .ok (.aload_n 0, 1) := by decide +kernel
theorem dX9_findMeetings_93 : decode cX9_findMeetings 93 = .ok (.iload_n 2, 1) := by decide +kernel
theorem dX9_findMeetings_94 : decode cX9_findMeetings 94 = .ok (.iload 5, 2) := by decide +kernel
theorem dX9_findMeetings_96 : decode cX9_findMeetings 96 = .ok (.iload 4, 2) := by decide +kernel
theorem dX9_findMeetings_98 : decode cX9_findMeetings 98 = .ok (.bipush 16, 2) := by decide +kernel
theorem dX9_findMeetings_100 : decode cX9_findMeetings 100 = .ok (.idiv, 1) := by decide +kernel
theorem dX9_findMeetings_101 : decode cX9_findMeetings 101 = .ok (.invokevirtual 145, 3) := by decide +kernel
theorem dX9_findMeetings_104 : decode cX9_findMeetings 104 = .ok (.iastore, 1) := by decide +kernel
theorem dX9_findMeetings_105 : decode cX9_findMeetings 105 = .ok (.iinc 5 1, 3) := by decide +kernel
theorem dX9_findMeetings_108 : decode cX9_findMeetings 108 = .ok (.goto (-72), 3) := by decide +kernel
theorem dX9_findMeetings_111 : decode cX9_findMeetings 111 = .ok (.iinc 4 1, 3) := by decide +kernel
theorem dX9_findMeetings_114 : decode cX9_findMeetings 114 = .ok (.goto (-103), 3) := by decide +kernel
theorem dX9_findMeetings_117 : decode cX9_findMeetings 117 = .ok (.iinc 3 1, 3) := by decide +kernel
theorem dX9_findMeetings_120 : decode cX9_findMeetings 120 = .ok (.goto (-118), 3) := by decide +kernel
theorem dX9_findMeetings_123 : decode cX9_findMeetings 123 = .ok (.return_, 1) := by decide +kernel
set_option maxRecDepth 20000 in
theorem ggX9_winsAll_X9_far : GoodIn wsX9_winsAll wsX9_far := goodIn_r _ [5, 6, 7, 4, 8] (by decide +kernel) (by decide +kernel)
set_option maxRecDepth 20000 in
theorem gX9_winsAll_X9_far : GoodIn wsX9_winsAll (va_wsS RX9 128 yX9_far wsX9_far) := goodIn_app (goodIn_of _ (by decide +kernel)) ggX9_winsAll_X9_far
theorem dX9_winsAll_0 : decode cX9_winsAll 0 = .ok (.iconst 1, 1) := by decide +kernel
theorem dX9_winsAll_1 : decode cX9_winsAll 1 = .ok (.istore 4, 2) := by decide +kernel
theorem dX9_winsAll_3 : decode cX9_winsAll 3 = .ok (.iconst 0, 1) := by decide +kernel
theorem dX9_winsAll_4 : decode cX9_winsAll 4 = .ok (.istore 5, 2) := by decide +kernel
theorem dX9_winsAll_6 : decode cX9_winsAll 6 = .ok (.iload 5, 2) := by decide +kernel
theorem dX9_winsAll_8 : decode cX9_winsAll 8 = .ok (.bipush 16, 2) := by decide +kernel
theorem dX9_winsAll_10 : decode cX9_winsAll 10 = .ok (.if_icmp .ge 46, 3) := by decide +kernel
theorem dX9_winsAll_13 : decode cX9_winsAll 13 = .ok (.iload 4, 2) := by decide +kernel
theorem dX9_winsAll_15 : decode cX9_winsAll 15 = .ok (.ifCond .eq 32, 3) := by decide +kernel
theorem dX9_winsAll_18 : decode cX9_winsAll 18 = .ok (.iload_n 2, 1) := by decide +kernel
theorem dX9_winsAll_19 : decode cX9_winsAll 19 = .ok (.iload 5, 2) := by decide +kernel
theorem dX9_winsAll_21 : decode cX9_winsAll 21 = .ok (.invokestatic 128, 3) := by decide +kernel
theorem dX9_winsAll_24 : decode cX9_winsAll 24 = .ok (.iload_n 3, 1) := by decide +kernel
theorem dX9_winsAll_25 : decode cX9_winsAll 25 = .ok (.if_icmp .gt 18, 3) := by decide +kernel
theorem dX9_winsAll_28 : decode cX9_winsAll 28 = .ok (.aload_n 0, 1) := by decide +kernel
theorem dX9_winsAll_29 : decode cX9_winsAll 29 = .ok (.getfield 37, 3) := by decide +kernel
theorem dX9_winsAll_32 : decode cX9_winsAll 32 = .ok (.bipush 16, 2) := by decide +kernel
theorem dX9_winsAll_34 : decode cX9_winsAll 34 = .ok (.iload_n 1, 1) := by decide +kernel
theorem dX9_winsAll_35 : decode cX9_winsAll 35 = .ok (.imul, 1) := by decide +kernel
theorem dX9_winsAll_36 : decode cX9_winsAll 36 = .ok (.iload 5, 2) := by decide +kernel
theorem dX9_winsAll_38 : decode cX9_winsAll 38 = .ok (.iadd, 1) := by decide +kernel
theorem dX9_winsAll_39 : decode cX9_winsAll 39 = .ok (.baload, 1) := by decide +kernel
theorem dX9_winsAll_40 : decode cX9_winsAll 40 = .ok (.ifCond .eq 7, 3) := by decide +kernel
theorem dX9_winsAll_43 : decode cX9_winsAll 43 = .ok (.iconst 1, 1) := by decide +kernel
theorem dX9_winsAll_44 : decode cX9_winsAll 44 = .ok (.goto 4, 3) := by decide +kernel
theorem dX9_winsAll_47 : decode cX9_winsAll 47 = .ok (.iconst 0, 1) := by decide +kernel
theorem dX9_winsAll_48 : decode cX9_winsAll 48 = .ok (.istore 4, 2) := by decide +kernel
theorem dX9_winsAll_50 : decode cX9_winsAll 50 = .ok (.iinc 5 1, 3) := by decide +kernel
theorem dX9_winsAll_53 : decode cX9_winsAll 53 = .ok (.goto (-47), 3) := by decide +kernel
theorem dX9_winsAll_56 : decode cX9_winsAll 56 = .ok (.iload 4, 2) := by decide +kernel
theorem dX9_winsAll_58 : decode cX9_winsAll 58 = .ok (.ireturn, 1) := by decide +kernel
set_option maxRecDepth 20000 in
theorem ggX9_holdsAll_X9_stride : GoodIn wsX9_holdsAll wsX9_stride := goodIn_r _ [6, 7, 8, 20, 21, 22, 23, 24, 25, 26, 27, 28, 29, 30, 31, 32, 33, 34, 35, 36, 37, 38, 39, 40, 41, 42, 43, 44, 45, 46, 47, 48, 49, 50, 51, 52, 53, 54, 55, 56, 57] (by decide +kernel) (by decide +kernel)
set_option maxRecDepth 20000 in
theorem gX9_holdsAll_X9_stride : GoodIn wsX9_holdsAll (wsV RX9 132 RX9 yX9_stride wsX9_stride) := goodIn_app (goodIn_of _ (by decide +kernel)) ggX9_holdsAll_X9_stride
set_option maxRecDepth 20000 in
theorem ggX9_holdsAll_X9_winsAll : GoodIn wsX9_holdsAll wsX9_winsAll := goodIn_r _ [12, 13, 14, 15, 5, 16, 17, 18, 19, 20, 21, 22, 23, 24, 25, 26, 27, 28, 29, 30, 31, 32, 33, 34, 35, 36, 37, 38, 39, 40, 41, 42, 43, 44, 45, 46, 47, 48, 49, 50, 51, 52, 53, 54, 55, 56, 57] (by decide +kernel) (by decide +kernel)
set_option maxRecDepth 20000 in
theorem gX9_holdsAll_X9_winsAll : GoodIn wsX9_holdsAll (wsV RX9 148 RX9 yX9_winsAll wsX9_winsAll) := goodIn_app (goodIn_of _ (by decide +kernel)) ggX9_holdsAll_X9_winsAll
theorem dX9_holdsAll_0 : decode cX9_holdsAll 0 = .ok (.iconst 0, 1) := by decide +kernel
theorem dX9_holdsAll_1 : decode cX9_holdsAll 1 = .ok (.istore 4, 2) := by decide +kernel
theorem dX9_holdsAll_3 : decode cX9_holdsAll 3 = .ok (.iload 4, 2) := by decide +kernel
theorem dX9_holdsAll_5 : decode cX9_holdsAll 5 = .ok (.bipush 64, 2) := by decide +kernel
theorem dX9_holdsAll_7 : decode cX9_holdsAll 7 = .ok (.if_icmp .ge 71, 3) := by decide +kernel
theorem dX9_holdsAll_10 : decode cX9_holdsAll 10 = .ok (.aload_n 0, 1) := by decide +kernel
theorem dX9_holdsAll_11 : decode cX9_holdsAll 11 = .ok (.getfield 31, 3) := by decide +kernel
theorem dX9_holdsAll_14 : decode cX9_holdsAll 14 = .ok (.sipush 1024, 3) := by decide +kernel
theorem dX9_holdsAll_17 : decode cX9_holdsAll 17 = .ok (.iload_n 1, 1) := by decide +kernel
theorem dX9_holdsAll_18 : decode cX9_holdsAll 18 = .ok (.imul, 1) := by decide +kernel
theorem dX9_holdsAll_19 : decode cX9_holdsAll 19 = .ok (.bipush 64, 2) := by decide +kernel
theorem dX9_holdsAll_21 : decode cX9_holdsAll 21 = .ok (.iload_n 2, 1) := by decide +kernel
theorem dX9_holdsAll_22 : decode cX9_holdsAll 22 = .ok (.imul, 1) := by decide +kernel
theorem dX9_holdsAll_23 : decode cX9_holdsAll 23 = .ok (.iadd, 1) := by decide +kernel
theorem dX9_holdsAll_24 : decode cX9_holdsAll 24 = .ok (.iload 4, 2) := by decide +kernel
theorem dX9_holdsAll_26 : decode cX9_holdsAll 26 = .ok (.iadd, 1) := by decide +kernel
theorem dX9_holdsAll_27 : decode cX9_holdsAll 27 = .ok (.iaload, 1) := by decide +kernel
theorem dX9_holdsAll_28 : decode cX9_holdsAll 28 = .ok (.istore 5, 2) := by decide +kernel
theorem dX9_holdsAll_30 : decode cX9_holdsAll 30 = .ok (.iload 5, 2) := by decide +kernel
theorem dX9_holdsAll_32 : decode cX9_holdsAll 32 = .ok (.iconst (-1), 1) := by decide +kernel
theorem dX9_holdsAll_33 : decode cX9_holdsAll 33 = .ok (.if_icmp .eq 37, 3) := by decide +kernel
theorem dX9_holdsAll_36 : decode cX9_holdsAll 36 = .ok (.iload 5, 2) := by decide +kernel
theorem dX9_holdsAll_38 : decode cX9_holdsAll 38 = .ok (.bipush (-100), 2) := by decide +kernel
theorem dX9_holdsAll_40 : decode cX9_holdsAll 40 = .ok (.if_icmp .eq 32, 3) := by decide +kernel
theorem dX9_holdsAll_43 : decode cX9_holdsAll 43 = .ok (.aload_n 0, 1) := by decide +kernel
theorem dX9_holdsAll_44 : decode cX9_holdsAll 44 = .ok (.iload 5, 2) := by decide +kernel
theorem dX9_holdsAll_46 : decode cX9_holdsAll 46 = .ok (.bipush 16, 2) := by decide +kernel
theorem dX9_holdsAll_48 : decode cX9_holdsAll 48 = .ok (.irem, 1) := by decide +kernel
theorem dX9_holdsAll_49 : decode cX9_holdsAll 49 = .ok (.iload_n 2, 1) := by decide +kernel
theorem dX9_holdsAll_50 : decode cX9_holdsAll 50 = .ok (.iload 5, 2) := by decide +kernel
theorem dX9_holdsAll_52 : decode cX9_holdsAll 52 = .ok (.bipush 16, 2) := by decide +kernel
theorem dX9_holdsAll_54 : decode cX9_holdsAll 54 = .ok (.idiv, 1) := by decide +kernel
theorem dX9_holdsAll_55 : decode cX9_holdsAll 55 = .ok (.aload_n 0, 1) := by decide +kernel
theorem dX9_holdsAll_56 : decode cX9_holdsAll 56 = .ok (.iload_n 3, 1) := by decide +kernel
theorem dX9_holdsAll_57 : decode cX9_holdsAll 57 = .ok (.invokevirtual 132, 3) := by decide +kernel
theorem dX9_holdsAll_60 : decode cX9_holdsAll 60 = .ok (.imul, 1) := by decide +kernel
theorem dX9_holdsAll_61 : decode cX9_holdsAll 61 = .ok (.bipush 10, 2) := by decide +kernel
theorem dX9_holdsAll_63 : decode cX9_holdsAll 63 = .ok (.idiv, 1) := by decide +kernel
theorem dX9_holdsAll_64 : decode cX9_holdsAll 64 = .ok (.invokevirtual 148, 3) := by decide +kernel
theorem dX9_holdsAll_67 : decode cX9_holdsAll 67 = .ok (.ifCond .ne 5, 3) := by decide +kernel
theorem dX9_holdsAll_70 : decode cX9_holdsAll 70 = .ok (.iconst 0, 1) := by decide +kernel
theorem dX9_holdsAll_71 : decode cX9_holdsAll 71 = .ok (.ireturn, 1) := by decide +kernel
theorem dX9_holdsAll_72 : decode cX9_holdsAll 72 = .ok (.iinc 4 1, 3) := by decide +kernel
theorem dX9_holdsAll_75 : decode cX9_holdsAll 75 = .ok (.goto (-72), 3) := by decide +kernel
theorem dX9_holdsAll_78 : decode cX9_holdsAll 78 = .ok (.iconst 1, 1) := by decide +kernel
theorem dX9_holdsAll_79 : decode cX9_holdsAll 79 = .ok (.ireturn, 1) := by decide +kernel
theorem dX9_winsNow_0 : decode cX9_winsNow 0 = .ok (.iconst 0, 1) := by decide +kernel
theorem dX9_winsNow_1 : decode cX9_winsNow 1 = .ok (.istore_n 3, 1) := by decide +kernel
theorem dX9_winsNow_2 : decode cX9_winsNow 2 = .ok (.iconst 0, 1) := by decide +kernel
theorem dX9_winsNow_3 : decode cX9_winsNow 3 = .ok (.istore 4, 2) := by decide +kernel
theorem dX9_winsNow_5 : decode cX9_winsNow 5 = .ok (.iload 4, 2) := by decide +kernel
theorem dX9_winsNow_7 : decode cX9_winsNow 7 = .ok (.bipush 64, 2) := by decide +kernel
theorem dX9_winsNow_9 : decode cX9_winsNow 9 = .ok (.if_icmp .ge 41, 3) := by decide +kernel
theorem dX9_winsNow_12 : decode cX9_winsNow 12 = .ok (.iload_n 3, 1) := by decide +kernel
theorem dX9_winsNow_13 : decode cX9_winsNow 13 = .ok (.ifCond .ne 25, 3) := by decide +kernel
theorem dX9_winsNow_16 : decode cX9_winsNow 16 = .ok (.aload_n 0, 1) := by decide +kernel
theorem dX9_winsNow_17 : decode cX9_winsNow 17 = .ok (.getfield 34, 3) := by decide +kernel
theorem dX9_winsNow_20 : decode cX9_winsNow 20 = .ok (.sipush 1024, 3) := by decide +kernel
theorem dX9_winsNow_23 : decode cX9_winsNow 23 = .ok (.iload_n 2, 1) := by decide +kernel
theorem dX9_winsNow_24 : decode cX9_winsNow 24 = .ok (.imul, 1) := by decide +kernel
theorem dX9_winsNow_25 : decode cX9_winsNow 25 = .ok (.bipush 64, 2) := by decide +kernel
theorem dX9_winsNow_27 : decode cX9_winsNow 27 = .ok (.iload_n 1, 1) := by decide +kernel
theorem dX9_winsNow_28 : decode cX9_winsNow 28 = .ok (.imul, 1) := by decide +kernel
theorem dX9_winsNow_29 : decode cX9_winsNow 29 = .ok (.iadd, 1) := by decide +kernel
theorem dX9_winsNow_30 : decode cX9_winsNow 30 = .ok (.iload 4, 2) := by decide +kernel
theorem dX9_winsNow_32 : decode cX9_winsNow 32 = .ok (.iadd, 1) := by decide +kernel
theorem dX9_winsNow_33 : decode cX9_winsNow 33 = .ok (.iaload, 1) := by decide +kernel
theorem dX9_winsNow_34 : decode cX9_winsNow 34 = .ok (.iconst (-1), 1) := by decide +kernel
theorem dX9_winsNow_35 : decode cX9_winsNow 35 = .ok (.if_icmp .ne 7, 3) := by decide +kernel
theorem dX9_winsNow_38 : decode cX9_winsNow 38 = .ok (.iconst 1, 1) := by decide +kernel
theorem dX9_winsNow_39 : decode cX9_winsNow 39 = .ok (.goto 4, 3) := by decide +kernel
theorem dX9_winsNow_42 : decode cX9_winsNow 42 = .ok (.iconst 0, 1) := by decide +kernel
theorem dX9_winsNow_43 : decode cX9_winsNow 43 = .ok (.istore_n 3, 1) := by decide +kernel
theorem dX9_winsNow_44 : decode cX9_winsNow 44 = .ok (.iinc 4 1, 3) := by decide +kernel
theorem dX9_winsNow_47 : decode cX9_winsNow 47 = .ok (.goto (-42), 3) := by decide +kernel
theorem dX9_winsNow_50 : decode cX9_winsNow 50 = .ok (.iload_n 3, 1) := by decide +kernel
theorem dX9_winsNow_51 : decode cX9_winsNow 51 = .ok (.ireturn, 1) := by decide +kernel
set_option maxRecDepth 20000 in
theorem ggX9_winsLater_X9_far : GoodIn wsX9_winsLater wsX9_far := goodIn_r _ [6, 7, 8, 5, 9] (by decide +kernel) (by decide +kernel)
set_option maxRecDepth 20000 in
theorem gX9_winsLater_X9_far : GoodIn wsX9_winsLater (va_wsS RX9 128 yX9_far wsX9_far) := goodIn_app (goodIn_of _ (by decide +kernel)) ggX9_winsLater_X9_far
set_option maxRecDepth 20000 in
theorem ggX9_winsLater_X9_stride : GoodIn wsX9_winsLater wsX9_stride := goodIn_r _ [13, 14, 15, 16, 17, 18, 19, 20, 21, 22, 23, 24, 25, 26, 27, 28, 29, 30, 31, 32, 33, 34, 35, 36, 37, 38, 39, 40, 41, 42, 43, 44, 45, 46, 47, 48, 49, 50, 51, 52, 53] (by decide +kernel) (by decide +kernel)
set_option maxRecDepth 20000 in
theorem gX9_winsLater_X9_stride : GoodIn wsX9_winsLater (wsV RX9 132 RX9 yX9_stride wsX9_stride) := goodIn_app (goodIn_of _ (by decide +kernel)) ggX9_winsLater_X9_stride
theorem dX9_winsLater_0 : decode cX9_winsLater 0 = .ok (.iconst 0, 1) := by decide +kernel
theorem dX9_winsLater_1 : decode cX9_winsLater 1 = .ok (.istore 4, 2) := by decide +kernel
theorem dX9_winsLater_3 : decode cX9_winsLater 3 = .ok (.iload 4, 2) := by decide +kernel
theorem dX9_winsLater_5 : decode cX9_winsLater 5 = .ok (.bipush 64, 2) := by decide +kernel
theorem dX9_winsLater_7 : decode cX9_winsLater 7 = .ok (.if_icmp .ge 94, 3) := by decide +kernel
theorem dX9_winsLater_10 : decode cX9_winsLater 10 = .ok (.aload_n 0, 1) := by decide +kernel
theorem dX9_winsLater_11 : decode cX9_winsLater 11 = .ok (.getfield 34, 3) := by decide +kernel
theorem dX9_winsLater_14 : decode cX9_winsLater 14 = .ok (.sipush 1024, 3) := by decide +kernel
theorem dX9_winsLater_17 : decode cX9_winsLater 17 = .ok (.iload_n 2, 1) := by decide +kernel
theorem dX9_winsLater_18 : decode cX9_winsLater 18 = .ok (.imul, 1) := by decide +kernel
theorem dX9_winsLater_19 : decode cX9_winsLater 19 = .ok (.bipush 64, 2) := by decide +kernel
theorem dX9_winsLater_21 : decode cX9_winsLater 21 = .ok (.iload_n 1, 1) := by decide +kernel
theorem dX9_winsLater_22 : decode cX9_winsLater 22 = .ok (.imul, 1) := by decide +kernel
theorem dX9_winsLater_23 : decode cX9_winsLater 23 = .ok (.iadd, 1) := by decide +kernel
theorem dX9_winsLater_24 : decode cX9_winsLater 24 = .ok (.iload 4, 2) := by decide +kernel
theorem dX9_winsLater_26 : decode cX9_winsLater 26 = .ok (.iadd, 1) := by decide +kernel
theorem dX9_winsLater_27 : decode cX9_winsLater 27 = .ok (.iaload, 1) := by decide +kernel
theorem dX9_winsLater_28 : decode cX9_winsLater 28 = .ok (.istore 5, 2) := by decide +kernel
theorem dX9_winsLater_30 : decode cX9_winsLater 30 = .ok (.iconst 0, 1) := by decide +kernel
theorem dX9_winsLater_31 : decode cX9_winsLater 31 = .ok (.istore 6, 2) := by decide +kernel
theorem dX9_winsLater_33 : decode cX9_winsLater 33 = .ok (.iload 6, 2) := by decide +kernel
theorem dX9_winsLater_35 : decode cX9_winsLater 35 = .ok (.bipush 16, 2) := by decide +kernel
theorem dX9_winsLater_37 : decode cX9_winsLater 37 = .ok (.if_icmp .ge 58, 3) := by decide +kernel
theorem dX9_winsLater_40 : decode cX9_winsLater 40 = .ok (.iload 5, 2) := by decide +kernel
theorem dX9_winsLater_42 : decode cX9_winsLater 42 = .ok (.ifCond .lt 53, 3) := by decide +kernel
theorem dX9_winsLater_45 : decode cX9_winsLater 45 = .ok (.iload_n 1, 1) := by decide +kernel
theorem dX9_winsLater_46 : decode cX9_winsLater 46 = .ok (.iload 6, 2) := by decide +kernel
theorem dX9_winsLater_48 : decode cX9_winsLater 48 = .ok (.invokestatic 128, 3) := by decide +kernel
theorem dX9_winsLater_51 : decode cX9_winsLater 51 = .ok (.iload 5, 2) := by decide +kernel
theorem dX9_winsLater_53 : decode cX9_winsLater 53 = .ok (.bipush 16, 2) := by decide +kernel
theorem dX9_winsLater_55 : decode cX9_winsLater 55 = .ok (.idiv, 1) := by decide +kernel
theorem dX9_winsLater_56 : decode cX9_winsLater 56 = .ok (.aload_n 0, 1) := by decide +kernel
theorem dX9_winsLater_57 : decode cX9_winsLater 57 = .ok (.iload_n 3, 1) := by decide +kernel
theorem dX9_winsLater_58 : decode cX9_winsLater 58 = .ok (.invokevirtual 132, 3) := by decide +kernel
theorem dX9_winsLater_61 : decode cX9_winsLater 61 = .ok (.imul, 1) := by decide +kernel
theorem dX9_winsLater_62 : decode cX9_winsLater 62 = .ok (.bipush 10, 2) := by decide +kernel
theorem dX9_winsLater_64 : decode cX9_winsLater 64 = .ok (.idiv, 1) := by decide +kernel
theorem dX9_winsLater_65 : decode cX9_winsLater 65 = .ok (.if_icmp .gt 24, 3) := by decide +kernel
theorem dX9_winsLater_68 : decode cX9_winsLater 68 = .ok (.aload_n 0, 1) := by decide +kernel
theorem dX9_winsLater_69 : decode cX9_winsLater 69 = .ok (.getfield 44, 3) := by decide +kernel
theorem dX9_winsLater_72 : decode cX9_winsLater 72 = .ok (.bipush 16, 2) := by decide +kernel
theorem dX9_winsLater_74 : decode cX9_winsLater 74 = .ok (.iload 6, 2) := by decide +kernel
theorem dX9_winsLater_76 : decode cX9_winsLater 76 = .ok (.imul, 1) := by decide +kernel
theorem dX9_winsLater_77 : decode cX9_winsLater 77 = .ok (.iload 5, 2) := by decide +kernel
theorem dX9_winsLater_79 : decode cX9_winsLater 79 = .ok (.bipush 16, 2) := by decide +kernel
theorem dX9_winsLater_81 : decode cX9_winsLater 81 = .ok (.irem, 1) := by decide +kernel
theorem dX9_winsLater_82 : decode cX9_winsLater 82 = .ok (.iadd, 1) := by decide +kernel
theorem dX9_winsLater_83 : decode cX9_winsLater 83 = .ok (.baload, 1) := by decide +kernel
theorem dX9_winsLater_84 : decode cX9_winsLater 84 = .ok (.ifCond .eq 5, 3) := by decide +kernel
theorem dX9_winsLater_87 : decode cX9_winsLater 87 = .ok (.iconst 1, 1) := by decide +kernel
theorem dX9_winsLater_88 : decode cX9_winsLater 88 = .ok (.ireturn, 1) := by decide +kernel
theorem dX9_winsLater_89 : decode cX9_winsLater 89 = .ok (.iinc 6 1, 3) := by decide +kernel
theorem dX9_winsLater_92 : decode cX9_winsLater 92 = .ok (.goto (-59), 3) := by decide +kernel
theorem dX9_winsLater_95 : decode cX9_winsLater 95 = .ok (.iinc 4 1, 3) := by decide +kernel
theorem dX9_winsLater_98 : decode cX9_winsLater 98 = .ok (.goto (-95), 3) := by decide +kernel
theorem dX9_winsLater_101 : decode cX9_winsLater 101 = .ok (.iconst 0, 1) := by decide +kernel
theorem dX9_winsLater_102 : decode cX9_winsLater 102 = .ok (.ireturn, 1) := by decide +kernel
set_option maxRecDepth 20000 in
theorem ggX9_wins_X9_isPlayer : GoodIn wsX9_wins wsX9_isPlayer := goodIn_r _ [7, 8, 9, 6, 10] (by decide +kernel) (by decide +kernel)
set_option maxRecDepth 20000 in
theorem gX9_wins_X9_isPlayer : GoodIn wsX9_wins (va_wsS RX9 125 yX9_isPlayer wsX9_isPlayer) := goodIn_app (goodIn_of _ (by decide +kernel)) ggX9_wins_X9_isPlayer
set_option maxRecDepth 20000 in
theorem ggX9_wins_X9_isCell : GoodIn wsX9_wins wsX9_isCell := goodIn_r _ [13, 8, 9, 6, 10] (by decide +kernel) (by decide +kernel)
set_option maxRecDepth 20000 in
theorem gX9_wins_X9_isCell : GoodIn wsX9_wins (va_wsS RX9 115 yX9_isCell wsX9_isCell) := goodIn_app (goodIn_of _ (by decide +kernel)) ggX9_wins_X9_isCell
set_option maxRecDepth 20000 in
theorem ggX9_wins_X9_in : GoodIn wsX9_wins wsX9_in := goodIn_r _ [10] (by decide +kernel) (by decide +kernel)
set_option maxRecDepth 20000 in
theorem gX9_wins_X9_in : GoodIn wsX9_wins (va_wsS RX9 97 yX9_in wsX9_in) := goodIn_app (goodIn_of _ (by decide +kernel)) ggX9_wins_X9_in
set_option maxRecDepth 20000 in
theorem ggX9_wins_X9_findMeetings : GoodIn wsX9_wins wsX9_findMeetings := goodIn_r _ [17, 18, 19, 20, 21, 22, 6, 23, 24, 25, 26, 27, 28, 29, 30, 31, 32, 33, 34, 35, 36, 37, 38, 39, 40, 41, 42, 43, 44, 45, 46, 47, 48, 49, 50, 51, 52, 53, 54, 71, 72, 73, 74, 75, 76, 77, 78, 79, 80, 81, 82, 83, 84, 85, 86, 87, 88, 89, 90, 91, 92, 93, 94, 95, 96, 97, 98, 99, 100, 101, 102, 103, 104, 105, 106, 107, 108] (by decide +kernel) (by decide +kernel)
set_option maxRecDepth 20000 in
theorem gX9_wins_X9_findMeetings : GoodIn wsX9_wins (wsV RX9 151 RX9 yX9_findMeetings wsX9_findMeetings) := goodIn_app (goodIn_of _ (by decide +kernel)) ggX9_wins_X9_findMeetings
set_option maxRecDepth 20000 in
theorem ggX9_wins_X9_winsNow : GoodIn wsX9_wins wsX9_winsNow := goodIn_r _ [58, 19, 71, 72, 73, 74, 75, 76, 77, 78, 79, 80, 81, 82, 83, 84, 85, 86, 87, 88, 89, 90, 91, 92, 93, 94, 95, 96, 97, 98, 99, 100, 101, 102, 103, 104, 105, 106, 107, 108] (by decide +kernel) (by decide +kernel)
set_option maxRecDepth 20000 in
theorem gX9_wins_X9_winsNow : GoodIn wsX9_wins (wsV RX9 155 RX9 yX9_winsNow wsX9_winsNow) := goodIn_app (goodIn_of _ (by decide +kernel)) ggX9_wins_X9_winsNow
set_option maxRecDepth 20000 in
theorem ggX9_wins_X9_holdsAll : GoodIn wsX9_wins wsX9_holdsAll := goodIn_r _ [62, 18, 49, 50, 51, 6, 52, 53, 54, 63, 64, 65, 66, 1, 46, 47, 48, 29, 30, 31, 71, 72, 73, 74, 75, 76, 77, 78, 79, 80, 81, 82, 83, 84, 85, 86, 87, 88, 89, 90, 91, 92, 93, 94, 95, 96, 97, 98, 99, 100, 101, 102, 103, 104, 105, 106, 107, 108] (by decide +kernel) (by decide +kernel)
set_option maxRecDepth 20000 in
theorem gX9_wins_X9_holdsAll : GoodIn wsX9_wins (wsV RX9 159 RX9 yX9_holdsAll wsX9_holdsAll) := goodIn_app (goodIn_of _ (by decide +kernel)) ggX9_wins_X9_holdsAll
set_option maxRecDepth 20000 in
theorem ggX9_wins_X9_winsLater : GoodIn wsX9_wins wsX9_winsLater := goodIn_r _ [70, 19, 2, 46, 47, 6, 48, 29, 30, 31, 49, 50, 51, 52, 53, 54, 71, 72, 73, 74, 75, 76, 77, 78, 79, 80, 81, 82, 83, 84, 85, 86, 87, 88, 89, 90, 91, 92, 93, 94, 95, 96, 97, 98, 99, 100, 101, 102, 103, 104, 105, 106, 107, 108] (by decide +kernel) (by decide +kernel)
set_option maxRecDepth 20000 in
theorem gX9_wins_X9_winsLater : GoodIn wsX9_wins (wsV RX9 162 RX9 yX9_winsLater wsX9_winsLater) := goodIn_app (goodIn_of _ (by decide +kernel)) ggX9_wins_X9_winsLater
theorem dX9_wins_0 : decode cX9_wins 0 = .ok (.iload_n 1, 1) := by decide +kernel
theorem dX9_wins_1 : decode cX9_wins 1 = .ok (.invokestatic 125, 3) := by decide +kernel
theorem dX9_wins_4 : decode cX9_wins 4 = .ok (.ifCond .eq 25, 3) := by decide +kernel
theorem dX9_wins_7 : decode cX9_wins 7 = .ok (.iload_n 2, 1) := by decide +kernel
theorem dX9_wins_8 : decode cX9_wins 8 = .ok (.invokestatic 125, 3) := by decide +kernel
theorem dX9_wins_11 : decode cX9_wins 11 = .ok (.ifCond .eq 18, 3) := by decide +kernel
theorem dX9_wins_14 : decode cX9_wins 14 = .ok (.iload_n 3, 1) := by decide +kernel
theorem dX9_wins_15 : decode cX9_wins 15 = .ok (.invokestatic 115, 3) := by decide +kernel
theorem dX9_wins_18 : decode cX9_wins 18 = .ok (.ifCond .eq 11, 3) := by decide +kernel
theorem dX9_wins_21 : decode cX9_wins 21 = .ok (.iload 4, 2) := by decide +kernel
theorem dX9_wins_23 : decode cX9_wins 23 = .ok (.invokestatic 115, 3) := by decide +kernel
theorem dX9_wins_26 : decode cX9_wins 26 = .ok (.ifCond .ne 6, 3) := by decide +kernel
theorem dX9_wins_29 : decode cX9_wins 29 = .ok (.bipush (-2), 2) := by decide +kernel
theorem dX9_wins_31 : decode cX9_wins 31 = .ok (.ireturn, 1) := by decide +kernel
theorem dX9_wins_32 : decode cX9_wins 32 = .ok (.iload 5, 2) := by decide +kernel
theorem dX9_wins_34 : decode cX9_wins 34 = .ok (.iconst 1, 1) := by decide +kernel
theorem dX9_wins_35 : decode cX9_wins 35 = .ok (.iconst 4, 1) := by decide +kernel
theorem dX9_wins_36 : decode cX9_wins 36 = .ok (.invokestatic 97, 3) := by decide +kernel
theorem dX9_wins_39 : decode cX9_wins 39 = .ok (.ifCond .eq 8, 3) := by decide +kernel
theorem dX9_wins_42 : decode cX9_wins 42 = .ok (.iload_n 1, 1) := by decide +kernel
theorem dX9_wins_43 : decode cX9_wins 43 = .ok (.iload_n 2, 1) := by decide +kernel
theorem dX9_wins_44 : decode cX9_wins 44 = .ok (.if_icmp .ne 6, 3) := by decide +kernel
theorem dX9_wins_47 : decode cX9_wins 47 = .ok (.bipush (-3), 2) := by decide +kernel
theorem dX9_wins_49 : decode cX9_wins 49 = .ok (.ireturn, 1) := by decide +kernel
theorem dX9_wins_50 : decode cX9_wins 50 = .ok (.aload_n 0, 1) := by decide +kernel
theorem dX9_wins_51 : decode cX9_wins 51 = .ok (.iload_n 1, 1) := by decide +kernel
theorem dX9_wins_52 : decode cX9_wins 52 = .ok (.iload_n 2, 1) := by decide +kernel
theorem dX9_wins_53 : decode cX9_wins 53 = .ok (.invokevirtual 151, 3) := by decide +kernel
theorem dX9_wins_56 : decode cX9_wins 56 = .ok (.iconst 0, 1) := by decide +kernel
theorem dX9_wins_57 : decode cX9_wins 57 = .ok (.istore 6, 2) := by decide +kernel
theorem dX9_wins_59 : decode cX9_wins 59 = .ok (.iload 6, 2) := by decide +kernel
theorem dX9_wins_61 : decode cX9_wins 61 = .ok (.sipush 256, 3) := by decide +kernel
theorem dX9_wins_64 : decode cX9_wins 64 = .ok (.if_icmp .ge 30, 3) := by decide +kernel
theorem dX9_wins_67 : decode cX9_wins 67 = .ok (.aload_n 0, 1) := by decide +kernel
theorem dX9_wins_68 : decode cX9_wins 68 = .ok (.getfield 37, 3) := by decide +kernel
theorem dX9_wins_71 : decode cX9_wins 71 = .ok (.iload 6, 2) := by decide +kernel
theorem dX9_wins_73 : decode cX9_wins 73 = .ok (.aload_n 0, 1) := by decide +kernel
theorem dX9_wins_74 : decode cX9_wins 74 = .ok (.iload 6, 2) := by decide +kernel
theorem dX9_wins_76 : decode cX9_wins 76 = .ok (.bipush 16, 2) := by decide +kernel
theorem dX9_wins_78 : decode cX9_wins 78 = .ok (.idiv, 1) := by decide +kernel
theorem dX9_wins_79 : decode cX9_wins 79 = .ok (.iload 6, 2) := by decide +kernel
theorem dX9_wins_81 : decode cX9_wins 81 = .ok (.bipush 16, 2) := by decide +kernel
theorem dX9_wins_83 : decode cX9_wins 83 = .ok (.irem, 1) := by decide +kernel
theorem dX9_wins_84 : decode cX9_wins 84 = .ok (.invokevirtual 155, 3) := by decide +kernel
theorem dX9_wins_87 : decode cX9_wins 87 = .ok (.bastore, 1) := by decide +kernel
theorem dX9_wins_88 : decode cX9_wins 88 = .ok (.iinc 6 1, 3) := by decide +kernel
theorem dX9_wins_91 : decode cX9_wins 91 = .ok (.goto (-32), 3) := by decide +kernel
theorem dX9_wins_94 : decode cX9_wins 94 = .ok (.iconst 2, 1) := by decide +kernel
theorem dX9_wins_95 : decode cX9_wins 95 = .ok (.istore 6, 2) := by decide +kernel
theorem dX9_wins_97 : decode cX9_wins 97 = .ok (.iload 6, 2) := by decide +kernel
theorem dX9_wins_99 : decode cX9_wins 99 = .ok (.iload 5, 2) := by decide +kernel
theorem dX9_wins_101 : decode cX9_wins 101 = .ok (.if_icmp .gt 136, 3) := by decide +kernel
theorem dX9_wins_104 : decode cX9_wins 104 = .ok (.iconst 0, 1) := by decide +kernel
theorem dX9_wins_105 : decode cX9_wins 105 = .ok (.istore 7, 2) := by decide +kernel
theorem dX9_wins_107 : decode cX9_wins 107 = .ok (.iload 7, 2) := by decide +kernel
theorem dX9_wins_109 : decode cX9_wins 109 = .ok (.sipush 256, 3) := by decide +kernel
theorem dX9_wins_112 : decode cX9_wins 112 = .ok (.if_icmp .ge 31, 3) := by decide +kernel
theorem dX9_wins_115 : decode cX9_wins 115 = .ok (.aload_n 0, 1) := by decide +kernel
theorem dX9_wins_116 : decode cX9_wins 116 = .ok (.getfield 44, 3) := by decide +kernel
theorem dX9_wins_119 : decode cX9_wins 119 = .ok (.iload 7, 2) := by decide +kernel
theorem dX9_wins_121 : decode cX9_wins 121 = .ok (.aload_n 0, 1) := by decide +kernel
theorem dX9_wins_122 : decode cX9_wins 122 = .ok (.iload 7, 2) := by decide +kernel
theorem dX9_wins_124 : decode cX9_wins 124 = .ok (.bipush 16, 2) := by decide +kernel
theorem dX9_wins_126 : decode cX9_wins 126 = .ok (.idiv, 1) := by decide +kernel
theorem dX9_wins_127 : decode cX9_wins 127 = .ok (.iload 7, 2) := by decide +kernel
theorem dX9_wins_129 : decode cX9_wins 129 = .ok (.bipush 16, 2) := by decide +kernel
theorem dX9_wins_131 : decode cX9_wins 131 = .ok (.irem, 1) := by decide +kernel
theorem dX9_wins_132 : decode cX9_wins 132 = .ok (.iload_n 2, 1) := by decide +kernel
theorem dX9_wins_133 : decode cX9_wins 133 = .ok (.invokevirtual 159, 3) := by decide +kernel
theorem dX9_wins_136 : decode cX9_wins 136 = .ok (.bastore, 1) := by decide +kernel
theorem dX9_wins_137 : decode cX9_wins 137 = .ok (.iinc 7 1, 3) := by decide +kernel
theorem dX9_wins_140 : decode cX9_wins 140 = .ok (.goto (-33), 3) := by decide +kernel
theorem dX9_wins_143 : decode cX9_wins 143 = .ok (.iconst 0, 1) := by decide +kernel
theorem dX9_wins_144 : decode cX9_wins 144 = .ok (.istore 7, 2) := by decide +kernel
theorem dX9_wins_146 : decode cX9_wins 146 = .ok (.iload 7, 2) := by decide +kernel
theorem dX9_wins_148 : decode cX9_wins 148 = .ok (.sipush 256, 3) := by decide +kernel
theorem dX9_wins_151 : decode cX9_wins 151 = .ok (.if_icmp .ge 49, 3) := by decide +kernel
theorem dX9_wins_154 : decode cX9_wins 154 = .ok (.aload_n 0, 1) := by decide +kernel
theorem dX9_wins_155 : decode cX9_wins 155 = .ok (.getfield 41, 3) := by decide +kernel
theorem dX9_wins_158 : decode cX9_wins 158 = .ok (.iload 7, 2) := by decide +kernel
theorem dX9_wins_160 : decode cX9_wins 160 = .ok (.aload_n 0, 1) := by decide +kernel
theorem dX9_wins_161 : decode cX9_wins 161 = .ok (.getfield 37, 3) := by decide +kernel
theorem dX9_wins_164 : decode cX9_wins 164 = .ok (.iload 7, 2) := by decide +kernel
theorem dX9_wins_166 : decode cX9_wins 166 = .ok (.baload, 1) := by decide +kernel
theorem dX9_wins_167 : decode cX9_wins 167 = .ok (.ifCond .ne 21, 3) := by decide +kernel
theorem dX9_wins_170 : decode cX9_wins 170 = .ok (.aload_n 0, 1) := by decide +kernel
theorem dX9_wins_171 : decode cX9_wins 171 = .ok (.iload 7, 2) := by decide +kernel
theorem dX9_wins_173 : decode cX9_wins 173 = .ok (.bipush 16, 2) := by decide +kernel
theorem dX9_wins_175 : decode cX9_wins 175 = .ok (.idiv, 1) := by decide +kernel
theorem dX9_wins_176 : decode cX9_wins 176 = .ok (.iload 7, 2) := by decide +kernel
theorem dX9_wins_178 : decode cX9_wins 178 = .ok (.bipush 16, 2) := by decide +kernel
theorem dX9_wins_180 : decode cX9_wins 180 = .ok (.irem, 1) := by decide +kernel
theorem dX9_wins_181 : decode cX9_wins 181 = .ok (.iload_n 1, 1) := by decide +kernel
theorem dX9_wins_182 : decode cX9_wins 182 = .ok (.invokevirtual 162, 3) := by decide +kernel
theorem dX9_wins_185 : decode cX9_wins 185 = .ok (.ifCond .eq 7, 3) := by decide +kernel
theorem dX9_wins_188 : decode cX9_wins 188 = .ok (.iconst 1, 1) := by decide +kernel
theorem dX9_wins_189 : decode cX9_wins 189 = .ok (.goto 4, 3) := by decide +kernel
theorem dX9_wins_192 : decode cX9_wins 192 = .ok (.iconst 0, 1) := by decide +kernel
theorem dX9_wins_193 : decode cX9_wins 193 = .ok (.bastore, 1) := by decide +kernel
theorem dX9_wins_194 : decode cX9_wins 194 = .ok (.iinc 7 1, 3) := by decide +kernel
theorem dX9_wins_197 : decode cX9_wins 197 = .ok (.goto (-51), 3) := by decide +kernel
theorem dX9_wins_200 : decode cX9_wins 200 = .ok (.iconst 0, 1) := by decide +kernel
theorem dX9_wins_201 : decode cX9_wins 201 = .ok (.istore 7, 2) := by decide +kernel
theorem dX9_wins_203 : decode cX9_wins 203 = .ok (.iload 7, 2) := by decide +kernel
theorem dX9_wins_205 : decode cX9_wins 205 = .ok (.sipush 256, 3) := by decide +kernel
theorem dX9_wins_208 : decode cX9_wins 208 = .ok (.if_icmp .ge 23, 3) := by decide +kernel
theorem dX9_wins_211 : decode cX9_wins 211 = .ok (.aload_n 0, 1) := by decide +kernel
theorem dX9_wins_212 : decode cX9_wins 212 = .ok (.getfield 37, 3) := by decide +kernel
theorem dX9_wins_215 : decode cX9_wins 215 = .ok (.iload 7, 2) := by decide +kernel
theorem dX9_wins_217 : decode cX9_wins 217 = .ok (.aload_n 0, 1) := by decide +kernel
theorem dX9_wins_218 : decode cX9_wins 218 = .ok (.getfield 41, 3) := by decide +kernel
theorem dX9_wins_221 : decode cX9_wins 221 = .ok (.iload 7, 2) := by decide +kernel
theorem dX9_wins_223 : decode cX9_wins 223 = .ok (.baload, 1) := by decide +kernel
theorem dX9_wins_224 : decode cX9_wins 224 = .ok (.bastore, 1) := by decide +kernel
theorem dX9_wins_225 : decode cX9_wins 225 = .ok (.iinc 7 1, 3) := by decide +kernel
theorem dX9_wins_228 : decode cX9_wins 228 = .ok (.goto (-25), 3) := by decide +kernel
theorem dX9_wins_231 : decode cX9_wins 231 = .ok (.iinc 6 1, 3) := by decide +kernel
theorem dX9_wins_234 : decode cX9_wins 234 = .ok (.goto (-137), 3) := by decide +kernel
theorem dX9_wins_237 : decode cX9_wins 237 = .ok (.aload_n 0, 1) := by decide +kernel
theorem dX9_wins_238 : decode cX9_wins 238 = .ok (.getfield 37, 3) := by decide +kernel
theorem dX9_wins_241 : decode cX9_wins 241 = .ok (.bipush 16, 2) := by decide +kernel
theorem dX9_wins_243 : decode cX9_wins 243 = .ok (.iload_n 3, 1) := by decide +kernel
theorem dX9_wins_244 : decode cX9_wins 244 = .ok (.imul, 1) := by decide +kernel
theorem dX9_wins_245 : decode cX9_wins 245 = .ok (.iload 4, 2) := by decide +kernel
theorem dX9_wins_247 : decode cX9_wins 247 = .ok (.iadd, 1) := by decide +kernel
theorem dX9_wins_248 : decode cX9_wins 248 = .ok (.baload, 1) := by decide +kernel
theorem dX9_wins_249 : decode cX9_wins 249 = .ok (.ifCond .eq 7, 3) := by decide +kernel
theorem dX9_wins_252 : decode cX9_wins 252 = .ok (.iconst 1, 1) := by decide +kernel
theorem dX9_wins_253 : decode cX9_wins 253 = .ok (.goto 4, 3) := by decide +kernel
theorem dX9_wins_256 : decode cX9_wins 256 = .ok (.iconst 0, 1) := by decide +kernel
theorem dX9_wins_257 : decode cX9_wins 257 = .ok (.ireturn, 1) := by decide +kernel
theorem dX9_alone_0 : decode cX9_alone 0 = .ok (.iconst 0, 1) := by decide +kernel
theorem dX9_alone_1 : decode cX9_alone 1 = .ok (.istore_n 1, 1) := by decide +kernel
theorem dX9_alone_2 : decode cX9_alone 2 = .ok (.iconst 1, 1) := by decide +kernel
theorem dX9_alone_3 : decode cX9_alone 3 = .ok (.istore_n 2, 1) := by decide +kernel
theorem dX9_alone_4 : decode cX9_alone 4 = .ok (.iload_n 2, 1) := by decide +kernel
theorem dX9_alone_5 : decode cX9_alone 5 = .ok (.iconst 3, 1) := by decide +kernel
theorem dX9_alone_6 : decode cX9_alone 6 = .ok (.if_icmp .ge 30, 3) := by decide +kernel
theorem dX9_alone_9 : decode cX9_alone 9 = .ok (.aload_n 0, 1) := by decide +kernel
theorem dX9_alone_10 : decode cX9_alone 10 = .ok (.getfield 47, 3) := by decide +kernel
theorem dX9_alone_13 : decode cX9_alone 13 = .ok (.iload_n 2, 1) := by decide +kernel
theorem dX9_alone_14 : decode cX9_alone 14 = .ok (.iaload, 1) := by decide +kernel
theorem dX9_alone_15 : decode cX9_alone 15 = .ok (.aload_n 0, 1) := by decide +kernel
theorem dX9_alone_16 : decode cX9_alone 16 = .ok (.getfield 47, 3) := by decide +kernel
theorem dX9_alone_19 : decode cX9_alone 19 = .ok (.iload_n 1, 1) := by decide +kernel
theorem dX9_alone_20 : decode cX9_alone 20 = .ok (.iaload, 1) := by decide +kernel
theorem dX9_alone_21 : decode cX9_alone 21 = .ok (.if_icmp .le 7, 3) := by decide +kernel
theorem dX9_alone_24 : decode cX9_alone 24 = .ok (.iload_n 2, 1) := by decide +kernel
theorem dX9_alone_25 : decode cX9_alone 25 = .ok (.goto 4, 3) := by decide +kernel
theorem dX9_alone_28 : decode cX9_alone 28 = .ok (.iload_n 1, 1) := by decide +kernel
theorem dX9_alone_29 : decode cX9_alone 29 = .ok (.istore_n 1, 1) := by decide +kernel
theorem dX9_alone_30 : decode cX9_alone 30 = .ok (.iinc 2 1, 3) := by decide +kernel
theorem dX9_alone_33 : decode cX9_alone 33 = .ok (.goto (-29), 3) := by decide +kernel
theorem dX9_alone_36 : decode cX9_alone 36 = .ok (.iload_n 1, 1) := by decide +kernel
theorem dX9_alone_37 : decode cX9_alone 37 = .ok (.ireturn, 1) := by decide +kernel
theorem dX9_isOver_0 : decode cX9_isOver 0 = .ok (.aload_n 0, 1) := by decide +kernel
theorem dX9_isOver_1 : decode cX9_isOver 1 = .ok (.getfield 47, 3) := by decide +kernel
theorem dX9_isOver_4 : decode cX9_isOver 4 = .ok (.iconst 0, 1) := by decide +kernel
theorem dX9_isOver_5 : decode cX9_isOver 5 = .ok (.iaload, 1) := by decide +kernel
theorem dX9_isOver_6 : decode cX9_isOver 6 = .ok (.bipush 14, 2) := by decide +kernel
theorem dX9_isOver_8 : decode cX9_isOver 8 = .ok (.if_icmp .gt 25, 3) := by decide +kernel
theorem dX9_isOver_11 : decode cX9_isOver 11 = .ok (.aload_n 0, 1) := by decide +kernel
theorem dX9_isOver_12 : decode cX9_isOver 12 = .ok (.getfield 47, 3) := by decide +kernel
theorem dX9_isOver_15 : decode cX9_isOver 15 = .ok (.iconst 1, 1) := by decide +kernel
theorem dX9_isOver_16 : decode cX9_isOver 16 = .ok (.iaload, 1) := by decide +kernel
theorem dX9_isOver_17 : decode cX9_isOver 17 = .ok (.bipush 14, 2) := by decide +kernel
theorem dX9_isOver_19 : decode cX9_isOver 19 = .ok (.if_icmp .gt 14, 3) := by decide +kernel
theorem dX9_isOver_22 : decode cX9_isOver 22 = .ok (.aload_n 0, 1) := by decide +kernel
theorem dX9_isOver_23 : decode cX9_isOver 23 = .ok (.getfield 47, 3) := by decide +kernel
theorem dX9_isOver_26 : decode cX9_isOver 26 = .ok (.iconst 2, 1) := by decide +kernel
theorem dX9_isOver_27 : decode cX9_isOver 27 = .ok (.iaload, 1) := by decide +kernel
theorem dX9_isOver_28 : decode cX9_isOver 28 = .ok (.bipush 14, 2) := by decide +kernel
theorem dX9_isOver_30 : decode cX9_isOver 30 = .ok (.if_icmp .le 7, 3) := by decide +kernel
theorem dX9_isOver_33 : decode cX9_isOver 33 = .ok (.iconst 1, 1) := by decide +kernel
theorem dX9_isOver_34 : decode cX9_isOver 34 = .ok (.goto 4, 3) := by decide +kernel
theorem dX9_isOver_37 : decode cX9_isOver 37 = .ok (.iconst 0, 1) := by decide +kernel
theorem dX9_isOver_38 : decode cX9_isOver 38 = .ok (.ireturn, 1) := by decide +kernel
set_option maxRecDepth 20000 in
theorem ggX9_rally_X9_in : GoodIn wsX9_rally wsX9_in := goodIn_r _ [6] (by decide +kernel) (by decide +kernel)
set_option maxRecDepth 20000 in
theorem gX9_rally_X9_in : GoodIn wsX9_rally (va_wsS RX9 97 yX9_in wsX9_in) := goodIn_app (goodIn_of _ (by decide +kernel)) ggX9_rally_X9_in
set_option maxRecDepth 20000 in
theorem ggX9_rally_X9_isOver : GoodIn wsX9_rally wsX9_isOver := goodIn_r _ [10, 1, 15, 16, 17, 18, 19, 20, 21, 22, 23, 24, 25, 26, 27, 28, 29, 30, 31, 32, 33, 34, 35, 36, 37, 38, 39, 40, 41, 42, 43, 44, 45, 46, 47, 48, 49, 50, 51, 52] (by decide +kernel) (by decide +kernel)
set_option maxRecDepth 20000 in
theorem gX9_rally_X9_isOver : GoodIn wsX9_rally (wsV RX9 165 RX9 yX9_isOver wsX9_isOver) := goodIn_app (goodIn_of _ (by decide +kernel)) ggX9_rally_X9_isOver
set_option maxRecDepth 20000 in
theorem ggX9_rally_X9_alone : GoodIn wsX9_rally wsX9_alone := goodIn_r _ [14, 1, 15, 16, 17, 18, 19, 20, 21, 22, 23, 24, 25, 26, 27, 28, 29, 30, 31, 32, 33, 34, 35, 36, 37, 38, 39, 40, 41, 42, 43, 44, 45, 46, 47, 48, 49, 50, 51, 52] (by decide +kernel) (by decide +kernel)
set_option maxRecDepth 20000 in
theorem gX9_rally_X9_alone : GoodIn wsX9_rally (wsV RX9 169 RX9 yX9_alone wsX9_alone) := goodIn_app (goodIn_of _ (by decide +kernel)) ggX9_rally_X9_alone
theorem dX9_rally_0 : decode cX9_rally 0 = .ok (.iload_n 1, 1) := by decide +kernel
theorem dX9_rally_1 : decode cX9_rally 1 = .ok (.iconst 0, 1) := by decide +kernel
theorem dX9_rally_2 : decode cX9_rally 2 = .ok (.iconst 2, 1) := by decide +kernel
theorem dX9_rally_3 : decode cX9_rally 3 = .ok (.invokestatic 97, 3) := by decide +kernel
theorem dX9_rally_6 : decode cX9_rally 6 = .ok (.ifCond .ne 6, 3) := by decide +kernel
theorem dX9_rally_9 : decode cX9_rally 9 = .ok (.bipush (-3), 2) := by decide +kernel
theorem dX9_rally_11 : decode cX9_rally 11 = .ok (.ireturn, 1) := by decide +kernel
theorem dX9_rally_12 : decode cX9_rally 12 = .ok (.aload_n 0, 1) := by decide +kernel
theorem dX9_rally_13 : decode cX9_rally 13 = .ok (.invokevirtual 165, 3) := by decide +kernel
theorem dX9_rally_16 : decode cX9_rally 16 = .ok (.ifCond .eq 6, 3) := by decide +kernel
theorem dX9_rally_19 : decode cX9_rally 19 = .ok (.bipush (-4), 2) := by decide +kernel
theorem dX9_rally_21 : decode cX9_rally 21 = .ok (.ireturn, 1) := by decide +kernel
theorem dX9_rally_22 : decode cX9_rally 22 = .ok (.aload_n 0, 1) := by decide +kernel
theorem dX9_rally_23 : decode cX9_rally 23 = .ok (.invokevirtual 169, 3) := by decide +kernel
theorem dX9_rally_26 : decode cX9_rally 26 = .ok (.istore_n 2, 1) := by decide +kernel
theorem dX9_rally_27 : decode cX9_rally 27 = .ok (.iload_n 1, 1) := by decide +kernel
theorem dX9_rally_28 : decode cX9_rally 28 = .ok (.ifCond .ne 18, 3) := by decide +kernel
theorem dX9_rally_31 : decode cX9_rally 31 = .ok (.aload_n 0, 1) := by decide +kernel
theorem dX9_rally_32 : decode cX9_rally 32 = .ok (.getfield 47, 3) := by decide +kernel
theorem dX9_rally_35 : decode cX9_rally 35 = .ok (.iload_n 2, 1) := by decide +kernel
theorem dX9_rally_36 : decode cX9_rally 36 = .ok (.dup2, 1) := by decide +kernel
theorem dX9_rally_37 : decode cX9_rally 37 = .ok (.iaload, 1) := by decide +kernel
theorem dX9_rally_38 : decode cX9_rally 38 = .ok (.iconst 1, 1) := by decide +kernel
theorem dX9_rally_39 : decode cX9_rally 39 = .ok (.iadd, 1) := by decide +kernel
theorem dX9_rally_40 : decode cX9_rally 40 = .ok (.iastore, 1) := by decide +kernel
theorem dX9_rally_41 : decode cX9_rally 41 = .ok (.aload_n 0, 1) := by decide +kernel
theorem dX9_rally_42 : decode cX9_rally 42 = .ok (.iload_n 2, 1) := by decide +kernel
theorem dX9_rally_43 : decode cX9_rally 43 = .ok (.putfield 173, 3) := by decide +kernel
theorem dX9_rally_46 : decode cX9_rally 46 = .ok (.iload_n 1, 1) := by decide +kernel
theorem dX9_rally_47 : decode cX9_rally 47 = .ok (.iconst 1, 1) := by decide +kernel
theorem dX9_rally_48 : decode cX9_rally 48 = .ok (.if_icmp .ne 72, 3) := by decide +kernel
theorem dX9_rally_51 : decode cX9_rally 51 = .ok (.iload_n 2, 1) := by decide +kernel
theorem dX9_rally_52 : decode cX9_rally 52 = .ok (.ifCond .ne 7, 3) := by decide +kernel
theorem dX9_rally_55 : decode cX9_rally 55 = .ok (.iconst 1, 1) := by decide +kernel
theorem dX9_rally_56 : decode cX9_rally 56 = .ok (.goto 4, 3) := by decide +kernel
theorem dX9_rally_59 : decode cX9_rally 59 = .ok (.iconst 0, 1) := by decide +kernel
theorem dX9_rally_60 : decode cX9_rally 60 = .ok (.istore_n 3, 1) := by decide +kernel
theorem dX9_rally_61 : decode cX9_rally 61 = .ok (.iload_n 2, 1) := by decide +kernel
theorem dX9_rally_62 : decode cX9_rally 62 = .ok (.iconst 2, 1) := by decide +kernel
theorem dX9_rally_63 : decode cX9_rally 63 = .ok (.if_icmp .ne 7, 3) := by decide +kernel
theorem dX9_rally_66 : decode cX9_rally 66 = .ok (.iconst 1, 1) := by decide +kernel
theorem dX9_rally_67 : decode cX9_rally 67 = .ok (.goto 4, 3) := by decide +kernel
theorem dX9_rally_70 : decode cX9_rally 70 = .ok (.iconst 2, 1) := by decide +kernel
theorem dX9_rally_71 : decode cX9_rally 71 = .ok (.istore 4, 2) := by decide +kernel
theorem dX9_rally_73 : decode cX9_rally 73 = .ok (.aload_n 0, 1) := by decide +kernel
theorem dX9_rally_74 : decode cX9_rally 74 = .ok (.getfield 47, 3) := by decide +kernel
theorem dX9_rally_77 : decode cX9_rally 77 = .ok (.iload_n 3, 1) := by decide +kernel
theorem dX9_rally_78 : decode cX9_rally 78 = .ok (.dup2, 1) := by decide +kernel
theorem dX9_rally_79 : decode cX9_rally 79 = .ok (.iaload, 1) := by decide +kernel
theorem dX9_rally_80 : decode cX9_rally 80 = .ok (.iconst 1, 1) := by decide +kernel
theorem dX9_rally_81 : decode cX9_rally 81 = .ok (.iadd, 1) := by decide +kernel
theorem dX9_rally_82 : decode cX9_rally 82 = .ok (.iastore, 1) := by decide +kernel
theorem dX9_rally_83 : decode cX9_rally 83 = .ok (.aload_n 0, 1) := by decide +kernel
theorem dX9_rally_84 : decode cX9_rally 84 = .ok (.getfield 47, 3) := by decide +kernel
theorem dX9_rally_87 : decode cX9_rally 87 = .ok (.iload 4, 2) := by decide +kernel
theorem dX9_rally_89 : decode cX9_rally 89 = .ok (.dup2, 1) := by decide +kernel
theorem dX9_rally_90 : decode cX9_rally 90 = .ok (.iaload, 1) := by decide +kernel
theorem dX9_rally_91 : decode cX9_rally 91 = .ok (.iconst 1, 1) := by decide +kernel
theorem dX9_rally_92 : decode cX9_rally 92 = .ok (.iadd, 1) := by decide +kernel
theorem dX9_rally_93 : decode cX9_rally 93 = .ok (.iastore, 1) := by decide +kernel
theorem dX9_rally_94 : decode cX9_rally 94 = .ok (.aload_n 0, 1) := by decide +kernel
theorem dX9_rally_95 : decode cX9_rally 95 = .ok (.aload_n 0, 1) := by decide +kernel
theorem dX9_rally_96 : decode cX9_rally 96 = .ok (.getfield 47, 3) := by decide +kernel
theorem dX9_rally_99 : decode cX9_rally 99 = .ok (.iload 4, 2) := by decide +kernel
theorem dX9_rally_101 : decode cX9_rally 101 = .ok (.iaload, 1) := by decide +kernel
theorem dX9_rally_102 : decode cX9_rally 102 = .ok (.aload_n 0, 1) := by decide +kernel
theorem dX9_rally_103 : decode cX9_rally 103 = .ok (.getfield 47, 3) := by decide +kernel
theorem dX9_rally_106 : decode cX9_rally 106 = .ok (.iload_n 3, 1) := by decide +kernel
theorem dX9_rally_107 : decode cX9_rally 107 = .ok (.iaload, 1) := by decide +kernel
theorem dX9_rally_108 : decode cX9_rally 108 = .ok (.if_icmp .ge 8, 3) := by decide +kernel
theorem dX9_rally_111 : decode cX9_rally 111 = .ok (.iload 4, 2) := by decide +kernel
theorem dX9_rally_113 : decode cX9_rally 113 = .ok (.goto 4, 3) := by decide +kernel
theorem dX9_rally_116 : decode cX9_rally 116 = .ok (.iload_n 3, 1) := by decide +kernel
theorem dX9_rally_117 : decode cX9_rally 117 = .ok (.putfield 173, 3) := by decide +kernel
theorem dX9_rally_120 : decode cX9_rally 120 = .ok (.aload_n 0, 1) := by decide +kernel
theorem dX9_rally_121 : decode cX9_rally 121 = .ok (.getfield 173, 3) := by decide +kernel
theorem dX9_rally_124 : decode cX9_rally 124 = .ok (.ireturn, 1) := by decide +kernel
set_option maxRecDepth 20000 in
theorem ggX9_three_X9_in : GoodIn wsX9_three wsX9_in := goodIn_r _ [6] (by decide +kernel) (by decide +kernel)
set_option maxRecDepth 20000 in
theorem gX9_three_X9_in : GoodIn wsX9_three (va_wsS RX9 97 yX9_in wsX9_in) := goodIn_app (goodIn_of _ (by decide +kernel)) ggX9_three_X9_in
set_option maxRecDepth 20000 in
theorem ggX9_three_X9_alone : GoodIn wsX9_three wsX9_alone := goodIn_r _ [10, 1, 15, 16, 17, 18, 19, 20, 21, 22, 23, 24, 25, 26, 27, 28, 29, 30, 31, 32, 33, 34, 35, 36, 37, 38, 39, 40, 41, 42, 43, 44, 45, 46, 47, 48, 49, 50, 51, 52] (by decide +kernel) (by decide +kernel)
set_option maxRecDepth 20000 in
theorem gX9_three_X9_alone : GoodIn wsX9_three (wsV RX9 169 RX9 yX9_alone wsX9_alone) := goodIn_app (goodIn_of _ (by decide +kernel)) ggX9_three_X9_alone
set_option maxRecDepth 20000 in
theorem ggX9_three_X9_isOver : GoodIn wsX9_three wsX9_isOver := goodIn_r _ [14, 1, 15, 16, 17, 18, 19, 20, 21, 22, 23, 24, 25, 26, 27, 28, 29, 30, 31, 32, 33, 34, 35, 36, 37, 38, 39, 40, 41, 42, 43, 44, 45, 46, 47, 48, 49, 50, 51, 52] (by decide +kernel) (by decide +kernel)
set_option maxRecDepth 20000 in
theorem gX9_three_X9_isOver : GoodIn wsX9_three (wsV RX9 165 RX9 yX9_isOver wsX9_isOver) := goodIn_app (goodIn_of _ (by decide +kernel)) ggX9_three_X9_isOver
theorem dX9_three_0 : decode cX9_three 0 = .ok (.iload_n 1, 1) := by decide +kernel
theorem dX9_three_1 : decode cX9_three 1 = .ok (.iconst 0, 1) := by decide +kernel
theorem dX9_three_2 : decode cX9_three 2 = .ok (.iconst 2, 1) := by decide +kernel
theorem dX9_three_3 : decode cX9_three 3 = .ok (.invokestatic 97, 3) := by decide +kernel
theorem dX9_three_6 : decode cX9_three 6 = .ok (.ifCond .eq 12, 3) := by decide +kernel
theorem dX9_three_9 : decode cX9_three 9 = .ok (.aload_n 0, 1) := by decide +kernel
theorem dX9_three_10 : decode cX9_three 10 = .ok (.getfield 47, 3) := by decide +kernel
theorem dX9_three_13 : decode cX9_three 13 = .ok (.iload_n 1, 1) := by decide +kernel
theorem dX9_three_14 : decode cX9_three 14 = .ok (.iaload, 1) := by decide +kernel
theorem dX9_three_15 : decode cX9_three 15 = .ok (.goto 49, 3) := by decide +kernel
theorem dX9_three_18 : decode cX9_three 18 = .ok (.iload_n 1, 1) := by decide +kernel
theorem dX9_three_19 : decode cX9_three 19 = .ok (.iconst 3, 1) := by decide +kernel
theorem dX9_three_20 : decode cX9_three 20 = .ok (.if_icmp .ne 10, 3) := by decide +kernel
theorem dX9_three_23 : decode cX9_three 23 = .ok (.aload_n 0, 1) := by decide +kernel
theorem dX9_three_24 : decode cX9_three 24 = .ok (.invokevirtual 169, 3) := by decide +kernel
theorem dX9_three_27 : decode cX9_three 27 = .ok (.goto 37, 3) := by decide +kernel
theorem dX9_three_30 : decode cX9_three 30 = .ok (.iload_n 1, 1) := by decide +kernel
theorem dX9_three_31 : decode cX9_three 31 = .ok (.iconst 4, 1) := by decide +kernel
theorem dX9_three_32 : decode cX9_three 32 = .ok (.if_icmp .ne 10, 3) := by decide +kernel
theorem dX9_three_35 : decode cX9_three 35 = .ok (.aload_n 0, 1) := by decide +kernel
theorem dX9_three_36 : decode cX9_three 36 = .ok (.getfield 173, 3) := by decide +kernel
theorem dX9_three_39 : decode cX9_three 39 = .ok (.goto 25, 3) := by decide +kernel
theorem dX9_three_42 : decode cX9_three 42 = .ok (.iload_n 1, 1) := by decide +kernel
theorem dX9_three_43 : decode cX9_three 43 = .ok (.iconst 5, 1) := by decide +kernel
theorem dX9_three_44 : decode cX9_three 44 = .ok (.if_icmp .ne 18, 3) := by decide +kernel
theorem dX9_three_47 : decode cX9_three 47 = .ok (.aload_n 0, 1) := by decide +kernel
theorem dX9_three_48 : decode cX9_three 48 = .ok (.invokevirtual 165, 3) := by decide +kernel
theorem dX9_three_51 : decode cX9_three 51 = .ok (.ifCond .eq 7, 3) := by decide +kernel
theorem dX9_three_54 : decode cX9_three 54 = .ok (.iconst 1, 1) := by decide +kernel
theorem dX9_three_55 : decode cX9_three 55 = .ok (.goto 9, 3) := by decide +kernel
theorem dX9_three_58 : decode cX9_three 58 = .ok (.iconst 0, 1) := by decide +kernel
theorem dX9_three_59 : decode cX9_three 59 = .ok (.goto 5, 3) := by decide +kernel
theorem dX9_three_62 : decode cX9_three 62 = .ok (.bipush (-3), 2) := by decide +kernel
theorem dX9_three_64 : decode cX9_three 64 = .ok (.ireturn, 1) := by decide +kernel
theorem dX9_again_0 : decode cX9_again 0 = .ok (.aload_n 0, 1) := by decide +kernel
theorem dX9_again_1 : decode cX9_again 1 = .ok (.getfield 47, 3) := by decide +kernel
theorem dX9_again_4 : decode cX9_again 4 = .ok (.iconst 0, 1) := by decide +kernel
theorem dX9_again_5 : decode cX9_again 5 = .ok (.iaload, 1) := by decide +kernel
theorem dX9_again_6 : decode cX9_again 6 = .ok (.aload_n 0, 1) := by decide +kernel
theorem dX9_again_7 : decode cX9_again 7 = .ok (.getfield 47, 3) := by decide +kernel
theorem dX9_again_10 : decode cX9_again 10 = .ok (.iconst 1, 1) := by decide +kernel
theorem dX9_again_11 : decode cX9_again 11 = .ok (.iaload, 1) := by decide +kernel
theorem dX9_again_12 : decode cX9_again 12 = .ok (.iadd, 1) := by decide +kernel
theorem dX9_again_13 : decode cX9_again 13 = .ok (.aload_n 0, 1) := by decide +kernel
theorem dX9_again_14 : decode cX9_again 14 = .ok (.getfield 47, 3) := by decide +kernel
theorem dX9_again_17 : decode cX9_again 17 = .ok (.iconst 2, 1) := by decide +kernel
theorem dX9_again_18 : decode cX9_again 18 = .ok (.iaload, 1) := by decide +kernel
theorem dX9_again_19 : decode cX9_again 19 = .ok (.iadd, 1) := by decide +kernel
theorem dX9_again_20 : decode cX9_again 20 = .ok (.istore_n 1, 1) := by decide +kernel
theorem dX9_again_21 : decode cX9_again 21 = .ok (.aload_n 0, 1) := by decide +kernel
theorem dX9_again_22 : decode cX9_again 22 = .ok (.getfield 47, 3) := by decide +kernel
theorem dX9_again_25 : decode cX9_again 25 = .ok (.iconst 0, 1) := by decide +kernel
theorem dX9_again_26 : decode cX9_again 26 = .ok (.iconst 0, 1) := by decide +kernel
theorem dX9_again_27 : decode cX9_again 27 = .ok (.iastore, 1) := by decide +kernel
theorem dX9_again_28 : decode cX9_again 28 = .ok (.aload_n 0, 1) := by decide +kernel
theorem dX9_again_29 : decode cX9_again 29 = .ok (.getfield 47, 3) := by decide +kernel
theorem dX9_again_32 : decode cX9_again 32 = .ok (.iconst 1, 1) := by decide +kernel
theorem dX9_again_33 : decode cX9_again 33 = .ok (.iconst 0, 1) := by decide +kernel
theorem dX9_again_34 : decode cX9_again 34 = .ok (.iastore, 1) := by decide +kernel
theorem dX9_again_35 : decode cX9_again 35 = .ok (.aload_n 0, 1) := by decide +kernel
theorem dX9_again_36 : decode cX9_again 36 = .ok (.getfield 47, 3) := by decide +kernel
theorem dX9_again_39 : decode cX9_again 39 = .ok (.iconst 2, 1) := by decide +kernel
theorem dX9_again_40 : decode cX9_again 40 = .ok (.iconst 0, 1) := by decide +kernel
theorem dX9_again_41 : decode cX9_again 41 = .ok (.iastore, 1) := by decide +kernel
theorem dX9_again_42 : decode cX9_again 42 = .ok (.aload_n 0, 1) := by decide +kernel
theorem dX9_again_43 : decode cX9_again 43 = .ok (.iconst 0, 1) := by decide +kernel
theorem dX9_again_44 : decode cX9_again 44 = .ok (.putfield 173, 3) := by decide +kernel
theorem dX9_again_47 : decode cX9_again 47 = .ok (.iload_n 1, 1) := by decide +kernel
theorem dX9_again_48 : decode cX9_again 48 = .ok (.ireturn, 1) := by decide +kernel
set_option maxRecDepth 20000 in
theorem ggX9_note_X9_in : GoodIn wsX9_note wsX9_in := goodIn_r _ [7] (by decide +kernel) (by decide +kernel)
set_option maxRecDepth 20000 in
theorem gX9_note_X9_in : GoodIn wsX9_note (va_wsS RX9 97 yX9_in wsX9_in) := goodIn_app (goodIn_of _ (by decide +kernel)) ggX9_note_X9_in
theorem dX9_note_0 : decode cX9_note 0 = .ok (.iload_n 1, 1) := by decide +kernel
theorem dX9_note_1 : decode cX9_note 1 = .ok (.iconst (-1), 1) := by decide +kernel
theorem dX9_note_2 : decode cX9_note 2 = .ok (.iconst 3, 1) := by decide +kernel
theorem dX9_note_3 : decode cX9_note 3 = .ok (.invokestatic 97, 3) := by decide +kernel
theorem dX9_note_6 : decode cX9_note 6 = .ok (.ifCond .eq 12, 3) := by decide +kernel
theorem dX9_note_9 : decode cX9_note 9 = .ok (.iload_n 2, 1) := by decide +kernel
theorem dX9_note_10 : decode cX9_note 10 = .ok (.iconst (-1), 1) := by decide +kernel
theorem dX9_note_11 : decode cX9_note 11 = .ok (.iconst 3, 1) := by decide +kernel
theorem dX9_note_12 : decode cX9_note 12 = .ok (.invokestatic 97, 3) := by decide +kernel
theorem dX9_note_15 : decode cX9_note 15 = .ok (.ifCond .ne 6, 3) := by decide +kernel
theorem dX9_note_18 : decode cX9_note 18 = .ok (.bipush (-3), 2) := by decide +kernel
theorem dX9_note_20 : decode cX9_note 20 = .ok (.ireturn, 1) := by decide +kernel
theorem dX9_note_21 : decode cX9_note 21 = .ok (.aload_n 0, 1) := by decide +kernel
theorem dX9_note_22 : decode cX9_note 22 = .ok (.getfield 176, 3) := by decide +kernel
theorem dX9_note_25 : decode cX9_note 25 = .ok (.bipush 60, 2) := by decide +kernel
theorem dX9_note_27 : decode cX9_note 27 = .ok (.if_icmp .ne 6, 3) := by decide +kernel
theorem dX9_note_30 : decode cX9_note 30 = .ok (.bipush (-5), 2) := by decide +kernel
theorem dX9_note_32 : decode cX9_note 32 = .ok (.ireturn, 1) := by decide +kernel
theorem dX9_note_33 : decode cX9_note 33 = .ok (.aload_n 0, 1) := by decide +kernel
theorem dX9_note_34 : decode cX9_note 34 = .ok (.getfield 50, 3) := by decide +kernel
theorem dX9_note_37 : decode cX9_note 37 = .ok (.aload_n 0, 1) := by decide +kernel
theorem dX9_note_38 : decode cX9_note 38 = .ok (.getfield 176, 3) := by decide +kernel
theorem dX9_note_41 : decode cX9_note 41 = .ok (.iload_n 3, 1) := by decide +kernel
theorem dX9_note_42 : decode cX9_note 42 = .ok (.ifCond .eq 21, 3) := by decide +kernel
theorem dX9_note_45 : decode cX9_note 45 = .ok (.iload_n 1, 1) := by decide +kernel
theorem dX9_note_46 : decode cX9_note 46 = .ok (.ifCond .lt 17, 3) := by decide +kernel
theorem dX9_note_49 : decode cX9_note 49 = .ok (.iload_n 1, 1) := by decide +kernel
theorem dX9_note_50 : decode cX9_note 50 = .ok (.iconst 2, 1) := by decide +kernel
theorem dX9_note_51 : decode cX9_note 51 = .ok (.idiv, 1) := by decide +kernel
theorem dX9_note_52 : decode cX9_note 52 = .ok (.iconst 2, 1) := by decide +kernel
theorem dX9_note_53 : decode cX9_note 53 = .ok (.imul, 1) := by decide +kernel
theorem dX9_note_54 : decode cX9_note 54 = .ok (.iconst 1, 1) := by decide +kernel
theorem dX9_note_55 : decode cX9_note 55 = .ok (.iadd, 1) := by decide +kernel
theorem dX9_note_56 : decode cX9_note 56 = .ok (.iload_n 1, 1) := by decide +kernel
theorem dX9_note_57 : decode cX9_note 57 = .ok (.iconst 2, 1) := by decide +kernel
theorem dX9_note_58 : decode cX9_note 58 = .ok (.irem, 1) := by decide +kernel
theorem dX9_note_59 : decode cX9_note 59 = .ok (.isub, 1) := by decide +kernel
theorem dX9_note_60 : decode cX9_note 60 = .ok (.goto 4, 3) := by decide +kernel
theorem dX9_note_63 : decode cX9_note 63 = .ok (.iload_n 1, 1) := by decide +kernel
theorem dX9_note_64 : decode cX9_note 64 = .ok (.iastore, 1) := by decide +kernel
theorem dX9_note_65 : decode cX9_note 65 = .ok (.aload_n 0, 1) := by decide +kernel
theorem dX9_note_66 : decode cX9_note 66 = .ok (.getfield 53, 3) := by decide +kernel
theorem dX9_note_69 : decode cX9_note 69 = .ok (.aload_n 0, 1) := by decide +kernel
theorem dX9_note_70 : decode cX9_note 70 = .ok (.getfield 176, 3) := by decide +kernel
theorem dX9_note_73 : decode cX9_note 73 = .ok (.iload_n 2, 1) := by decide +kernel
theorem dX9_note_74 : decode cX9_note 74 = .ok (.iastore, 1) := by decide +kernel
theorem dX9_note_75 : decode cX9_note 75 = .ok (.aload_n 0, 1) := by decide +kernel
theorem dX9_note_76 : decode cX9_note 76 = .ok (.dup, 1) := by decide +kernel
theorem dX9_note_77 : decode cX9_note 77 = .ok (.getfield 176, 3) := by decide +kernel
theorem dX9_note_80 : decode cX9_note 80 = .ok (.iconst 1, 1) := by decide +kernel
theorem dX9_note_81 : decode cX9_note 81 = .ok (.iadd, 1) := by decide +kernel
theorem dX9_note_82 : decode cX9_note 82 = .ok (.putfield 176, 3) := by decide +kernel
theorem dX9_note_85 : decode cX9_note 85 = .ok (.aload_n 0, 1) := by decide +kernel
theorem dX9_note_86 : decode cX9_note 86 = .ok (.getfield 176, 3) := by decide +kernel
theorem dX9_note_89 : decode cX9_note 89 = .ok (.ireturn, 1) := by decide +kernel
theorem dX9_tallyOf_0 : decode cX9_tallyOf 0 = .ok (.iconst 0, 1) := by decide +kernel
theorem dX9_tallyOf_1 : decode cX9_tallyOf 1 = .ok (.istore 4, 2) := by decide +kernel
theorem dX9_tallyOf_3 : decode cX9_tallyOf 3 = .ok (.iconst 0, 1) := by decide +kernel
theorem dX9_tallyOf_4 : decode cX9_tallyOf 4 = .ok (.istore 5, 2) := by decide +kernel
theorem dX9_tallyOf_6 : decode cX9_tallyOf 6 = .ok (.iload 5, 2) := by decide +kernel
theorem dX9_tallyOf_8 : decode cX9_tallyOf 8 = .ok (.aload_n 0, 1) := by decide +kernel
theorem dX9_tallyOf_9 : decode cX9_tallyOf 9 = .ok (.getfield 176, 3) := by decide +kernel
theorem dX9_tallyOf_12 : decode cX9_tallyOf 12 = .ok (.if_icmp .ge 100, 3) := by decide +kernel
theorem dX9_tallyOf_15 : decode cX9_tallyOf 15 = .ok (.aload_n 0, 1) := by decide +kernel
theorem dX9_tallyOf_16 : decode cX9_tallyOf 16 = .ok (.getfield 50, 3) := by decide +kernel
theorem dX9_tallyOf_19 : decode cX9_tallyOf 19 = .ok (.iload 5, 2) := by decide +kernel
theorem dX9_tallyOf_21 : decode cX9_tallyOf 21 = .ok (.iaload, 1) := by decide +kernel
theorem dX9_tallyOf_22 : decode cX9_tallyOf 22 = .ok (.ifCond .lt 17, 3) := by decide +kernel
theorem dX9_tallyOf_25 : decode cX9_tallyOf 25 = .ok (.aload_n 0, 1) := by decide +kernel
theorem dX9_tallyOf_26 : decode cX9_tallyOf 26 = .ok (.getfield 53, 3) := by decide +kernel
theorem dX9_tallyOf_29 : decode cX9_tallyOf 29 = .ok (.iload 5, 2) := by decide +kernel
theorem dX9_tallyOf_31 : decode cX9_tallyOf 31 = .ok (.iaload, 1) := by decide +kernel
theorem dX9_tallyOf_32 : decode cX9_tallyOf 32 = .ok (.ifCond .lt 7, 3) := by decide +kernel
theorem dX9_tallyOf_35 : decode cX9_tallyOf 35 = .ok (.iconst 1, 1) := by decide +kernel
theorem dX9_tallyOf_36 : decode cX9_tallyOf 36 = .ok (.goto 4, 3) := by decide +kernel
theorem dX9_tallyOf_39 : decode cX9_tallyOf 39 = .ok (.iconst 0, 1) := by decide +kernel
theorem dX9_tallyOf_40 : decode cX9_tallyOf 40 = .ok (.istore 6, 2) := by decide +kernel
theorem dX9_tallyOf_42 : decode cX9_tallyOf 42 = .ok (.iload 6, 2) := by decide +kernel
theorem dX9_tallyOf_44 : decode cX9_tallyOf 44 = .ok (.ifCond .eq 44, 3) := by decide +kernel
theorem dX9_tallyOf_47 : decode cX9_tallyOf 47 = .ok (.iload_n 3, 1) := by decide +kernel
theorem dX9_tallyOf_48 : decode cX9_tallyOf 48 = .ok (.iconst 1, 1) := by decide +kernel
theorem dX9_tallyOf_49 : decode cX9_tallyOf 49 = .ok (.if_icmp .gt 14, 3) := by decide +kernel
theorem dX9_tallyOf_52 : decode cX9_tallyOf 52 = .ok (.aload_n 0, 1) := by decide +kernel
theorem dX9_tallyOf_53 : decode cX9_tallyOf 53 = .ok (.getfield 50, 3) := by decide +kernel
theorem dX9_tallyOf_56 : decode cX9_tallyOf 56 = .ok (.iload 5, 2) := by decide +kernel
theorem dX9_tallyOf_58 : decode cX9_tallyOf 58 = .ok (.iaload, 1) := by decide +kernel
theorem dX9_tallyOf_59 : decode cX9_tallyOf 59 = .ok (.iload_n 1, 1) := by decide +kernel
theorem dX9_tallyOf_60 : decode cX9_tallyOf 60 = .ok (.if_icmp .ne 28, 3) := by decide +kernel
theorem dX9_tallyOf_63 : decode cX9_tallyOf 63 = .ok (.iload_n 3, 1) := by decide +kernel
theorem dX9_tallyOf_64 : decode cX9_tallyOf 64 = .ok (.iconst 1, 1) := by decide +kernel
theorem dX9_tallyOf_65 : decode cX9_tallyOf 65 = .ok (.if_icmp .eq 19, 3) := by decide +kernel
theorem dX9_tallyOf_68 : decode cX9_tallyOf 68 = .ok (.iload_n 3, 1) := by decide +kernel
theorem dX9_tallyOf_69 : decode cX9_tallyOf 69 = .ok (.iconst 3, 1) := by decide +kernel
theorem dX9_tallyOf_70 : decode cX9_tallyOf 70 = .ok (.if_icmp .eq 14, 3) := by decide +kernel
theorem dX9_tallyOf_73 : decode cX9_tallyOf 73 = .ok (.aload_n 0, 1) := by decide +kernel
theorem dX9_tallyOf_74 : decode cX9_tallyOf 74 = .ok (.getfield 53, 3) := by decide +kernel
theorem dX9_tallyOf_77 : decode cX9_tallyOf 77 = .ok (.iload 5, 2) := by decide +kernel
theorem dX9_tallyOf_79 : decode cX9_tallyOf 79 = .ok (.iaload, 1) := by decide +kernel
theorem dX9_tallyOf_80 : decode cX9_tallyOf 80 = .ok (.iload_n 2, 1) := by decide +kernel
theorem dX9_tallyOf_81 : decode cX9_tallyOf 81 = .ok (.if_icmp .ne 7, 3) := by decide +kernel
theorem dX9_tallyOf_84 : decode cX9_tallyOf 84 = .ok (.iconst 1, 1) := by decide +kernel
theorem dX9_tallyOf_85 : decode cX9_tallyOf 85 = .ok (.goto 4, 3) := by decide +kernel
theorem dX9_tallyOf_88 : decode cX9_tallyOf 88 = .ok (.iconst 0, 1) := by decide +kernel
theorem dX9_tallyOf_89 : decode cX9_tallyOf 89 = .ok (.istore 6, 2) := by decide +kernel
theorem dX9_tallyOf_91 : decode cX9_tallyOf 91 = .ok (.iload 4, 2) := by decide +kernel
theorem dX9_tallyOf_93 : decode cX9_tallyOf 93 = .ok (.iload 6, 2) := by decide +kernel
theorem dX9_tallyOf_95 : decode cX9_tallyOf 95 = .ok (.ifCond .eq 7, 3) := by decide +kernel
theorem dX9_tallyOf_98 : decode cX9_tallyOf 98 = .ok (.iconst 1, 1) := by decide +kernel
theorem dX9_tallyOf_99 : decode cX9_tallyOf 99 = .ok (.goto 4, 3) := by decide +kernel
theorem dX9_tallyOf_102 : decode cX9_tallyOf 102 = .ok (.iconst 0, 1) := by decide +kernel
theorem dX9_tallyOf_103 : decode cX9_tallyOf 103 = .ok (.iadd, 1) := by decide +kernel
theorem dX9_tallyOf_104 : decode cX9_tallyOf 104 = .ok (.istore 4, 2) := by decide +kernel
theorem dX9_tallyOf_106 : decode cX9_tallyOf 106 = .ok (.iinc 5 1, 3) := by decide +kernel
theorem dX9_tallyOf_109 : decode cX9_tallyOf 109 = .ok (.goto (-103), 3) := by decide +kernel
theorem dX9_tallyOf_112 : decode cX9_tallyOf 112 = .ok (.iload 4, 2) := by decide +kernel
theorem dX9_tallyOf_114 : decode cX9_tallyOf 114 = .ok (.ireturn, 1) := by decide +kernel
set_option maxRecDepth 20000 in
theorem ggX9_tally_X9_in : GoodIn wsX9_tally wsX9_in := goodIn_r _ [4] (by decide +kernel) (by decide +kernel)
set_option maxRecDepth 20000 in
theorem gX9_tally_X9_in : GoodIn wsX9_tally (va_wsS RX9 97 yX9_in wsX9_in) := goodIn_app (goodIn_of _ (by decide +kernel)) ggX9_tally_X9_in
set_option maxRecDepth 20000 in
theorem ggX9_tally_X9_isKind : GoodIn wsX9_tally wsX9_isKind := goodIn_r _ [7, 1, 2, 3, 4] (by decide +kernel) (by decide +kernel)
set_option maxRecDepth 20000 in
theorem gX9_tally_X9_isKind : GoodIn wsX9_tally (va_wsS RX9 105 yX9_isKind wsX9_isKind) := goodIn_app (goodIn_of _ (by decide +kernel)) ggX9_tally_X9_isKind
set_option maxRecDepth 20000 in
theorem ggX9_tally_X9_tallyOf : GoodIn wsX9_tally wsX9_tallyOf := goodIn_r _ [11, 12, 13, 14, 15, 16, 17, 18, 19, 20, 21, 22, 23, 24, 25, 26, 27, 28, 29, 30, 31, 32, 33, 34, 35, 36, 37, 38, 39, 40, 41, 42, 43, 44, 45, 46, 47, 48, 49, 50, 51, 52] (by decide +kernel) (by decide +kernel)
set_option maxRecDepth 20000 in
theorem gX9_tally_X9_tallyOf : GoodIn wsX9_tally (wsV RX9 179 RX9 yX9_tallyOf wsX9_tallyOf) := goodIn_app (goodIn_of _ (by decide +kernel)) ggX9_tally_X9_tallyOf
theorem dX9_tally_0 : decode cX9_tally 0 = .ok (.iload_n 1, 1) := by decide +kernel
theorem dX9_tally_1 : decode cX9_tally 1 = .ok (.iconst 0, 1) := by decide +kernel
theorem dX9_tally_2 : decode cX9_tally 2 = .ok (.iconst 3, 1) := by decide +kernel
theorem dX9_tally_3 : decode cX9_tally 3 = .ok (.invokestatic 97, 3) := by decide +kernel
theorem dX9_tally_6 : decode cX9_tally 6 = .ok (.ifCond .eq 10, 3) := by decide +kernel
theorem dX9_tally_9 : decode cX9_tally 9 = .ok (.iload_n 2, 1) := by decide +kernel
theorem dX9_tally_10 : decode cX9_tally 10 = .ok (.invokestatic 105, 3) := by decide +kernel
theorem dX9_tally_13 : decode cX9_tally 13 = .ok (.ifCond .ne 6, 3) := by decide +kernel
theorem dX9_tally_16 : decode cX9_tally 16 = .ok (.bipush (-2), 2) := by decide +kernel
theorem dX9_tally_18 : decode cX9_tally 18 = .ok (.ireturn, 1) := by decide +kernel
theorem dX9_tally_19 : decode cX9_tally 19 = .ok (.iload_n 3, 1) := by decide +kernel
theorem dX9_tally_20 : decode cX9_tally 20 = .ok (.iconst 0, 1) := by decide +kernel
theorem dX9_tally_21 : decode cX9_tally 21 = .ok (.iconst 3, 1) := by decide +kernel
theorem dX9_tally_22 : decode cX9_tally 22 = .ok (.invokestatic 97, 3) := by decide +kernel
theorem dX9_tally_25 : decode cX9_tally 25 = .ok (.ifCond .eq 13, 3) := by decide +kernel
theorem dX9_tally_28 : decode cX9_tally 28 = .ok (.aload_n 0, 1) := by decide +kernel
theorem dX9_tally_29 : decode cX9_tally 29 = .ok (.iload_n 1, 1) := by decide +kernel
theorem dX9_tally_30 : decode cX9_tally 30 = .ok (.iload_n 2, 1) := by decide +kernel
theorem dX9_tally_31 : decode cX9_tally 31 = .ok (.iload_n 3, 1) := by decide +kernel
theorem dX9_tally_32 : decode cX9_tally 32 = .ok (.invokevirtual 179, 3) := by decide +kernel
theorem dX9_tally_35 : decode cX9_tally 35 = .ok (.goto 5, 3) := by decide +kernel
theorem dX9_tally_38 : decode cX9_tally 38 = .ok (.bipush (-3), 2) := by decide +kernel
theorem dX9_tally_40 : decode cX9_tally 40 = .ok (.ireturn, 1) := by decide +kernel
set_option maxRecDepth 20000 in
theorem ggX9_isTried_X9_tallyOf : GoodIn wsX9_isTried wsX9_tallyOf := goodIn_r _ [5, 6, 7, 8, 9, 10, 11, 12, 13, 14, 15, 16, 17, 18, 19, 20, 21, 22, 23, 24, 25, 26, 27, 28, 29, 30, 31, 32, 33, 34, 35, 36, 37, 38, 39, 40, 41, 42, 43, 44, 45, 46] (by decide +kernel) (by decide +kernel)
set_option maxRecDepth 20000 in
theorem gX9_isTried_X9_tallyOf : GoodIn wsX9_isTried (wsV RX9 179 RX9 yX9_tallyOf wsX9_tallyOf) := goodIn_app (goodIn_of _ (by decide +kernel)) ggX9_isTried_X9_tallyOf
theorem dX9_isTried_0 : decode cX9_isTried 0 = .ok (.aload_n 0, 1) := by decide +kernel
theorem dX9_isTried_1 : decode cX9_isTried 1 = .ok (.iload_n 1, 1) := by decide +kernel
theorem dX9_isTried_2 : decode cX9_isTried 2 = .ok (.iload_n 2, 1) := by decide +kernel
theorem dX9_isTried_3 : decode cX9_isTried 3 = .ok (.iconst 1, 1) := by decide +kernel
theorem dX9_isTried_4 : decode cX9_isTried 4 = .ok (.invokevirtual 179, 3) := by decide +kernel
theorem dX9_isTried_7 : decode cX9_isTried 7 = .ok (.ifCond .le 17, 3) := by decide +kernel
theorem dX9_isTried_10 : decode cX9_isTried 10 = .ok (.aload_n 0, 1) := by decide +kernel
theorem dX9_isTried_11 : decode cX9_isTried 11 = .ok (.iload_n 1, 1) := by decide +kernel
theorem dX9_isTried_12 : decode cX9_isTried 12 = .ok (.iload_n 2, 1) := by decide +kernel
theorem dX9_isTried_13 : decode cX9_isTried 13 = .ok (.iconst 2, 1) := by decide +kernel
theorem dX9_isTried_14 : decode cX9_isTried 14 = .ok (.invokevirtual 179, 3) := by decide +kernel
theorem dX9_isTried_17 : decode cX9_isTried 17 = .ok (.ifCond .le 7, 3) := by decide +kernel
theorem dX9_isTried_20 : decode cX9_isTried 20 = .ok (.iconst 1, 1) := by decide +kernel
theorem dX9_isTried_21 : decode cX9_isTried 21 = .ok (.goto 4, 3) := by decide +kernel
theorem dX9_isTried_24 : decode cX9_isTried 24 = .ok (.iconst 0, 1) := by decide +kernel
theorem dX9_isTried_25 : decode cX9_isTried 25 = .ok (.ireturn, 1) := by decide +kernel
set_option maxRecDepth 20000 in
theorem ggX9_triedMany_X9_isTried : GoodIn wsX9_triedMany wsX9_isTried := goodIn_r _ [5, 6, 7, 8, 4, 9, 10, 11, 12, 13, 14, 15, 16, 17, 18, 19, 20, 21, 22, 23, 24, 25, 26, 27, 28, 29, 30, 31, 32, 33, 34, 35, 36, 37, 38, 39, 40, 41, 42, 43, 44, 45, 46, 47, 48, 49, 50] (by decide +kernel) (by decide +kernel)
set_option maxRecDepth 20000 in
theorem gX9_triedMany_X9_isTried : GoodIn wsX9_triedMany (wsV RX9 182 RX9 yX9_isTried wsX9_isTried) := goodIn_app (goodIn_of _ (by decide +kernel)) ggX9_triedMany_X9_isTried
theorem dX9_triedMany_0 : decode cX9_triedMany 0 = .ok (.iconst 0, 1) := by decide +kernel
theorem dX9_triedMany_1 : decode cX9_triedMany 1 = .ok (.istore_n 1, 1) := by decide +kernel
theorem dX9_triedMany_2 : decode cX9_triedMany 2 = .ok (.iconst 0, 1) := by decide +kernel
theorem dX9_triedMany_3 : decode cX9_triedMany 3 = .ok (.istore_n 2, 1) := by decide +kernel
theorem dX9_triedMany_4 : decode cX9_triedMany 4 = .ok (.iload_n 2, 1) := by decide +kernel
theorem dX9_triedMany_5 : decode cX9_triedMany 5 = .ok (.bipush 16, 2) := by decide +kernel
theorem dX9_triedMany_7 : decode cX9_triedMany 7 = .ok (.if_icmp .ge 30, 3) := by decide +kernel
theorem dX9_triedMany_10 : decode cX9_triedMany 10 = .ok (.iload_n 1, 1) := by decide +kernel
theorem dX9_triedMany_11 : decode cX9_triedMany 11 = .ok (.aload_n 0, 1) := by decide +kernel
theorem dX9_triedMany_12 : decode cX9_triedMany 12 = .ok (.iload_n 2, 1) := by decide +kernel
theorem dX9_triedMany_13 : decode cX9_triedMany 13 = .ok (.iconst 4, 1) := by decide +kernel
theorem dX9_triedMany_14 : decode cX9_triedMany 14 = .ok (.idiv, 1) := by decide +kernel
theorem dX9_triedMany_15 : decode cX9_triedMany 15 = .ok (.iload_n 2, 1) := by decide +kernel
theorem dX9_triedMany_16 : decode cX9_triedMany 16 = .ok (.iconst 4, 1) := by decide +kernel
theorem dX9_triedMany_17 : decode cX9_triedMany 17 = .ok (.irem, 1) := by decide +kernel
theorem dX9_triedMany_18 : decode cX9_triedMany 18 = .ok (.invokevirtual 182, 3) := by decide +kernel
theorem dX9_triedMany_21 : decode cX9_triedMany 21 = .ok (.ifCond .eq 7, 3) := by decide +kernel
theorem dX9_triedMany_24 : decode cX9_triedMany 24 = .ok (.iconst 1, 1) := by decide +kernel
theorem dX9_triedMany_25 : decode cX9_triedMany 25 = .ok (.goto 4, 3) := by decide +kernel
theorem dX9_triedMany_28 : decode cX9_triedMany 28 = .ok (.iconst 0, 1) := by decide +kernel
theorem dX9_triedMany_29 : decode cX9_triedMany 29 = .ok (.iadd, 1) := by decide +kernel
theorem dX9_triedMany_30 : decode cX9_triedMany 30 = .ok (.istore_n 1, 1) := by decide +kernel
theorem dX9_triedMany_31 : decode cX9_triedMany 31 = .ok (.iinc 2 1, 3) := by decide +kernel
theorem dX9_triedMany_34 : decode cX9_triedMany 34 = .ok (.goto (-30), 3) := by decide +kernel
theorem dX9_triedMany_37 : decode cX9_triedMany 37 = .ok (.iload_n 1, 1) := by decide +kernel
theorem dX9_triedMany_38 : decode cX9_triedMany 38 = .ok (.ireturn, 1) := by decide +kernel
theorem dX9_choose_0 : decode cX9_choose 0 = .ok (.iload_n 2, 1) := by decide +kernel
theorem dX9_choose_1 : decode cX9_choose 1 = .ok (.ifCond .lt 8, 3) := by decide +kernel
theorem dX9_choose_4 : decode cX9_choose 4 = .ok (.iload_n 2, 1) := by decide +kernel
theorem dX9_choose_5 : decode cX9_choose 5 = .ok (.iload_n 1, 1) := by decide +kernel
theorem dX9_choose_6 : decode cX9_choose 6 = .ok (.if_icmp .le 5, 3) := by decide +kernel
theorem dX9_choose_9 : decode cX9_choose 9 = .ok (.lconst 0, 1) := by decide +kernel
theorem dX9_choose_10 : decode cX9_choose 10 = .ok (.lreturn, 1) := by decide +kernel
theorem dX9_choose_11 : decode cX9_choose 11 = .ok (.iconst 0, 1) := by decide +kernel
theorem dX9_choose_12 : decode cX9_choose 12 = .ok (.istore_n 3, 1) := by decide +kernel
theorem dX9_choose_13 : decode cX9_choose 13 = .ok (.iload_n 3, 1) := by decide +kernel
theorem dX9_choose_14 : decode cX9_choose 14 = .ok (.bipush 60, 2) := by decide +kernel
theorem dX9_choose_16 : decode cX9_choose 16 = .ok (.if_icmp .gt 24, 3) := by decide +kernel
theorem dX9_choose_19 : decode cX9_choose 19 = .ok (.aload_n 0, 1) := by decide +kernel
theorem dX9_choose_20 : decode cX9_choose 20 = .ok (.getfield 56, 3) := by decide +kernel
theorem dX9_choose_23 : decode cX9_choose 23 = .ok (.iload_n 3, 1) := by decide +kernel
theorem dX9_choose_24 : decode cX9_choose 24 = .ok (.iload_n 3, 1) := by decide +kernel
theorem dX9_choose_25 : decode cX9_choose 25 = .ok (.ifCond .ne 7, 3) := by decide +kernel
theorem dX9_choose_28 : decode cX9_choose 28 = .ok (.lconst 1, 1) := by decide +kernel
theorem dX9_choose_29 : decode cX9_choose 29 = .ok (.goto 4, 3) := by decide +kernel
theorem dX9_choose_32 : decode cX9_choose 32 = .ok (.lconst 0, 1) := by decide +kernel
theorem dX9_choose_33 : decode cX9_choose 33 = .ok (.lastore, 1) := by decide +kernel
theorem dX9_choose_34 : decode cX9_choose 34 = .ok (.iinc 3 1, 3) := by decide +kernel
theorem dX9_choose_37 : decode cX9_choose 37 = .ok (.goto (-24), 3) := by decide +kernel
theorem dX9_choose_40 : decode cX9_choose 40 = .ok (.iconst 1, 1) := by decide +kernel
theorem dX9_choose_41 : decode cX9_choose 41 = .ok (.istore_n 3, 1) := by decide +kernel
theorem dX9_choose_42 : decode cX9_choose 42 = .ok (.iload_n 3, 1) := by decide +kernel
theorem dX9_choose_43 : decode cX9_choose 43 = .ok (.iload_n 1, 1) := by decide +kernel
theorem dX9_choose_44 : decode cX9_choose 44 = .ok (.if_icmp .gt 42, 3) := by decide +kernel
theorem dX9_choose_47 : decode cX9_choose 47 = .ok (.iload_n 3, 1) := by decide +kernel
theorem dX9_choose_48 : decode cX9_choose 48 = .ok (.istore 4, 2) := by decide +kernel
theorem dX9_choose_50 : decode cX9_choose 50 = .ok (.iload 4, 2) := by decide +kernel
theorem dX9_choose_52 : decode cX9_choose 52 = .ok (.ifCond .le 28, 3) := by decide +kernel
theorem dX9_choose_55 : decode cX9_choose 55 = .ok (.aload_n 0, 1) := by decide +kernel
theorem dX9_choose_56 : decode cX9_choose 56 = .ok (.getfield 56, 3) := by decide +kernel
theorem dX9_choose_59 : decode cX9_choose 59 = .ok (.iload 4, 2) := by decide +kernel
theorem dX9_choose_61 : decode cX9_choose 61 = .ok (.dup2, 1) := by decide +kernel
theorem dX9_choose_62 : decode cX9_choose 62 = .ok (.laload, 1) := by decide +kernel
theorem dX9_choose_63 : decode cX9_choose 63 = .ok (.aload_n 0, 1) := by decide +kernel
theorem dX9_choose_64 : decode cX9_choose 64 = .ok (.getfield 56, 3) := by decide +kernel
theorem dX9_choose_67 : decode cX9_choose 67 = .ok (.iload 4, 2) := by decide +kernel
theorem dX9_choose_69 : decode cX9_choose 69 = .ok (.iconst 1, 1) := by decide +kernel
theorem dX9_choose_70 : decode cX9_choose 70 = .ok (.isub, 1) := by decide +kernel
theorem dX9_choose_71 : decode cX9_choose 71 = .ok (.laload, 1) := by decide +kernel
theorem dX9_choose_72 : decode cX9_choose 72 = .ok (.ladd, 1) := by decide +kernel
theorem dX9_choose_73 : decode cX9_choose 73 = .ok (.lastore, 1) := by decide +kernel
theorem dX9_choose_74 : decode cX9_choose 74 = .ok (.iinc 4 (-1), 3) := by decide +kernel
theorem dX9_choose_77 : decode cX9_choose 77 = .ok (.goto (-27), 3) := by decide +kernel
theorem dX9_choose_80 : decode cX9_choose 80 = .ok (.iinc 3 1, 3) := by decide +kernel
theorem dX9_choose_83 : decode cX9_choose 83 = .ok (.goto (-41), 3) := by decide +kernel
theorem dX9_choose_86 : decode cX9_choose 86 = .ok (.aload_n 0, 1) := by decide +kernel
theorem dX9_choose_87 : decode cX9_choose 87 = .ok (.getfield 56, 3) := by decide +kernel
theorem dX9_choose_90 : decode cX9_choose 90 = .ok (.iload_n 2, 1) := by decide +kernel
theorem dX9_choose_91 : decode cX9_choose 91 = .ok (.laload, 1) := by decide +kernel
theorem dX9_choose_92 : decode cX9_choose 92 = .ok (.lreturn, 1) := by decide +kernel
set_option maxRecDepth 20000 in
theorem ggX9_isPast_X9_isTried : GoodIn wsX9_isPast wsX9_isTried := goodIn_r _ [6, 7, 8, 9, 5, 10, 11, 12, 13, 23, 24, 25, 26, 27, 28, 29, 30, 31, 32, 33, 34, 35, 36, 37, 38, 39, 40, 41, 42, 43, 44, 45, 46, 47, 48, 49, 50, 51, 52, 53, 54, 55, 56, 57, 58, 59, 60] (by decide +kernel) (by decide +kernel)
set_option maxRecDepth 20000 in
theorem gX9_isPast_X9_isTried : GoodIn wsX9_isPast (wsV RX9 182 RX9 yX9_isTried wsX9_isTried) := goodIn_app (goodIn_of _ (by decide +kernel)) ggX9_isPast_X9_isTried
set_option maxRecDepth 20000 in
theorem ggX9_isPast_X9_tallyOf : GoodIn wsX9_isPast wsX9_tallyOf := goodIn_r _ [10, 11, 12, 13, 23, 24, 25, 26, 27, 28, 29, 30, 31, 32, 33, 34, 35, 36, 37, 38, 39, 40, 41, 42, 43, 44, 45, 46, 47, 48, 49, 50, 51, 52, 53, 54, 55, 56, 57, 58, 59, 60] (by decide +kernel) (by decide +kernel)
set_option maxRecDepth 20000 in
theorem gX9_isPast_X9_tallyOf : GoodIn wsX9_isPast (wsV RX9 179 RX9 yX9_tallyOf wsX9_tallyOf) := goodIn_app (goodIn_of _ (by decide +kernel)) ggX9_isPast_X9_tallyOf
set_option maxRecDepth 20000 in
theorem ggX9_isPast_X9_choose : GoodIn wsX9_isPast wsX9_choose := goodIn_r _ [17, 18, 23, 24, 25, 26, 27, 28, 29, 30, 31, 32, 33, 34, 35, 36, 37, 38, 39, 40, 41, 42, 43, 44, 45, 46, 47, 48, 49, 50, 51, 52, 53, 54, 55, 56, 57, 58, 59, 60] (by decide +kernel) (by decide +kernel)
set_option maxRecDepth 20000 in
theorem gX9_isPast_X9_choose : GoodIn wsX9_isPast (wsV RX9 185 RX9 yX9_choose wsX9_choose) := goodIn_app (goodIn_of _ (by decide +kernel)) ggX9_isPast_X9_choose
set_option maxRecDepth 20000 in
theorem ggX9_isPast_X9_triedMany : GoodIn wsX9_isPast wsX9_triedMany := goodIn_r _ [22, 2, 3, 4, 5, 6, 7, 8, 9, 10, 11, 12, 13, 23, 24, 25, 26, 27, 28, 29, 30, 31, 32, 33, 34, 35, 36, 37, 38, 39, 40, 41, 42, 43, 44, 45, 46, 47, 48, 49, 50, 51, 52, 53, 54, 55, 56, 57, 58, 59, 60] (by decide +kernel) (by decide +kernel)
set_option maxRecDepth 20000 in
theorem gX9_isPast_X9_triedMany : GoodIn wsX9_isPast (wsV RX9 191 RX9 yX9_triedMany wsX9_triedMany) := goodIn_app (goodIn_of _ (by decide +kernel)) ggX9_isPast_X9_triedMany
theorem dX9_isPast_0 : decode cX9_isPast 0 = .ok (.aload_n 0, 1) := by decide +kernel
theorem dX9_isPast_1 : decode cX9_isPast 1 = .ok (.iload_n 1, 1) := by decide +kernel
theorem dX9_isPast_2 : decode cX9_isPast 2 = .ok (.iload_n 2, 1) := by decide +kernel
theorem dX9_isPast_3 : decode cX9_isPast 3 = .ok (.invokevirtual 182, 3) := by decide +kernel
theorem dX9_isPast_6 : decode cX9_isPast 6 = .ok (.ifCond .ne 5, 3) := by decide +kernel
theorem dX9_isPast_9 : decode cX9_isPast 9 = .ok (.iconst 0, 1) := by decide +kernel
theorem dX9_isPast_10 : decode cX9_isPast 10 = .ok (.ireturn, 1) := by decide +kernel
theorem dX9_isPast_11 : decode cX9_isPast 11 = .ok (.aload_n 0, 1) := by decide +kernel
theorem dX9_isPast_12 : decode cX9_isPast 12 = .ok (.iload_n 1, 1) := by decide +kernel
theorem dX9_isPast_13 : decode cX9_isPast 13 = .ok (.iload_n 2, 1) := by decide +kernel
theorem dX9_isPast_14 : decode cX9_isPast 14 = .ok (.iconst 0, 1) := by decide +kernel
theorem dX9_isPast_15 : decode cX9_isPast 15 = .ok (.invokevirtual 179, 3) := by decide +kernel
theorem dX9_isPast_18 : decode cX9_isPast 18 = .ok (.istore_n 3, 1) := by decide +kernel
theorem dX9_isPast_19 : decode cX9_isPast 19 = .ok (.aload_n 0, 1) := by decide +kernel
theorem dX9_isPast_20 : decode cX9_isPast 20 = .ok (.iload_n 1, 1) := by decide +kernel
theorem dX9_isPast_21 : decode cX9_isPast 21 = .ok (.iload_n 2, 1) := by decide +kernel
theorem dX9_isPast_22 : decode cX9_isPast 22 = .ok (.iconst 1, 1) := by decide +kernel
theorem dX9_isPast_23 : decode cX9_isPast 23 = .ok (.invokevirtual 179, 3) := by decide +kernel
theorem dX9_isPast_26 : decode cX9_isPast 26 = .ok (.istore 4, 2) := by decide +kernel
theorem dX9_isPast_28 : decode cX9_isPast 28 = .ok (.aload_n 0, 1) := by decide +kernel
theorem dX9_isPast_29 : decode cX9_isPast 29 = .ok (.iload_n 1, 1) := by decide +kernel
theorem dX9_isPast_30 : decode cX9_isPast 30 = .ok (.iload_n 2, 1) := by decide +kernel
theorem dX9_isPast_31 : decode cX9_isPast 31 = .ok (.iconst 2, 1) := by decide +kernel
theorem dX9_isPast_32 : decode cX9_isPast 32 = .ok (.invokevirtual 179, 3) := by decide +kernel
theorem dX9_isPast_35 : decode cX9_isPast 35 = .ok (.istore 5, 2) := by decide +kernel
theorem dX9_isPast_37 : decode cX9_isPast 37 = .ok (.aload_n 0, 1) := by decide +kernel
theorem dX9_isPast_38 : decode cX9_isPast 38 = .ok (.iload_n 1, 1) := by decide +kernel
theorem dX9_isPast_39 : decode cX9_isPast 39 = .ok (.iload_n 2, 1) := by decide +kernel
theorem dX9_isPast_40 : decode cX9_isPast 40 = .ok (.iconst 3, 1) := by decide +kernel
theorem dX9_isPast_41 : decode cX9_isPast 41 = .ok (.invokevirtual 179, 3) := by decide +kernel
theorem dX9_isPast_44 : decode cX9_isPast 44 = .ok (.istore 6, 2) := by decide +kernel
theorem dX9_isPast_46 : decode cX9_isPast 46 = .ok (.lconst 0, 1) := by decide +kernel
theorem dX9_isPast_47 : decode cX9_isPast 47 = .ok (.lstore 7, 2) := by decide +kernel
theorem dX9_isPast_49 : decode cX9_isPast 49 = .ok (.iload_n 3, 1) := by decide +kernel
theorem dX9_isPast_50 : decode cX9_isPast 50 = .ok (.istore 9, 2) := by decide +kernel
theorem dX9_isPast_52 : decode cX9_isPast 52 = .ok (.iload 9, 2) := by decide +kernel
theorem dX9_isPast_54 : decode cX9_isPast 54 = .ok (.iload 4, 2) := by decide +kernel
theorem dX9_isPast_56 : decode cX9_isPast 56 = .ok (.if_icmp .gt 44, 3) := by decide +kernel
theorem dX9_isPast_59 : decode cX9_isPast 59 = .ok (.iload 9, 2) := by decide +kernel
theorem dX9_isPast_61 : decode cX9_isPast 61 = .ok (.iload 5, 2) := by decide +kernel
theorem dX9_isPast_63 : decode cX9_isPast 63 = .ok (.if_icmp .gt 37, 3) := by decide +kernel
theorem dX9_isPast_66 : decode cX9_isPast 66 = .ok (.lload 7, 2) := by decide +kernel
theorem dX9_isPast_68 : decode cX9_isPast 68 = .ok (.aload_n 0, 1) := by decide +kernel
theorem dX9_isPast_69 : decode cX9_isPast 69 = .ok (.iload 5, 2) := by decide +kernel
theorem dX9_isPast_71 : decode cX9_isPast 71 = .ok (.iload 9, 2) := by decide +kernel
theorem dX9_isPast_73 : decode cX9_isPast 73 = .ok (.invokevirtual 185, 3) := by decide +kernel
theorem dX9_isPast_76 : decode cX9_isPast 76 = .ok (.aload_n 0, 1) := by decide +kernel
theorem dX9_isPast_77 : decode cX9_isPast 77 = .ok (.iload 6, 2) := by decide +kernel
theorem dX9_isPast_79 : decode cX9_isPast 79 = .ok (.iload 5, 2) := by decide +kernel
theorem dX9_isPast_81 : decode cX9_isPast 81 = .ok (.isub, 1) := by decide +kernel
theorem dX9_isPast_82 : decode cX9_isPast 82 = .ok (.iload 4, 2) := by decide +kernel
theorem dX9_isPast_84 : decode cX9_isPast 84 = .ok (.iload 9, 2) := by decide +kernel
theorem dX9_isPast_86 : decode cX9_isPast 86 = .ok (.isub, 1) := by decide +kernel
theorem dX9_isPast_87 : decode cX9_isPast 87 = .ok (.invokevirtual 185, 3) := by decide +kernel
theorem dX9_isPast_90 : decode cX9_isPast 90 = .ok (.lmul, 1) := by decide +kernel
theorem dX9_isPast_91 : decode cX9_isPast 91 = .ok (.ladd, 1) := by decide +kernel
theorem dX9_isPast_92 : decode cX9_isPast 92 = .ok (.lstore 7, 2) := by decide +kernel
theorem dX9_isPast_94 : decode cX9_isPast 94 = .ok (.iinc 9 1, 3) := by decide +kernel
theorem dX9_isPast_97 : decode cX9_isPast 97 = .ok (.goto (-45), 3) := by decide +kernel
theorem dX9_isPast_100 : decode cX9_isPast 100 = .ok (.lload 7, 2) := by decide +kernel
theorem dX9_isPast_102 : decode cX9_isPast 102 = .ok (.aload_n 0, 1) := by decide +kernel
theorem dX9_isPast_103 : decode cX9_isPast 103 = .ok (.iload 6, 2) := by decide +kernel
theorem dX9_isPast_105 : decode cX9_isPast 105 = .ok (.iload 4, 2) := by decide +kernel
theorem dX9_isPast_107 : decode cX9_isPast 107 = .ok (.invokevirtual 185, 3) := by decide +kernel
theorem dX9_isPast_110 : decode cX9_isPast 110 = .ok (.ldc2_w 189, 3) := by decide +kernel
theorem dX9_isPast_113 : decode cX9_isPast 113 = .ok (.aload_n 0, 1) := by decide +kernel
theorem dX9_isPast_114 : decode cX9_isPast 114 = .ok (.invokevirtual 191, 3) := by decide +kernel
theorem dX9_isPast_117 : decode cX9_isPast 117 = .ok (.i2l, 1) := by decide +kernel
theorem dX9_isPast_118 : decode cX9_isPast 118 = .ok (.lmul, 1) := by decide +kernel
theorem dX9_isPast_119 : decode cX9_isPast 119 = .ok (.ldiv, 1) := by decide +kernel
theorem dX9_isPast_120 : decode cX9_isPast 120 = .ok (.lcmp, 1) := by decide +kernel
theorem dX9_isPast_121 : decode cX9_isPast 121 = .ok (.ifCond .gt 7, 3) := by decide +kernel
theorem dX9_isPast_124 : decode cX9_isPast 124 = .ok (.iconst 1, 1) := by decide +kernel
theorem dX9_isPast_125 : decode cX9_isPast 125 = .ok (.goto 4, 3) := by decide +kernel
theorem dX9_isPast_128 : decode cX9_isPast 128 = .ok (.iconst 0, 1) := by decide +kernel
theorem dX9_isPast_129 : decode cX9_isPast 129 = .ok (.ireturn, 1) := by decide +kernel
set_option maxRecDepth 20000 in
theorem ggX9_habit_X9_in : GoodIn wsX9_habit wsX9_in := goodIn_r _ [4] (by decide +kernel) (by decide +kernel)
set_option maxRecDepth 20000 in
theorem gX9_habit_X9_in : GoodIn wsX9_habit (va_wsS RX9 97 yX9_in wsX9_in) := goodIn_app (goodIn_of _ (by decide +kernel)) ggX9_habit_X9_in
set_option maxRecDepth 20000 in
theorem ggX9_habit_X9_isKind : GoodIn wsX9_habit wsX9_isKind := goodIn_r _ [7, 1, 2, 3, 4] (by decide +kernel) (by decide +kernel)
set_option maxRecDepth 20000 in
theorem gX9_habit_X9_isKind : GoodIn wsX9_habit (va_wsS RX9 105 yX9_isKind wsX9_isKind) := goodIn_app (goodIn_of _ (by decide +kernel)) ggX9_habit_X9_isKind
set_option maxRecDepth 20000 in
theorem ggX9_habit_X9_isPast : GoodIn wsX9_habit wsX9_isPast := goodIn_r _ [11, 12, 13, 14, 15, 3, 16, 17, 18, 19, 20, 21, 22, 23, 24, 25, 26, 27, 28, 29, 30, 31, 32, 33, 34, 35, 36, 37, 38, 39, 40, 41, 42, 43, 44, 45, 46, 47, 48, 49, 50, 51, 52, 53, 54, 55, 56, 57, 58, 59, 60, 61, 62, 63, 64, 65, 66, 67, 68, 69, 70] (by decide +kernel) (by decide +kernel)
set_option maxRecDepth 20000 in
theorem gX9_habit_X9_isPast : GoodIn wsX9_habit (wsV RX9 194 RX9 yX9_isPast wsX9_isPast) := goodIn_app (goodIn_of _ (by decide +kernel)) ggX9_habit_X9_isPast
theorem dX9_habit_0 : decode cX9_habit 0 = .ok (.iload_n 1, 1) := by decide +kernel
theorem dX9_habit_1 : decode cX9_habit 1 = .ok (.iconst 0, 1) := by decide +kernel
theorem dX9_habit_2 : decode cX9_habit 2 = .ok (.iconst 3, 1) := by decide +kernel
theorem dX9_habit_3 : decode cX9_habit 3 = .ok (.invokestatic 97, 3) := by decide +kernel
theorem dX9_habit_6 : decode cX9_habit 6 = .ok (.ifCond .eq 10, 3) := by decide +kernel
theorem dX9_habit_9 : decode cX9_habit 9 = .ok (.iload_n 2, 1) := by decide +kernel
theorem dX9_habit_10 : decode cX9_habit 10 = .ok (.invokestatic 105, 3) := by decide +kernel
theorem dX9_habit_13 : decode cX9_habit 13 = .ok (.ifCond .ne 6, 3) := by decide +kernel
theorem dX9_habit_16 : decode cX9_habit 16 = .ok (.bipush (-2), 2) := by decide +kernel
theorem dX9_habit_18 : decode cX9_habit 18 = .ok (.ireturn, 1) := by decide +kernel
theorem dX9_habit_19 : decode cX9_habit 19 = .ok (.aload_n 0, 1) := by decide +kernel
theorem dX9_habit_20 : decode cX9_habit 20 = .ok (.iload_n 1, 1) := by decide +kernel
theorem dX9_habit_21 : decode cX9_habit 21 = .ok (.iload_n 2, 1) := by decide +kernel
theorem dX9_habit_22 : decode cX9_habit 22 = .ok (.invokevirtual 194, 3) := by decide +kernel
theorem dX9_habit_25 : decode cX9_habit 25 = .ok (.ifCond .eq 7, 3) := by decide +kernel
theorem dX9_habit_28 : decode cX9_habit 28 = .ok (.iconst 1, 1) := by decide +kernel
theorem dX9_habit_29 : decode cX9_habit 29 = .ok (.goto 4, 3) := by decide +kernel
theorem dX9_habit_32 : decode cX9_habit 32 = .ok (.iconst 0, 1) := by decide +kernel
theorem dX9_habit_33 : decode cX9_habit 33 = .ok (.ireturn, 1) := by decide +kernel
set_option maxRecDepth 20000 in
theorem ggX9_strongest_X9_isPast : GoodIn wsX9_strongest wsX9_isPast := goodIn_r _ [5, 6, 7, 8, 9, 4, 10, 11, 12, 13, 14, 15, 16, 17, 18, 19, 20, 21, 22, 23, 24, 25, 26, 27, 28, 29, 30, 31, 32, 33, 34, 35, 36, 37, 38, 39, 40, 41, 42, 43, 44, 45, 46, 47, 48, 49, 50, 51, 52, 53, 54, 55, 56, 57, 58, 59, 60, 61, 62, 63, 64] (by decide +kernel) (by decide +kernel)
set_option maxRecDepth 20000 in
theorem gX9_strongest_X9_isPast : GoodIn wsX9_strongest (wsV RX9 194 RX9 yX9_isPast wsX9_isPast) := goodIn_app (goodIn_of _ (by decide +kernel)) ggX9_strongest_X9_isPast
set_option maxRecDepth 20000 in
theorem ggX9_strongest_X9_tallyOf : GoodIn wsX9_strongest wsX9_tallyOf := goodIn_r _ [14, 15, 16, 17, 27, 28, 29, 30, 31, 32, 33, 34, 35, 36, 37, 38, 39, 40, 41, 42, 43, 44, 45, 46, 47, 48, 49, 50, 51, 52, 53, 54, 55, 56, 57, 58, 59, 60, 61, 62, 63, 64] (by decide +kernel) (by decide +kernel)
set_option maxRecDepth 20000 in
theorem gX9_strongest_X9_tallyOf : GoodIn wsX9_strongest (wsV RX9 179 RX9 yX9_tallyOf wsX9_tallyOf) := goodIn_app (goodIn_of _ (by decide +kernel)) ggX9_strongest_X9_tallyOf
theorem dX9_strongest_0 : decode cX9_strongest 0 = .ok (.iconst (-1), 1) := by decide +kernel
theorem dX9_strongest_1 : decode cX9_strongest 1 = .ok (.istore_n 1, 1) := by decide +kernel
theorem dX9_strongest_2 : decode cX9_strongest 2 = .ok (.iconst 0, 1) := by decide +kernel
theorem dX9_strongest_3 : decode cX9_strongest 3 = .ok (.istore_n 2, 1) := by decide +kernel
theorem dX9_strongest_4 : decode cX9_strongest 4 = .ok (.iload_n 2, 1) := by decide +kernel
theorem dX9_strongest_5 : decode cX9_strongest 5 = .ok (.bipush 16, 2) := by decide +kernel
theorem dX9_strongest_7 : decode cX9_strongest 7 = .ok (.if_icmp .ge 88, 3) := by decide +kernel
theorem dX9_strongest_10 : decode cX9_strongest 10 = .ok (.aload_n 0, 1) := by decide +kernel
theorem dX9_strongest_11 : decode cX9_strongest 11 = .ok (.iload_n 2, 1) := by decide +kernel
theorem dX9_strongest_12 : decode cX9_strongest 12 = .ok (.iconst 4, 1) := by decide +kernel
theorem dX9_strongest_13 : decode cX9_strongest 13 = .ok (.idiv, 1) := by decide +kernel
theorem dX9_strongest_14 : decode cX9_strongest 14 = .ok (.iload_n 2, 1) := by decide +kernel
theorem dX9_strongest_15 : decode cX9_strongest 15 = .ok (.iconst 4, 1) := by decide +kernel
theorem dX9_strongest_16 : decode cX9_strongest 16 = .ok (.irem, 1) := by decide +kernel
theorem dX9_strongest_17 : decode cX9_strongest 17 = .ok (.invokevirtual 194, 3) := by decide +kernel
theorem dX9_strongest_20 : decode cX9_strongest 20 = .ok (.ifCond .eq 69, 3) := by decide +kernel
theorem dX9_strongest_23 : decode cX9_strongest 23 = .ok (.aload_n 0, 1) := by decide +kernel
theorem dX9_strongest_24 : decode cX9_strongest 24 = .ok (.iload_n 2, 1) := by decide +kernel
theorem dX9_strongest_25 : decode cX9_strongest 25 = .ok (.iconst 4, 1) := by decide +kernel
theorem dX9_strongest_26 : decode cX9_strongest 26 = .ok (.idiv, 1) := by decide +kernel
theorem dX9_strongest_27 : decode cX9_strongest 27 = .ok (.iload_n 2, 1) := by decide +kernel
theorem dX9_strongest_28 : decode cX9_strongest 28 = .ok (.iconst 4, 1) := by decide +kernel
theorem dX9_strongest_29 : decode cX9_strongest 29 = .ok (.irem, 1) := by decide +kernel
theorem dX9_strongest_30 : decode cX9_strongest 30 = .ok (.iconst 0, 1) := by decide +kernel
theorem dX9_strongest_31 : decode cX9_strongest 31 = .ok (.invokevirtual 179, 3) := by decide +kernel
theorem dX9_strongest_34 : decode cX9_strongest 34 = .ok (.istore_n 3, 1) := by decide +kernel
theorem dX9_strongest_35 : decode cX9_strongest 35 = .ok (.aload_n 0, 1) := by decide +kernel
theorem dX9_strongest_36 : decode cX9_strongest 36 = .ok (.iload_n 2, 1) := by decide +kernel
theorem dX9_strongest_37 : decode cX9_strongest 37 = .ok (.iconst 4, 1) := by decide +kernel
theorem dX9_strongest_38 : decode cX9_strongest 38 = .ok (.idiv, 1) := by decide +kernel
theorem dX9_strongest_39 : decode cX9_strongest 39 = .ok (.iload_n 2, 1) := by decide +kernel
theorem dX9_strongest_40 : decode cX9_strongest 40 = .ok (.iconst 4, 1) := by decide +kernel
theorem dX9_strongest_41 : decode cX9_strongest 41 = .ok (.irem, 1) := by decide +kernel
theorem dX9_strongest_42 : decode cX9_strongest 42 = .ok (.iconst 1, 1) := by decide +kernel
theorem dX9_strongest_43 : decode cX9_strongest 43 = .ok (.invokevirtual 179, 3) := by decide +kernel
theorem dX9_strongest_46 : decode cX9_strongest 46 = .ok (.istore 4, 2) := by decide +kernel
theorem dX9_strongest_48 : decode cX9_strongest 48 = .ok (.iload_n 1, 1) := by decide +kernel
theorem dX9_strongest_49 : decode cX9_strongest 49 = .ok (.iconst (-1), 1) := by decide +kernel
theorem dX9_strongest_50 : decode cX9_strongest 50 = .ok (.if_icmp .eq 33, 3) := by decide +kernel
theorem dX9_strongest_53 : decode cX9_strongest 53 = .ok (.iload_n 3, 1) := by decide +kernel
theorem dX9_strongest_54 : decode cX9_strongest 54 = .ok (.aload_n 0, 1) := by decide +kernel
theorem dX9_strongest_55 : decode cX9_strongest 55 = .ok (.iload_n 1, 1) := by decide +kernel
theorem dX9_strongest_56 : decode cX9_strongest 56 = .ok (.iconst 4, 1) := by decide +kernel
theorem dX9_strongest_57 : decode cX9_strongest 57 = .ok (.idiv, 1) := by decide +kernel
theorem dX9_strongest_58 : decode cX9_strongest 58 = .ok (.iload_n 1, 1) := by decide +kernel
theorem dX9_strongest_59 : decode cX9_strongest 59 = .ok (.iconst 4, 1) := by decide +kernel
theorem dX9_strongest_60 : decode cX9_strongest 60 = .ok (.irem, 1) := by decide +kernel
theorem dX9_strongest_61 : decode cX9_strongest 61 = .ok (.iconst 1, 1) := by decide +kernel
theorem dX9_strongest_62 : decode cX9_strongest 62 = .ok (.invokevirtual 179, 3) := by decide +kernel
theorem dX9_strongest_65 : decode cX9_strongest 65 = .ok (.imul, 1) := by decide +kernel
theorem dX9_strongest_66 : decode cX9_strongest 66 = .ok (.aload_n 0, 1) := by decide +kernel
theorem dX9_strongest_67 : decode cX9_strongest 67 = .ok (.iload_n 1, 1) := by decide +kernel
theorem dX9_strongest_68 : decode cX9_strongest 68 = .ok (.iconst 4, 1) := by decide +kernel
theorem dX9_strongest_69 : decode cX9_strongest 69 = .ok (.idiv, 1) := by decide +kernel
theorem dX9_strongest_70 : decode cX9_strongest 70 = .ok (.iload_n 1, 1) := by decide +kernel
theorem dX9_strongest_71 : decode cX9_strongest 71 = .ok (.iconst 4, 1) := by decide +kernel
theorem dX9_strongest_72 : decode cX9_strongest 72 = .ok (.irem, 1) := by decide +kernel
theorem dX9_strongest_73 : decode cX9_strongest 73 = .ok (.iconst 0, 1) := by decide +kernel
theorem dX9_strongest_74 : decode cX9_strongest 74 = .ok (.invokevirtual 179, 3) := by decide +kernel
theorem dX9_strongest_77 : decode cX9_strongest 77 = .ok (.iload 4, 2) := by decide +kernel
theorem dX9_strongest_79 : decode cX9_strongest 79 = .ok (.imul, 1) := by decide +kernel
theorem dX9_strongest_80 : decode cX9_strongest 80 = .ok (.if_icmp .le 7, 3) := by decide +kernel
theorem dX9_strongest_83 : decode cX9_strongest 83 = .ok (.iload_n 2, 1) := by decide +kernel
theorem dX9_strongest_84 : decode cX9_strongest 84 = .ok (.goto 4, 3) := by decide +kernel
theorem dX9_strongest_87 : decode cX9_strongest 87 = .ok (.iload_n 1, 1) := by decide +kernel
theorem dX9_strongest_88 : decode cX9_strongest 88 = .ok (.istore_n 1, 1) := by decide +kernel
theorem dX9_strongest_89 : decode cX9_strongest 89 = .ok (.iinc 2 1, 3) := by decide +kernel
theorem dX9_strongest_92 : decode cX9_strongest 92 = .ok (.goto (-88), 3) := by decide +kernel
theorem dX9_strongest_95 : decode cX9_strongest 95 = .ok (.iload_n 1, 1) := by decide +kernel
theorem dX9_strongest_96 : decode cX9_strongest 96 = .ok (.ireturn, 1) := by decide +kernel
set_option maxRecDepth 20000 in
theorem ggX9_cost_X9_in : GoodIn wsX9_cost wsX9_in := goodIn_r _ [6] (by decide +kernel) (by decide +kernel)
set_option maxRecDepth 20000 in
theorem gX9_cost_X9_in : GoodIn wsX9_cost (va_wsS RX9 97 yX9_in wsX9_in) := goodIn_app (goodIn_of _ (by decide +kernel)) ggX9_cost_X9_in
theorem dX9_cost_0 : decode cX9_cost 0 = .ok (.iload_n 1, 1) := by decide +kernel
theorem dX9_cost_1 : decode cX9_cost 1 = .ok (.ifCond .ne 26, 3) := by decide +kernel
theorem dX9_cost_4 : decode cX9_cost 4 = .ok (.iload_n 2, 1) := by decide +kernel
theorem dX9_cost_5 : decode cX9_cost 5 = .ok (.iconst 1, 1) := by decide +kernel
theorem dX9_cost_6 : decode cX9_cost 6 = .ok (.sipush 999, 3) := by decide +kernel
theorem dX9_cost_9 : decode cX9_cost 9 = .ok (.invokestatic 97, 3) := by decide +kernel
theorem dX9_cost_12 : decode cX9_cost 12 = .ok (.ifCond .eq 15, 3) := by decide +kernel
theorem dX9_cost_15 : decode cX9_cost 15 = .ok (.aload_n 0, 1) := by decide +kernel
theorem dX9_cost_16 : decode cX9_cost 16 = .ok (.getfield 60, 3) := by decide +kernel
theorem dX9_cost_19 : decode cX9_cost 19 = .ok (.istore_n 3, 1) := by decide +kernel
theorem dX9_cost_20 : decode cX9_cost 20 = .ok (.aload_n 0, 1) := by decide +kernel
theorem dX9_cost_21 : decode cX9_cost 21 = .ok (.iload_n 2, 1) := by decide +kernel
theorem dX9_cost_22 : decode cX9_cost 22 = .ok (.putfield 60, 3) := by decide +kernel
theorem dX9_cost_25 : decode cX9_cost 25 = .ok (.iload_n 3, 1) := by decide +kernel
theorem dX9_cost_26 : decode cX9_cost 26 = .ok (.ireturn, 1) := by decide +kernel
theorem dX9_cost_27 : decode cX9_cost 27 = .ok (.iload_n 1, 1) := by decide +kernel
theorem dX9_cost_28 : decode cX9_cost 28 = .ok (.iconst 1, 1) := by decide +kernel
theorem dX9_cost_29 : decode cX9_cost 29 = .ok (.if_icmp .ne 25, 3) := by decide +kernel
theorem dX9_cost_32 : decode cX9_cost 32 = .ok (.iload_n 2, 1) := by decide +kernel
theorem dX9_cost_33 : decode cX9_cost 33 = .ok (.iconst 0, 1) := by decide +kernel
theorem dX9_cost_34 : decode cX9_cost 34 = .ok (.bipush 99, 2) := by decide +kernel
theorem dX9_cost_36 : decode cX9_cost 36 = .ok (.invokestatic 97, 3) := by decide +kernel
theorem dX9_cost_39 : decode cX9_cost 39 = .ok (.ifCond .eq 15, 3) := by decide +kernel
theorem dX9_cost_42 : decode cX9_cost 42 = .ok (.aload_n 0, 1) := by decide +kernel
theorem dX9_cost_43 : decode cX9_cost 43 = .ok (.getfield 64, 3) := by decide +kernel
theorem dX9_cost_46 : decode cX9_cost 46 = .ok (.istore_n 3, 1) := by decide +kernel
theorem dX9_cost_47 : decode cX9_cost 47 = .ok (.aload_n 0, 1) := by decide +kernel
theorem dX9_cost_48 : decode cX9_cost 48 = .ok (.iload_n 2, 1) := by decide +kernel
theorem dX9_cost_49 : decode cX9_cost 49 = .ok (.putfield 64, 3) := by decide +kernel
theorem dX9_cost_52 : decode cX9_cost 52 = .ok (.iload_n 3, 1) := by decide +kernel
theorem dX9_cost_53 : decode cX9_cost 53 = .ok (.ireturn, 1) := by decide +kernel
theorem dX9_cost_54 : decode cX9_cost 54 = .ok (.bipush (-3), 2) := by decide +kernel
theorem dX9_cost_56 : decode cX9_cost 56 = .ok (.ireturn, 1) := by decide +kernel
set_option maxRecDepth 20000 in
theorem ggX9_wear_X9_isKind : GoodIn wsX9_wear wsX9_isKind := goodIn_r _ [5, 6, 7, 4, 8] (by decide +kernel) (by decide +kernel)
set_option maxRecDepth 20000 in
theorem gX9_wear_X9_isKind : GoodIn wsX9_wear (va_wsS RX9 105 yX9_isKind wsX9_isKind) := goodIn_app (goodIn_of _ (by decide +kernel)) ggX9_wear_X9_isKind
set_option maxRecDepth 20000 in
theorem ggX9_wear_X9_in : GoodIn wsX9_wear wsX9_in := goodIn_r _ [8] (by decide +kernel) (by decide +kernel)
set_option maxRecDepth 20000 in
theorem gX9_wear_X9_in : GoodIn wsX9_wear (va_wsS RX9 97 yX9_in wsX9_in) := goodIn_app (goodIn_of _ (by decide +kernel)) ggX9_wear_X9_in
theorem dX9_wear_0 : decode cX9_wear 0 = .ok (.iload_n 1, 1) := by decide +kernel
theorem dX9_wear_1 : decode cX9_wear 1 = .ok (.invokestatic 105, 3) := by decide +kernel
theorem dX9_wear_4 : decode cX9_wear 4 = .ok (.ifCond .ne 6, 3) := by decide +kernel
theorem dX9_wear_7 : decode cX9_wear 7 = .ok (.bipush (-2), 2) := by decide +kernel
theorem dX9_wear_9 : decode cX9_wear 9 = .ok (.ireturn, 1) := by decide +kernel
theorem dX9_wear_10 : decode cX9_wear 10 = .ok (.iload_n 2, 1) := by decide +kernel
theorem dX9_wear_11 : decode cX9_wear 11 = .ok (.iconst 0, 1) := by decide +kernel
theorem dX9_wear_12 : decode cX9_wear 12 = .ok (.bipush 9, 2) := by decide +kernel
theorem dX9_wear_14 : decode cX9_wear 14 = .ok (.invokestatic 97, 3) := by decide +kernel
theorem dX9_wear_17 : decode cX9_wear 17 = .ok (.ifCond .ne 6, 3) := by decide +kernel
theorem dX9_wear_20 : decode cX9_wear 20 = .ok (.bipush (-3), 2) := by decide +kernel
theorem dX9_wear_22 : decode cX9_wear 22 = .ok (.ireturn, 1) := by decide +kernel
theorem dX9_wear_23 : decode cX9_wear 23 = .ok (.aload_n 0, 1) := by decide +kernel
theorem dX9_wear_24 : decode cX9_wear 24 = .ok (.getfield 67, 3) := by decide +kernel
theorem dX9_wear_27 : decode cX9_wear 27 = .ok (.iload_n 1, 1) := by decide +kernel
theorem dX9_wear_28 : decode cX9_wear 28 = .ok (.iaload, 1) := by decide +kernel
theorem dX9_wear_29 : decode cX9_wear 29 = .ok (.istore_n 3, 1) := by decide +kernel
theorem dX9_wear_30 : decode cX9_wear 30 = .ok (.aload_n 0, 1) := by decide +kernel
theorem dX9_wear_31 : decode cX9_wear 31 = .ok (.getfield 67, 3) := by decide +kernel
theorem dX9_wear_34 : decode cX9_wear 34 = .ok (.iload_n 1, 1) := by decide +kernel
theorem dX9_wear_35 : decode cX9_wear 35 = .ok (.iload_n 2, 1) := by decide +kernel
theorem dX9_wear_36 : decode cX9_wear 36 = .ok (.iastore, 1) := by decide +kernel
theorem dX9_wear_37 : decode cX9_wear 37 = .ok (.iload_n 3, 1) := by decide +kernel
theorem dX9_wear_38 : decode cX9_wear 38 = .ok (.ireturn, 1) := by decide +kernel
set_option maxRecDepth 20000 in
theorem ggX9_plan_X9_isKind : GoodIn wsX9_plan wsX9_isKind := goodIn_r _ [6, 7, 8, 5, 9] (by decide +kernel) (by decide +kernel)
set_option maxRecDepth 20000 in
theorem gX9_plan_X9_isKind : GoodIn wsX9_plan (va_wsS RX9 105 yX9_isKind wsX9_isKind) := goodIn_app (goodIn_of _ (by decide +kernel)) ggX9_plan_X9_isKind
theorem dX9_plan_0 : decode cX9_plan 0 = .ok (.iload_n 1, 1) := by decide +kernel
theorem dX9_plan_1 : decode cX9_plan 1 = .ok (.invokestatic 105, 3) := by decide +kernel
theorem dX9_plan_4 : decode cX9_plan 4 = .ok (.ifCond .ne 6, 3) := by decide +kernel
theorem dX9_plan_7 : decode cX9_plan 7 = .ok (.bipush (-2), 2) := by decide +kernel
theorem dX9_plan_9 : decode cX9_plan 9 = .ok (.ireturn, 1) := by decide +kernel
theorem dX9_plan_10 : decode cX9_plan 10 = .ok (.aload_n 0, 1) := by decide +kernel
theorem dX9_plan_11 : decode cX9_plan 11 = .ok (.getfield 197, 3) := by decide +kernel
theorem dX9_plan_14 : decode cX9_plan 14 = .ok (.bipush 30, 2) := by decide +kernel
theorem dX9_plan_16 : decode cX9_plan 16 = .ok (.if_icmp .ne 6, 3) := by decide +kernel
theorem dX9_plan_19 : decode cX9_plan 19 = .ok (.bipush (-5), 2) := by decide +kernel
theorem dX9_plan_21 : decode cX9_plan 21 = .ok (.ireturn, 1) := by decide +kernel
theorem dX9_plan_22 : decode cX9_plan 22 = .ok (.aload_n 0, 1) := by decide +kernel
theorem dX9_plan_23 : decode cX9_plan 23 = .ok (.getfield 70, 3) := by decide +kernel
theorem dX9_plan_26 : decode cX9_plan 26 = .ok (.aload_n 0, 1) := by decide +kernel
theorem dX9_plan_27 : decode cX9_plan 27 = .ok (.getfield 197, 3) := by decide +kernel
theorem dX9_plan_30 : decode cX9_plan 30 = .ok (.iload_n 1, 1) := by decide +kernel
theorem dX9_plan_31 : decode cX9_plan 31 = .ok (.iastore, 1) := by decide +kernel
theorem dX9_plan_32 : decode cX9_plan 32 = .ok (.aload_n 0, 1) := by decide +kernel
theorem dX9_plan_33 : decode cX9_plan 33 = .ok (.dup, 1) := by decide +kernel
theorem dX9_plan_34 : decode cX9_plan 34 = .ok (.getfield 197, 3) := by decide +kernel
theorem dX9_plan_37 : decode cX9_plan 37 = .ok (.iconst 1, 1) := by decide +kernel
theorem dX9_plan_38 : decode cX9_plan 38 = .ok (.iadd, 1) := by decide +kernel
theorem dX9_plan_39 : decode cX9_plan 39 = .ok (.putfield 197, 3) := by decide +kernel
theorem dX9_plan_42 : decode cX9_plan 42 = .ok (.aload_n 0, 1) := by decide +kernel
theorem dX9_plan_43 : decode cX9_plan 43 = .ok (.getfield 197, 3) := by decide +kernel
theorem dX9_plan_46 : decode cX9_plan 46 = .ok (.ireturn, 1) := by decide +kernel
theorem dX9_unplan_0 : decode cX9_unplan 0 = .ok (.aload_n 0, 1) := by decide +kernel
theorem dX9_unplan_1 : decode cX9_unplan 1 = .ok (.getfield 197, 3) := by decide +kernel
theorem dX9_unplan_4 : decode cX9_unplan 4 = .ok (.istore_n 1, 1) := by decide +kernel
theorem dX9_unplan_5 : decode cX9_unplan 5 = .ok (.aload_n 0, 1) := by decide +kernel
theorem dX9_unplan_6 : decode cX9_unplan 6 = .ok (.iconst 0, 1) := by decide +kernel
theorem dX9_unplan_7 : decode cX9_unplan 7 = .ok (.putfield 197, 3) := by decide +kernel
theorem dX9_unplan_10 : decode cX9_unplan 10 = .ok (.iload_n 1, 1) := by decide +kernel
theorem dX9_unplan_11 : decode cX9_unplan 11 = .ok (.ireturn, 1) := by decide +kernel
theorem dX9_costsOf_0 : decode cX9_costsOf 0 = .ok (.aload_n 0, 1) := by decide +kernel
theorem dX9_costsOf_1 : decode cX9_costsOf 1 = .ok (.getfield 60, 3) := by decide +kernel
theorem dX9_costsOf_4 : decode cX9_costsOf 4 = .ok (.istore_n 2, 1) := by decide +kernel
theorem dX9_costsOf_5 : decode cX9_costsOf 5 = .ok (.iconst 0, 1) := by decide +kernel
theorem dX9_costsOf_6 : decode cX9_costsOf 6 = .ok (.istore_n 3, 1) := by decide +kernel
theorem dX9_costsOf_7 : decode cX9_costsOf 7 = .ok (.iconst 0, 1) := by decide +kernel
theorem dX9_costsOf_8 : decode cX9_costsOf 8 = .ok (.istore 4, 2) := by decide +kernel
theorem dX9_costsOf_10 : decode cX9_costsOf 10 = .ok (.iload 4, 2) := by decide +kernel
theorem dX9_costsOf_12 : decode cX9_costsOf 12 = .ok (.iload_n 1, 1) := by decide +kernel
theorem dX9_costsOf_13 : decode cX9_costsOf 13 = .ok (.if_icmp .ge 57, 3) := by decide +kernel
theorem dX9_costsOf_16 : decode cX9_costsOf 16 = .ok (.iload_n 3, 1) := by decide +kernel
theorem dX9_costsOf_17 : decode cX9_costsOf 17 = .ok (.bipush 10, 2) := by decide +kernel
theorem dX9_costsOf_19 : decode cX9_costsOf 19 = .ok (.idiv, 1) := by decide +kernel
theorem dX9_costsOf_20 : decode cX9_costsOf 20 = .ok (.istore 5, 2) := by decide +kernel
theorem dX9_costsOf_22 : decode cX9_costsOf 22 = .ok (.iload_n 2, 1) := by decide +kernel
theorem dX9_costsOf_23 : decode cX9_costsOf 23 = .ok (.aload_n 0, 1) := by decide +kernel
theorem dX9_costsOf_24 : decode cX9_costsOf 24 = .ok (.getfield 64, 3) := by decide +kernel
theorem dX9_costsOf_27 : decode cX9_costsOf 27 = .ok (.iload 5, 2) := by decide +kernel
theorem dX9_costsOf_29 : decode cX9_costsOf 29 = .ok (.bipush 8, 2) := by decide +kernel
theorem dX9_costsOf_31 : decode cX9_costsOf 31 = .ok (.if_icmp .le 8, 3) := by decide +kernel
theorem dX9_costsOf_34 : decode cX9_costsOf 34 = .ok (.bipush 8, 2) := by decide +kernel
theorem dX9_costsOf_36 : decode cX9_costsOf 36 = .ok (.goto 5, 3) := by decide +kernel
theorem dX9_costsOf_39 : decode cX9_costsOf 39 = .ok (.iload 5, 2) := by decide +kernel
theorem dX9_costsOf_41 : decode cX9_costsOf 41 = .ok (.imul, 1) := by decide +kernel
theorem dX9_costsOf_42 : decode cX9_costsOf 42 = .ok (.iadd, 1) := by decide +kernel
theorem dX9_costsOf_43 : decode cX9_costsOf 43 = .ok (.istore_n 2, 1) := by decide +kernel
theorem dX9_costsOf_44 : decode cX9_costsOf 44 = .ok (.iload_n 3, 1) := by decide +kernel
theorem dX9_costsOf_45 : decode cX9_costsOf 45 = .ok (.aload_n 0, 1) := by decide +kernel
theorem dX9_costsOf_46 : decode cX9_costsOf 46 = .ok (.getfield 67, 3) := by decide +kernel
theorem dX9_costsOf_49 : decode cX9_costsOf 49 = .ok (.aload_n 0, 1) := by decide +kernel
theorem dX9_costsOf_50 : decode cX9_costsOf 50 = .ok (.getfield 70, 3) := by decide +kernel
theorem dX9_costsOf_53 : decode cX9_costsOf 53 = .ok (.iload 4, 2) := by decide +kernel
theorem dX9_costsOf_55 : decode cX9_costsOf 55 = .ok (.aload_n 0, 1) := by decide +kernel
theorem dX9_costsOf_56 : decode cX9_costsOf 56 = .ok (.getfield 197, 3) := by decide +kernel
theorem dX9_costsOf_59 : decode cX9_costsOf 59 = .ok (.irem, 1) := by decide +kernel
theorem dX9_costsOf_60 : decode cX9_costsOf 60 = .ok (.iaload, 1) := by decide +kernel
theorem dX9_costsOf_61 : decode cX9_costsOf 61 = .ok (.iaload, 1) := by decide +kernel
theorem dX9_costsOf_62 : decode cX9_costsOf 62 = .ok (.iadd, 1) := by decide +kernel
theorem dX9_costsOf_63 : decode cX9_costsOf 63 = .ok (.istore_n 3, 1) := by decide +kernel
theorem dX9_costsOf_64 : decode cX9_costsOf 64 = .ok (.iinc 4 1, 3) := by decide +kernel
theorem dX9_costsOf_67 : decode cX9_costsOf 67 = .ok (.goto (-57), 3) := by decide +kernel
theorem dX9_costsOf_70 : decode cX9_costsOf 70 = .ok (.iload_n 2, 1) := by decide +kernel
theorem dX9_costsOf_71 : decode cX9_costsOf 71 = .ok (.ireturn, 1) := by decide +kernel
set_option maxRecDepth 20000 in
theorem ggX9_costs_X9_in : GoodIn wsX9_costs wsX9_in := goodIn_r _ [5] (by decide +kernel) (by decide +kernel)
set_option maxRecDepth 20000 in
theorem gX9_costs_X9_in : GoodIn wsX9_costs (va_wsS RX9 97 yX9_in wsX9_in) := goodIn_app (goodIn_of _ (by decide +kernel)) ggX9_costs_X9_in
set_option maxRecDepth 20000 in
theorem ggX9_costs_X9_costsOf : GoodIn wsX9_costs wsX9_costsOf := goodIn_r _ [9, 10, 11, 12, 13, 1, 14, 15, 16, 17, 18, 19, 20, 21, 22, 23, 24, 25, 26, 27, 28, 29, 30, 31, 32, 33, 34, 35, 36, 37, 38, 39, 40, 41, 42, 43, 44, 45, 46, 47, 48, 49, 50, 51] (by decide +kernel) (by decide +kernel)
set_option maxRecDepth 20000 in
theorem gX9_costs_X9_costsOf : GoodIn wsX9_costs (wsV RX9 200 RX9 yX9_costsOf wsX9_costsOf) := goodIn_app (goodIn_of _ (by decide +kernel)) ggX9_costs_X9_costsOf
theorem dX9_costs_0 : decode cX9_costs 0 = .ok (.iload_n 1, 1) := by decide +kernel
theorem dX9_costs_1 : decode cX9_costs 1 = .ok (.iconst 1, 1) := by decide +kernel
theorem dX9_costs_2 : decode cX9_costs 2 = .ok (.bipush 120, 2) := by decide +kernel
theorem dX9_costs_4 : decode cX9_costs 4 = .ok (.invokestatic 97, 3) := by decide +kernel
theorem dX9_costs_7 : decode cX9_costs 7 = .ok (.ifCond .ne 6, 3) := by decide +kernel
theorem dX9_costs_10 : decode cX9_costs 10 = .ok (.bipush (-3), 2) := by decide +kernel
theorem dX9_costs_12 : decode cX9_costs 12 = .ok (.ireturn, 1) := by decide +kernel
theorem dX9_costs_13 : decode cX9_costs 13 = .ok (.aload_n 0, 1) := by decide +kernel
theorem dX9_costs_14 : decode cX9_costs 14 = .ok (.getfield 197, 3) := by decide +kernel
theorem dX9_costs_17 : decode cX9_costs 17 = .ok (.ifCond .ne 8, 3) := by decide +kernel
theorem dX9_costs_20 : decode cX9_costs 20 = .ok (.bipush (-4), 2) := by decide +kernel
theorem dX9_costs_22 : decode cX9_costs 22 = .ok (.goto 8, 3) := by decide +kernel
theorem dX9_costs_25 : decode cX9_costs 25 = .ok (.aload_n 0, 1) := by decide +kernel
theorem dX9_costs_26 : decode cX9_costs 26 = .ok (.iload_n 1, 1) := by decide +kernel
theorem dX9_costs_27 : decode cX9_costs 27 = .ok (.invokevirtual 200, 3) := by decide +kernel
theorem dX9_costs_30 : decode cX9_costs 30 = .ok (.ireturn, 1) := by decide +kernel
set_option maxRecDepth 20000 in
theorem ggX9_change_X9_costsOf : GoodIn wsX9_change wsX9_costsOf := goodIn_r _ [6, 7, 8, 9, 10, 1, 11, 12, 13, 14, 15, 16, 17, 18, 19, 20, 21, 22, 23, 24, 25, 26, 27, 28, 29, 30, 31, 32, 33, 34, 35, 36, 37, 38, 39, 40, 41, 42, 43, 44, 45, 46, 47, 48] (by decide +kernel) (by decide +kernel)
set_option maxRecDepth 20000 in
theorem gX9_change_X9_costsOf : GoodIn wsX9_change (wsV RX9 200 RX9 yX9_costsOf wsX9_costsOf) := goodIn_app (goodIn_of _ (by decide +kernel)) ggX9_change_X9_costsOf
theorem dX9_change_0 : decode cX9_change 0 = .ok (.aload_n 0, 1) := by decide +kernel
theorem dX9_change_1 : decode cX9_change 1 = .ok (.getfield 197, 3) := by decide +kernel
theorem dX9_change_4 : decode cX9_change 4 = .ok (.ifCond .ne 6, 3) := by decide +kernel
theorem dX9_change_7 : decode cX9_change 7 = .ok (.bipush (-4), 2) := by decide +kernel
theorem dX9_change_9 : decode cX9_change 9 = .ok (.ireturn, 1) := by decide +kernel
theorem dX9_change_10 : decode cX9_change 10 = .ok (.iconst 1, 1) := by decide +kernel
theorem dX9_change_11 : decode cX9_change 11 = .ok (.istore_n 1, 1) := by decide +kernel
theorem dX9_change_12 : decode cX9_change 12 = .ok (.aload_n 0, 1) := by decide +kernel
theorem dX9_change_13 : decode cX9_change 13 = .ok (.iconst 1, 1) := by decide +kernel
theorem dX9_change_14 : decode cX9_change 14 = .ok (.invokevirtual 200, 3) := by decide +kernel
theorem dX9_change_17 : decode cX9_change 17 = .ok (.istore_n 2, 1) := by decide +kernel
theorem dX9_change_18 : decode cX9_change 18 = .ok (.iconst 2, 1) := by decide +kernel
theorem dX9_change_19 : decode cX9_change 19 = .ok (.istore_n 3, 1) := by decide +kernel
theorem dX9_change_20 : decode cX9_change 20 = .ok (.iload_n 3, 1) := by decide +kernel
theorem dX9_change_21 : decode cX9_change 21 = .ok (.bipush 120, 2) := by decide +kernel
theorem dX9_change_23 : decode cX9_change 23 = .ok (.if_icmp .gt 31, 3) := by decide +kernel
theorem dX9_change_26 : decode cX9_change 26 = .ok (.aload_n 0, 1) := by decide +kernel
theorem dX9_change_27 : decode cX9_change 27 = .ok (.iload_n 3, 1) := by decide +kernel
theorem dX9_change_28 : decode cX9_change 28 = .ok (.invokevirtual 200, 3) := by decide +kernel
theorem dX9_change_31 : decode cX9_change 31 = .ok (.istore 4, 2) := by decide +kernel
theorem dX9_change_33 : decode cX9_change 33 = .ok (.iload 4, 2) := by decide +kernel
theorem dX9_change_35 : decode cX9_change 35 = .ok (.iload_n 1, 1) := by decide +kernel
theorem dX9_change_36 : decode cX9_change 36 = .ok (.imul, 1) := by decide +kernel
theorem dX9_change_37 : decode cX9_change 37 = .ok (.iload_n 2, 1) := by decide +kernel
theorem dX9_change_38 : decode cX9_change 38 = .ok (.iload_n 3, 1) := by decide +kernel
theorem dX9_change_39 : decode cX9_change 39 = .ok (.imul, 1) := by decide +kernel
theorem dX9_change_40 : decode cX9_change 40 = .ok (.if_icmp .ge 8, 3) := by decide +kernel
theorem dX9_change_43 : decode cX9_change 43 = .ok (.iload_n 3, 1) := by decide +kernel
theorem dX9_change_44 : decode cX9_change 44 = .ok (.istore_n 1, 1) := by decide +kernel
theorem dX9_change_45 : decode cX9_change 45 = .ok (.iload 4, 2) := by decide +kernel
theorem dX9_change_47 : decode cX9_change 47 = .ok (.istore_n 2, 1) := by decide +kernel
theorem dX9_change_48 : decode cX9_change 48 = .ok (.iinc 3 1, 3) := by decide +kernel
theorem dX9_change_51 : decode cX9_change 51 = .ok (.goto (-31), 3) := by decide +kernel
theorem dX9_change_54 : decode cX9_change 54 = .ok (.iload_n 1, 1) := by decide +kernel
theorem dX9_change_55 : decode cX9_change 55 = .ok (.ireturn, 1) := by decide +kernel
set_option maxRecDepth 20000 in
theorem ggX9_courts_X9_in : GoodIn wsX9_courts wsX9_in := goodIn_r _ [5] (by decide +kernel) (by decide +kernel)
set_option maxRecDepth 20000 in
theorem gX9_courts_X9_in : GoodIn wsX9_courts (va_wsS RX9 97 yX9_in wsX9_in) := goodIn_app (goodIn_of _ (by decide +kernel)) ggX9_courts_X9_in
theorem dX9_courts_0 : decode cX9_courts 0 = .ok (.iload_n 1, 1) := by decide +kernel
theorem dX9_courts_1 : decode cX9_courts 1 = .ok (.iconst 1, 1) := by decide +kernel
theorem dX9_courts_2 : decode cX9_courts 2 = .ok (.iconst 4, 1) := by decide +kernel
theorem dX9_courts_3 : decode cX9_courts 3 = .ok (.invokestatic 97, 3) := by decide +kernel
theorem dX9_courts_6 : decode cX9_courts 6 = .ok (.ifCond .ne 6, 3) := by decide +kernel
theorem dX9_courts_9 : decode cX9_courts 9 = .ok (.bipush (-3), 2) := by decide +kernel
theorem dX9_courts_11 : decode cX9_courts 11 = .ok (.ireturn, 1) := by decide +kernel
theorem dX9_courts_12 : decode cX9_courts 12 = .ok (.aload_n 0, 1) := by decide +kernel
theorem dX9_courts_13 : decode cX9_courts 13 = .ok (.getfield 73, 3) := by decide +kernel
theorem dX9_courts_16 : decode cX9_courts 16 = .ok (.istore_n 2, 1) := by decide +kernel
theorem dX9_courts_17 : decode cX9_courts 17 = .ok (.aload_n 0, 1) := by decide +kernel
theorem dX9_courts_18 : decode cX9_courts 18 = .ok (.iload_n 1, 1) := by decide +kernel
theorem dX9_courts_19 : decode cX9_courts 19 = .ok (.putfield 73, 3) := by decide +kernel
theorem dX9_courts_22 : decode cX9_courts 22 = .ok (.iload_n 2, 1) := by decide +kernel
theorem dX9_courts_23 : decode cX9_courts 23 = .ok (.ireturn, 1) := by decide +kernel
theorem dX9_thereMany_0 : decode cX9_thereMany 0 = .ok (.iconst 0, 1) := by decide +kernel
theorem dX9_thereMany_1 : decode cX9_thereMany 1 = .ok (.istore_n 1, 1) := by decide +kernel
theorem dX9_thereMany_2 : decode cX9_thereMany 2 = .ok (.iconst 0, 1) := by decide +kernel
theorem dX9_thereMany_3 : decode cX9_thereMany 3 = .ok (.istore_n 2, 1) := by decide +kernel
theorem dX9_thereMany_4 : decode cX9_thereMany 4 = .ok (.iload_n 2, 1) := by decide +kernel
theorem dX9_thereMany_5 : decode cX9_thereMany 5 = .ok (.bipush 8, 2) := by decide +kernel
theorem dX9_thereMany_7 : decode cX9_thereMany 7 = .ok (.if_icmp .ge 26, 3) := by decide +kernel
theorem dX9_thereMany_10 : decode cX9_thereMany 10 = .ok (.iload_n 1, 1) := by decide +kernel
theorem dX9_thereMany_11 : decode cX9_thereMany 11 = .ok (.aload_n 0, 1) := by decide +kernel
theorem dX9_thereMany_12 : decode cX9_thereMany 12 = .ok (.getfield 76, 3) := by decide +kernel
theorem dX9_thereMany_15 : decode cX9_thereMany 15 = .ok (.iload_n 2, 1) := by decide +kernel
theorem dX9_thereMany_16 : decode cX9_thereMany 16 = .ok (.baload, 1) := by decide +kernel
theorem dX9_thereMany_17 : decode cX9_thereMany 17 = .ok (.ifCond .eq 7, 3) := by decide +kernel
theorem dX9_thereMany_20 : decode cX9_thereMany 20 = .ok (.iconst 1, 1) := by decide +kernel
theorem dX9_thereMany_21 : decode cX9_thereMany 21 = .ok (.goto 4, 3) := by decide +kernel
theorem dX9_thereMany_24 : decode cX9_thereMany 24 = .ok (.iconst 0, 1) := by decide +kernel
theorem dX9_thereMany_25 : decode cX9_thereMany 25 = .ok (.iadd, 1) := by decide +kernel
theorem dX9_thereMany_26 : decode cX9_thereMany 26 = .ok (.istore_n 1, 1) := by decide +kernel
theorem dX9_thereMany_27 : decode cX9_thereMany 27 = .ok (.iinc 2 1, 3) := by decide +kernel
theorem dX9_thereMany_30 : decode cX9_thereMany 30 = .ok (.goto (-26), 3) := by decide +kernel
theorem dX9_thereMany_33 : decode cX9_thereMany 33 = .ok (.iload_n 1, 1) := by decide +kernel
theorem dX9_thereMany_34 : decode cX9_thereMany 34 = .ok (.ireturn, 1) := by decide +kernel
set_option maxRecDepth 20000 in
theorem ggX9_come_X9_isPlayer : GoodIn wsX9_come wsX9_isPlayer := goodIn_r _ [7, 8, 9, 6, 10] (by decide +kernel) (by decide +kernel)
set_option maxRecDepth 20000 in
theorem gX9_come_X9_isPlayer : GoodIn wsX9_come (va_wsS RX9 125 yX9_isPlayer wsX9_isPlayer) := goodIn_app (goodIn_of _ (by decide +kernel)) ggX9_come_X9_isPlayer
set_option maxRecDepth 20000 in
theorem ggX9_come_X9_in : GoodIn wsX9_come wsX9_in := goodIn_r _ [10] (by decide +kernel) (by decide +kernel)
set_option maxRecDepth 20000 in
theorem gX9_come_X9_in : GoodIn wsX9_come (va_wsS RX9 97 yX9_in wsX9_in) := goodIn_app (goodIn_of _ (by decide +kernel)) ggX9_come_X9_in
set_option maxRecDepth 20000 in
theorem ggX9_come_X9_thereMany : GoodIn wsX9_come wsX9_thereMany := goodIn_r _ [14, 1, 15, 16, 17, 18, 19, 20, 21, 22, 23, 24, 25, 26, 27, 28, 29, 30, 31, 32, 33, 34, 35, 36, 37, 38, 39, 40, 41, 42, 43, 44, 45, 46, 47, 48, 49, 50, 51, 52] (by decide +kernel) (by decide +kernel)
set_option maxRecDepth 20000 in
theorem gX9_come_X9_thereMany : GoodIn wsX9_come (wsV RX9 203 RX9 yX9_thereMany wsX9_thereMany) := goodIn_app (goodIn_of _ (by decide +kernel)) ggX9_come_X9_thereMany
theorem dX9_come_0 : decode cX9_come 0 = .ok (.iload_n 1, 1) := by decide +kernel
theorem dX9_come_1 : decode cX9_come 1 = .ok (.invokestatic 125, 3) := by decide +kernel
theorem dX9_come_4 : decode cX9_come 4 = .ok (.ifCond .ne 6, 3) := by decide +kernel
theorem dX9_come_7 : decode cX9_come 7 = .ok (.bipush (-2), 2) := by decide +kernel
theorem dX9_come_9 : decode cX9_come 9 = .ok (.ireturn, 1) := by decide +kernel
theorem dX9_come_10 : decode cX9_come 10 = .ok (.iload_n 2, 1) := by decide +kernel
theorem dX9_come_11 : decode cX9_come 11 = .ok (.iconst 0, 1) := by decide +kernel
theorem dX9_come_12 : decode cX9_come 12 = .ok (.bipush 99, 2) := by decide +kernel
theorem dX9_come_14 : decode cX9_come 14 = .ok (.invokestatic 97, 3) := by decide +kernel
theorem dX9_come_17 : decode cX9_come 17 = .ok (.ifCond .ne 6, 3) := by decide +kernel
theorem dX9_come_20 : decode cX9_come 20 = .ok (.bipush (-3), 2) := by decide +kernel
theorem dX9_come_22 : decode cX9_come 22 = .ok (.ireturn, 1) := by decide +kernel
theorem dX9_come_23 : decode cX9_come 23 = .ok (.aload_n 0, 1) := by decide +kernel
theorem dX9_come_24 : decode cX9_come 24 = .ok (.getfield 76, 3) := by decide +kernel
theorem dX9_come_27 : decode cX9_come 27 = .ok (.iload_n 1, 1) := by decide +kernel
theorem dX9_come_28 : decode cX9_come 28 = .ok (.baload, 1) := by decide +kernel
theorem dX9_come_29 : decode cX9_come 29 = .ok (.ifCond .eq 6, 3) := by decide +kernel
theorem dX9_come_32 : decode cX9_come 32 = .ok (.bipush (-4), 2) := by decide +kernel
theorem dX9_come_34 : decode cX9_come 34 = .ok (.ireturn, 1) := by decide +kernel
theorem dX9_come_35 : decode cX9_come 35 = .ok (.aload_n 0, 1) := by decide +kernel
theorem dX9_come_36 : decode cX9_come 36 = .ok (.getfield 76, 3) := by decide +kernel
theorem dX9_come_39 : decode cX9_come 39 = .ok (.iload_n 1, 1) := by decide +kernel
theorem dX9_come_40 : decode cX9_come 40 = .ok (.iconst 1, 1) := by decide +kernel
theorem dX9_come_41 : decode cX9_come 41 = .ok (.bastore, 1) := by decide +kernel
theorem dX9_come_42 : decode cX9_come 42 = .ok (.aload_n 0, 1) := by decide +kernel
theorem dX9_come_43 : decode cX9_come 43 = .ok (.getfield 79, 3) := by decide +kernel
theorem dX9_come_46 : decode cX9_come 46 = .ok (.iload_n 1, 1) := by decide +kernel
theorem dX9_come_47 : decode cX9_come 47 = .ok (.iload_n 2, 1) := by decide +kernel
theorem dX9_come_48 : decode cX9_come 48 = .ok (.iastore, 1) := by decide +kernel
theorem dX9_come_49 : decode cX9_come 49 = .ok (.aload_n 0, 1) := by decide +kernel
theorem dX9_come_50 : decode cX9_come 50 = .ok (.getfield 82, 3) := by decide +kernel
theorem dX9_come_53 : decode cX9_come 53 = .ok (.iload_n 1, 1) := by decide +kernel
theorem dX9_come_54 : decode cX9_come 54 = .ok (.iconst 0, 1) := by decide +kernel
theorem dX9_come_55 : decode cX9_come 55 = .ok (.iastore, 1) := by decide +kernel
theorem dX9_come_56 : decode cX9_come 56 = .ok (.aload_n 0, 1) := by decide +kernel
theorem dX9_come_57 : decode cX9_come 57 = .ok (.invokevirtual 203, 3) := by decide +kernel
theorem dX9_come_60 : decode cX9_come 60 = .ok (.ireturn, 1) := by decide +kernel
set_option maxRecDepth 20000 in
theorem ggX9_leave_X9_isPlayer : GoodIn wsX9_leave wsX9_isPlayer := goodIn_r _ [5, 6, 7, 4, 8] (by decide +kernel) (by decide +kernel)
set_option maxRecDepth 20000 in
theorem gX9_leave_X9_isPlayer : GoodIn wsX9_leave (va_wsS RX9 125 yX9_isPlayer wsX9_isPlayer) := goodIn_app (goodIn_of _ (by decide +kernel)) ggX9_leave_X9_isPlayer
set_option maxRecDepth 20000 in
theorem ggX9_leave_X9_thereMany : GoodIn wsX9_leave wsX9_thereMany := goodIn_r _ [12, 1, 13, 14, 15, 16, 17, 18, 19, 20, 21, 22, 23, 24, 25, 26, 27, 28, 29, 30, 31, 32, 33, 34, 35, 36, 37, 38, 39, 40, 41, 42, 43, 44, 45, 46, 47, 48, 49, 50] (by decide +kernel) (by decide +kernel)
set_option maxRecDepth 20000 in
theorem gX9_leave_X9_thereMany : GoodIn wsX9_leave (wsV RX9 203 RX9 yX9_thereMany wsX9_thereMany) := goodIn_app (goodIn_of _ (by decide +kernel)) ggX9_leave_X9_thereMany
theorem dX9_leave_0 : decode cX9_leave 0 = .ok (.iload_n 1, 1) := by decide +kernel
theorem dX9_leave_1 : decode cX9_leave 1 = .ok (.invokestatic 125, 3) := by decide +kernel
theorem dX9_leave_4 : decode cX9_leave 4 = .ok (.ifCond .ne 6, 3) := by decide +kernel
theorem dX9_leave_7 : decode cX9_leave 7 = .ok (.bipush (-2), 2) := by decide +kernel
theorem dX9_leave_9 : decode cX9_leave 9 = .ok (.ireturn, 1) := by decide +kernel
theorem dX9_leave_10 : decode cX9_leave 10 = .ok (.aload_n 0, 1) := by decide +kernel
theorem dX9_leave_11 : decode cX9_leave 11 = .ok (.getfield 76, 3) := by decide +kernel
theorem dX9_leave_14 : decode cX9_leave 14 = .ok (.iload_n 1, 1) := by decide +kernel
theorem dX9_leave_15 : decode cX9_leave 15 = .ok (.baload, 1) := by decide +kernel
theorem dX9_leave_16 : decode cX9_leave 16 = .ok (.ifCond .ne 6, 3) := by decide +kernel
theorem dX9_leave_19 : decode cX9_leave 19 = .ok (.bipush (-4), 2) := by decide +kernel
theorem dX9_leave_21 : decode cX9_leave 21 = .ok (.ireturn, 1) := by decide +kernel
theorem dX9_leave_22 : decode cX9_leave 22 = .ok (.aload_n 0, 1) := by decide +kernel
theorem dX9_leave_23 : decode cX9_leave 23 = .ok (.getfield 76, 3) := by decide +kernel
theorem dX9_leave_26 : decode cX9_leave 26 = .ok (.iload_n 1, 1) := by decide +kernel
theorem dX9_leave_27 : decode cX9_leave 27 = .ok (.iconst 0, 1) := by decide +kernel
theorem dX9_leave_28 : decode cX9_leave 28 = .ok (.bastore, 1) := by decide +kernel
theorem dX9_leave_29 : decode cX9_leave 29 = .ok (.aload_n 0, 1) := by decide +kernel
theorem dX9_leave_30 : decode cX9_leave 30 = .ok (.invokevirtual 203, 3) := by decide +kernel
theorem dX9_leave_33 : decode cX9_leave 33 = .ok (.ireturn, 1) := by decide +kernel
set_option maxRecDepth 20000 in
theorem ggX9_lookAtRound_X9_size : GoodIn wsX9_lookAtRound wsX9_size := goodIn_r _ [13] (by decide +kernel) (by decide +kernel)
set_option maxRecDepth 20000 in
theorem gX9_lookAtRound_X9_size : GoodIn wsX9_lookAtRound (va_wsS RX9 101 yX9_size wsX9_size) := goodIn_app (goodIn_of _ (by decide +kernel)) ggX9_lookAtRound_X9_size
theorem dX9_lookAtRound_0 : decode cX9_lookAtRound 0 = .ok (.iconst 0, 1) := by decide +kernel
theorem dX9_lookAtRound_1 : decode cX9_lookAtRound 1 = .ok (.istore_n 2, 1) := by decide +kernel
theorem dX9_lookAtRound_2 : decode cX9_lookAtRound 2 = .ok (.iconst 0, 1) := by decide +kernel
theorem dX9_lookAtRound_3 : decode cX9_lookAtRound 3 = .ok (.istore_n 3, 1) := by decide +kernel
theorem dX9_lookAtRound_4 : decode cX9_lookAtRound 4 = .ok (.iconst 0, 1) := by decide +kernel
theorem dX9_lookAtRound_5 : decode cX9_lookAtRound 5 = .ok (.istore 4, 2) := by decide +kernel
theorem dX9_lookAtRound_7 : decode cX9_lookAtRound 7 = .ok (.iconst 0, 1) := by decide +kernel
theorem dX9_lookAtRound_8 : decode cX9_lookAtRound 8 = .ok (.istore 5, 2) := by decide +kernel
theorem dX9_lookAtRound_10 : decode cX9_lookAtRound 10 = .ok (.iload 5, 2) := by decide +kernel
theorem dX9_lookAtRound_12 : decode cX9_lookAtRound 12 = .ok (.bipush 8, 2) := by decide +kernel
theorem dX9_lookAtRound_14 : decode cX9_lookAtRound 14 = .ok (.if_icmp .ge 111, 3) := by decide +kernel
theorem dX9_lookAtRound_17 : decode cX9_lookAtRound 17 = .ok (.aload_n 0, 1) := by decide +kernel
theorem dX9_lookAtRound_18 : decode cX9_lookAtRound 18 = .ok (.getfield 91, 3) := by decide +kernel
theorem dX9_lookAtRound_21 : decode cX9_lookAtRound 21 = .ok (.iload 5, 2) := by decide +kernel
theorem dX9_lookAtRound_23 : decode cX9_lookAtRound 23 = .ok (.iaload, 1) := by decide +kernel
theorem dX9_lookAtRound_24 : decode cX9_lookAtRound 24 = .ok (.iconst (-1), 1) := by decide +kernel
theorem dX9_lookAtRound_25 : decode cX9_lookAtRound 25 = .ok (.if_icmp .eq 94, 3) := by decide +kernel
theorem dX9_lookAtRound_28 : decode cX9_lookAtRound 28 = .ok (.iload_n 2, 1) := by decide +kernel
theorem dX9_lookAtRound_29 : decode cX9_lookAtRound 29 = .ok (.aload_n 0, 1) := by decide +kernel
theorem dX9_lookAtRound_30 : decode cX9_lookAtRound 30 = .ok (.getfield 82, 3) := by decide +kernel
theorem dX9_lookAtRound_33 : decode cX9_lookAtRound 33 = .ok (.iload 5, 2) := by decide +kernel
theorem dX9_lookAtRound_35 : decode cX9_lookAtRound 35 = .ok (.iaload, 1) := by decide +kernel
theorem dX9_lookAtRound_36 : decode cX9_lookAtRound 36 = .ok (.iadd, 1) := by decide +kernel
theorem dX9_lookAtRound_37 : decode cX9_lookAtRound 37 = .ok (.istore_n 2, 1) := by decide +kernel
theorem dX9_lookAtRound_38 : decode cX9_lookAtRound 38 = .ok (.iload_n 3, 1) := by decide +kernel
theorem dX9_lookAtRound_39 : decode cX9_lookAtRound 39 = .ok (.aload_n 0, 1) := by decide +kernel
theorem dX9_lookAtRound_40 : decode cX9_lookAtRound 40 = .ok (.getfield 91, 3) := by decide +kernel
theorem dX9_lookAtRound_43 : decode cX9_lookAtRound 43 = .ok (.iload 5, 2) := by decide +kernel
theorem dX9_lookAtRound_45 : decode cX9_lookAtRound 45 = .ok (.iaload, 1) := by decide +kernel
theorem dX9_lookAtRound_46 : decode cX9_lookAtRound 46 = .ok (.iload 5, 2) := by decide +kernel
theorem dX9_lookAtRound_48 : decode cX9_lookAtRound 48 = .ok (.if_icmp .le 24, 3) := by decide +kernel
theorem dX9_lookAtRound_51 : decode cX9_lookAtRound 51 = .ok (.aload_n 0, 1) := by decide +kernel
theorem dX9_lookAtRound_52 : decode cX9_lookAtRound 52 = .ok (.getfield 85, 3) := by decide +kernel
theorem dX9_lookAtRound_55 : decode cX9_lookAtRound 55 = .ok (.bipush 8, 2) := by decide +kernel
theorem dX9_lookAtRound_57 : decode cX9_lookAtRound 57 = .ok (.iload 5, 2) := by decide +kernel
theorem dX9_lookAtRound_59 : decode cX9_lookAtRound 59 = .ok (.imul, 1) := by decide +kernel
theorem dX9_lookAtRound_60 : decode cX9_lookAtRound 60 = .ok (.aload_n 0, 1) := by decide +kernel
theorem dX9_lookAtRound_61 : decode cX9_lookAtRound 61 = .ok (.getfield 91, 3) := by decide +kernel
theorem dX9_lookAtRound_64 : decode cX9_lookAtRound 64 = .ok (.iload 5, 2) := by decide +kernel
theorem dX9_lookAtRound_66 : decode cX9_lookAtRound 66 = .ok (.iaload, 1) := by decide +kernel
theorem dX9_lookAtRound_67 : decode cX9_lookAtRound 67 = .ok (.iadd, 1) := by decide +kernel
theorem dX9_lookAtRound_68 : decode cX9_lookAtRound 68 = .ok (.iaload, 1) := by decide +kernel
theorem dX9_lookAtRound_69 : decode cX9_lookAtRound 69 = .ok (.goto 4, 3) := by decide +kernel
theorem dX9_lookAtRound_72 : decode cX9_lookAtRound 72 = .ok (.iconst 0, 1) := by decide +kernel
theorem dX9_lookAtRound_73 : decode cX9_lookAtRound 73 = .ok (.iadd, 1) := by decide +kernel
theorem dX9_lookAtRound_74 : decode cX9_lookAtRound 74 = .ok (.istore_n 3, 1) := by decide +kernel
theorem dX9_lookAtRound_75 : decode cX9_lookAtRound 75 = .ok (.iload 4, 2) := by decide +kernel
theorem dX9_lookAtRound_77 : decode cX9_lookAtRound 77 = .ok (.aload_n 0, 1) := by decide +kernel
theorem dX9_lookAtRound_78 : decode cX9_lookAtRound 78 = .ok (.getfield 91, 3) := by decide +kernel
theorem dX9_lookAtRound_81 : decode cX9_lookAtRound 81 = .ok (.iload 5, 2) := by decide +kernel
theorem dX9_lookAtRound_83 : decode cX9_lookAtRound 83 = .ok (.iaload, 1) := by decide +kernel
theorem dX9_lookAtRound_84 : decode cX9_lookAtRound 84 = .ok (.iload 5, 2) := by decide +kernel
theorem dX9_lookAtRound_86 : decode cX9_lookAtRound 86 = .ok (.if_icmp .le 29, 3) := by decide +kernel
theorem dX9_lookAtRound_89 : decode cX9_lookAtRound 89 = .ok (.aload_n 0, 1) := by decide +kernel
theorem dX9_lookAtRound_90 : decode cX9_lookAtRound 90 = .ok (.getfield 79, 3) := by decide +kernel
theorem dX9_lookAtRound_93 : decode cX9_lookAtRound 93 = .ok (.iload 5, 2) := by decide +kernel
theorem dX9_lookAtRound_95 : decode cX9_lookAtRound 95 = .ok (.iaload, 1) := by decide +kernel
theorem dX9_lookAtRound_96 : decode cX9_lookAtRound 96 = .ok (.aload_n 0, 1) := by decide +kernel
theorem dX9_lookAtRound_97 : decode cX9_lookAtRound 97 = .ok (.getfield 79, 3) := by decide +kernel
theorem dX9_lookAtRound_100 : decode cX9_lookAtRound 100 = .ok (.aload_n 0, 1) := by decide +kernel
theorem dX9_lookAtRound_101 : decode cX9_lookAtRound 101 = .ok (.getfield 91, 3) := by decide +kernel
theorem dX9_lookAtRound_104 : decode cX9_lookAtRound 104 = .ok (.iload 5, 2) := by decide +kernel
theorem dX9_lookAtRound_106 : decode cX9_lookAtRound 106 = .ok (.iaload, 1) := by decide +kernel
theorem dX9_lookAtRound_107 : decode cX9_lookAtRound 107 = .ok (.iaload, 1) := by decide +kernel
theorem dX9_lookAtRound_108 : decode cX9_lookAtRound 108 = .ok (.isub, 1) := by decide +kernel
theorem dX9_lookAtRound_109 : decode cX9_lookAtRound 109 = .ok (.invokestatic 101, 3) := by decide +kernel
theorem dX9_lookAtRound_112 : decode cX9_lookAtRound 112 = .ok (.goto 4, 3) := by decide +kernel
theorem dX9_lookAtRound_115 : decode cX9_lookAtRound 115 = .ok (.iconst 0, 1) := by decide +kernel
theorem dX9_lookAtRound_116 : decode cX9_lookAtRound 116 = .ok (.iadd, 1) := by decide +kernel
theorem dX9_lookAtRound_117 : decode cX9_lookAtRound 117 = .ok (.istore 4, 2) := by decide +kernel
theorem dX9_lookAtRound_119 : decode cX9_lookAtRound 119 = .ok (.iinc 5 1, 3) := by decide +kernel
theorem dX9_lookAtRound_122 : decode cX9_lookAtRound 122 = .ok (.goto (-112), 3) := by decide +kernel
theorem dX9_lookAtRound_125 : decode cX9_lookAtRound 125 = .ok (.aload_n 0, 1) := by decide +kernel
theorem dX9_lookAtRound_126 : decode cX9_lookAtRound 126 = .ok (.getfield 206, 3) := by decide +kernel
theorem dX9_lookAtRound_129 : decode cX9_lookAtRound 129 = .ok (.iconst (-1), 1) := by decide +kernel
theorem dX9_lookAtRound_130 : decode cX9_lookAtRound 130 = .ok (.if_icmp .eq 44, 3) := by decide +kernel
theorem dX9_lookAtRound_133 : decode cX9_lookAtRound 133 = .ok (.iload_n 2, 1) := by decide +kernel
theorem dX9_lookAtRound_134 : decode cX9_lookAtRound 134 = .ok (.aload_n 0, 1) := by decide +kernel
theorem dX9_lookAtRound_135 : decode cX9_lookAtRound 135 = .ok (.getfield 209, 3) := by decide +kernel
theorem dX9_lookAtRound_138 : decode cX9_lookAtRound 138 = .ok (.if_icmp .gt 36, 3) := by decide +kernel
theorem dX9_lookAtRound_141 : decode cX9_lookAtRound 141 = .ok (.iload_n 2, 1) := by decide +kernel
theorem dX9_lookAtRound_142 : decode cX9_lookAtRound 142 = .ok (.aload_n 0, 1) := by decide +kernel
theorem dX9_lookAtRound_143 : decode cX9_lookAtRound 143 = .ok (.getfield 209, 3) := by decide +kernel
theorem dX9_lookAtRound_146 : decode cX9_lookAtRound 146 = .ok (.if_icmp .ne 32, 3) := by decide +kernel
theorem dX9_lookAtRound_149 : decode cX9_lookAtRound 149 = .ok (.iload_n 3, 1) := by decide +kernel
theorem dX9_lookAtRound_150 : decode cX9_lookAtRound 150 = .ok (.aload_n 0, 1) := by decide +kernel
theorem dX9_lookAtRound_151 : decode cX9_lookAtRound 151 = .ok (.getfield 212, 3) := by decide +kernel
theorem dX9_lookAtRound_154 : decode cX9_lookAtRound 154 = .ok (.if_icmp .lt 20, 3) := by decide +kernel
theorem dX9_lookAtRound_157 : decode cX9_lookAtRound 157 = .ok (.iload_n 3, 1) := by decide +kernel
theorem dX9_lookAtRound_158 : decode cX9_lookAtRound 158 = .ok (.aload_n 0, 1) := by decide +kernel
theorem dX9_lookAtRound_159 : decode cX9_lookAtRound 159 = .ok (.getfield 212, 3) := by decide +kernel
theorem dX9_lookAtRound_162 : decode cX9_lookAtRound 162 = .ok (.if_icmp .ne 16, 3) := by decide +kernel
theorem dX9_lookAtRound_165 : decode cX9_lookAtRound 165 = .ok (.iload 4, 2) := by decide +kernel
theorem dX9_lookAtRound_167 : decode cX9_lookAtRound 167 = .ok (.aload_n 0, 1) := by decide +kernel
theorem dX9_lookAtRound_168 : decode cX9_lookAtRound 168 = .ok (.getfield 215, 3) := by decide +kernel
theorem dX9_lookAtRound_171 : decode cX9_lookAtRound 171 = .ok (.if_icmp .ge 7, 3) := by decide +kernel
theorem dX9_lookAtRound_174 : decode cX9_lookAtRound 174 = .ok (.iconst 1, 1) := by decide +kernel
theorem dX9_lookAtRound_175 : decode cX9_lookAtRound 175 = .ok (.goto 4, 3) := by decide +kernel
theorem dX9_lookAtRound_178 : decode cX9_lookAtRound 178 = .ok (.iconst 0, 1) := by decide +kernel
theorem dX9_lookAtRound_179 : decode cX9_lookAtRound 179 = .ok (.istore 5, 2) := by decide +kernel
theorem dX9_lookAtRound_181 : decode cX9_lookAtRound 181 = .ok (.iconst 0, 1) := by decide +kernel
theorem dX9_lookAtRound_182 : decode cX9_lookAtRound 182 = .ok (.istore 6, 2) := by decide +kernel
theorem dX9_lookAtRound_184 : decode cX9_lookAtRound 184 = .ok (.iload 6, 2) := by decide +kernel
theorem dX9_lookAtRound_186 : decode cX9_lookAtRound 186 = .ok (.bipush 8, 2) := by decide +kernel
theorem dX9_lookAtRound_188 : decode cX9_lookAtRound 188 = .ok (.if_icmp .ge 28, 3) := by decide +kernel
theorem dX9_lookAtRound_191 : decode cX9_lookAtRound 191 = .ok (.iload 5, 2) := by decide +kernel
theorem dX9_lookAtRound_193 : decode cX9_lookAtRound 193 = .ok (.ifCond .eq 23, 3) := by decide +kernel
theorem dX9_lookAtRound_196 : decode cX9_lookAtRound 196 = .ok (.aload_n 0, 1) := by decide +kernel
theorem dX9_lookAtRound_197 : decode cX9_lookAtRound 197 = .ok (.getfield 94, 3) := by decide +kernel
theorem dX9_lookAtRound_200 : decode cX9_lookAtRound 200 = .ok (.iload 6, 2) := by decide +kernel
theorem dX9_lookAtRound_202 : decode cX9_lookAtRound 202 = .ok (.aload_n 0, 1) := by decide +kernel
theorem dX9_lookAtRound_203 : decode cX9_lookAtRound 203 = .ok (.getfield 91, 3) := by decide +kernel
theorem dX9_lookAtRound_206 : decode cX9_lookAtRound 206 = .ok (.iload 6, 2) := by decide +kernel
theorem dX9_lookAtRound_208 : decode cX9_lookAtRound 208 = .ok (.iaload, 1) := by decide +kernel
theorem dX9_lookAtRound_209 : decode cX9_lookAtRound 209 = .ok (.iastore, 1) := by decide +kernel
theorem dX9_lookAtRound_210 : decode cX9_lookAtRound 210 = .ok (.iinc 6 1, 3) := by decide +kernel
theorem dX9_lookAtRound_213 : decode cX9_lookAtRound 213 = .ok (.goto (-29), 3) := by decide +kernel
theorem dX9_lookAtRound_216 : decode cX9_lookAtRound 216 = .ok (.aload_n 0, 1) := by decide +kernel
theorem dX9_lookAtRound_217 : decode cX9_lookAtRound 217 = .ok (.iload_n 1, 1) := by decide +kernel
theorem dX9_lookAtRound_218 : decode cX9_lookAtRound 218 = .ok (.putfield 206, 3) := by decide +kernel
theorem dX9_lookAtRound_221 : decode cX9_lookAtRound 221 = .ok (.aload_n 0, 1) := by decide +kernel
theorem dX9_lookAtRound_222 : decode cX9_lookAtRound 222 = .ok (.iload 5, 2) := by decide +kernel
theorem dX9_lookAtRound_224 : decode cX9_lookAtRound 224 = .ok (.ifCond .eq 7, 3) := by decide +kernel
theorem dX9_lookAtRound_227 : decode cX9_lookAtRound 227 = .ok (.iload_n 2, 1) := by decide +kernel
theorem dX9_lookAtRound_228 : decode cX9_lookAtRound 228 = .ok (.goto 7, 3) := by decide +kernel
theorem dX9_lookAtRound_231 : decode cX9_lookAtRound 231 = .ok (.aload_n 0, 1) := by decide +kernel
theorem dX9_lookAtRound_232 : decode cX9_lookAtRound 232 = .ok (.getfield 209, 3) := by decide +kernel
theorem dX9_lookAtRound_235 : decode cX9_lookAtRound 235 = .ok (.putfield 209, 3) := by decide +kernel
theorem dX9_lookAtRound_238 : decode cX9_lookAtRound 238 = .ok (.aload_n 0, 1) := by decide +kernel
theorem dX9_lookAtRound_239 : decode cX9_lookAtRound 239 = .ok (.iload 5, 2) := by decide +kernel
theorem dX9_lookAtRound_241 : decode cX9_lookAtRound 241 = .ok (.ifCond .eq 7, 3) := by decide +kernel
theorem dX9_lookAtRound_244 : decode cX9_lookAtRound 244 = .ok (.iload_n 3, 1) := by decide +kernel
theorem dX9_lookAtRound_245 : decode cX9_lookAtRound 245 = .ok (.goto 7, 3) := by decide +kernel
theorem dX9_lookAtRound_248 : decode cX9_lookAtRound 248 = .ok (.aload_n 0, 1) := by decide +kernel
theorem dX9_lookAtRound_249 : decode cX9_lookAtRound 249 = .ok (.getfield 212, 3) := by decide +kernel
theorem dX9_lookAtRound_252 : decode cX9_lookAtRound 252 = .ok (.putfield 212, 3) := by decide +kernel
theorem dX9_lookAtRound_255 : decode cX9_lookAtRound 255 = .ok (.aload_n 0, 1) := by decide +kernel
theorem dX9_lookAtRound_256 : decode cX9_lookAtRound 256 = .ok (.iload 5, 2) := by decide +kernel
theorem dX9_lookAtRound_258 : decode cX9_lookAtRound 258 = .ok (.ifCond .eq 8, 3) := by decide +kernel
theorem dX9_lookAtRound_261 : decode cX9_lookAtRound 261 = .ok (.iload 4, 2) := by decide +kernel
theorem dX9_lookAtRound_263 : decode cX9_lookAtRound 263 = .ok (.goto 7, 3) := by decide +kernel
theorem dX9_lookAtRound_266 : decode cX9_lookAtRound 266 = .ok (.aload_n 0, 1) := by decide +kernel
theorem dX9_lookAtRound_267 : decode cX9_lookAtRound 267 = .ok (.getfield 215, 3) := by decide +kernel
theorem dX9_lookAtRound_270 : decode cX9_lookAtRound 270 = .ok (.putfield 215, 3) := by decide +kernel
theorem dX9_lookAtRound_273 : decode cX9_lookAtRound 273 = .ok (.return_, 1) := by decide +kernel
set_option maxRecDepth 20000 in
theorem ggX9_findRound_X9_thereMany : GoodIn wsX9_findRound wsX9_thereMany := goodIn_r _ [10, 5, 28, 29, 30, 31, 32, 33, 34, 35, 36, 37, 38, 39, 40, 41, 42, 43, 44, 45, 46, 47, 48, 49, 50, 51, 52, 53, 54, 55, 56, 57, 58, 59, 60, 61, 62, 63, 64, 65] (by decide +kernel) (by decide +kernel)
set_option maxRecDepth 20000 in
theorem gX9_findRound_X9_thereMany : GoodIn wsX9_findRound (wsV RX9 203 RX9 yX9_thereMany wsX9_thereMany) := goodIn_app (goodIn_of _ (by decide +kernel)) ggX9_findRound_X9_thereMany
set_option maxRecDepth 20000 in
theorem ggX9_findRound_X9_lookAtRound : GoodIn wsX9_findRound wsX9_lookAtRound := goodIn_r _ [14, 4, 15, 16, 17, 2, 18, 19, 20, 21, 22, 23, 9, 24, 28, 29, 30, 31, 32, 33, 34, 35, 36, 37, 38, 39, 40, 41, 42, 43, 44, 45, 46, 47, 48, 49, 50, 51, 52, 53, 54, 55, 56, 57, 58, 59, 60, 61, 62, 63, 64, 65] (by decide +kernel) (by decide +kernel)
set_option maxRecDepth 20000 in
theorem gX9_findRound_X9_lookAtRound : GoodIn wsX9_findRound (wsV RX9 218 RX9 yX9_lookAtRound wsX9_lookAtRound) := goodIn_app (goodIn_of _ (by decide +kernel)) ggX9_findRound_X9_lookAtRound
set_option maxRecDepth 20000 in
theorem ggX9_findRound_X9_in : GoodIn wsX9_findRound wsX9_in := goodIn_r _ [27] (by decide +kernel) (by decide +kernel)
set_option maxRecDepth 20000 in
theorem gX9_findRound_X9_in : GoodIn wsX9_findRound (va_wsS RX9 97 yX9_in wsX9_in) := goodIn_app (goodIn_of _ (by decide +kernel)) ggX9_findRound_X9_in
theorem dX9_findRound_0 : decode cX9_findRound 0 = .ok (.aload_n 0, 1) := by decide +kernel
theorem dX9_findRound_1 : decode cX9_findRound 1 = .ok (.invokevirtual 203, 3) := by decide +kernel
theorem dX9_findRound_4 : decode cX9_findRound 4 = .ok (.iconst 2, 1) := by decide +kernel
theorem dX9_findRound_5 : decode cX9_findRound 5 = .ok (.idiv, 1) := by decide +kernel
theorem dX9_findRound_6 : decode cX9_findRound 6 = .ok (.istore_n 1, 1) := by decide +kernel
theorem dX9_findRound_7 : decode cX9_findRound 7 = .ok (.iload_n 1, 1) := by decide +kernel
theorem dX9_findRound_8 : decode cX9_findRound 8 = .ok (.aload_n 0, 1) := by decide +kernel
theorem dX9_findRound_9 : decode cX9_findRound 9 = .ok (.getfield 73, 3) := by decide +kernel
theorem dX9_findRound_12 : decode cX9_findRound 12 = .ok (.if_icmp .ge 7, 3) := by decide +kernel
theorem dX9_findRound_15 : decode cX9_findRound 15 = .ok (.iload_n 1, 1) := by decide +kernel
theorem dX9_findRound_16 : decode cX9_findRound 16 = .ok (.goto 7, 3) := by decide +kernel
theorem dX9_findRound_19 : decode cX9_findRound 19 = .ok (.aload_n 0, 1) := by decide +kernel
theorem dX9_findRound_20 : decode cX9_findRound 20 = .ok (.getfield 73, 3) := by decide +kernel
theorem dX9_findRound_23 : decode cX9_findRound 23 = .ok (.istore_n 1, 1) := by decide +kernel
theorem dX9_findRound_24 : decode cX9_findRound 24 = .ok (.aload_n 0, 1) := by decide +kernel
theorem dX9_findRound_25 : decode cX9_findRound 25 = .ok (.iconst (-1), 1) := by decide +kernel
theorem dX9_findRound_26 : decode cX9_findRound 26 = .ok (.putfield 206, 3) := by decide +kernel
theorem dX9_findRound_29 : decode cX9_findRound 29 = .ok (.iconst 0, 1) := by decide +kernel
theorem dX9_findRound_30 : decode cX9_findRound 30 = .ok (.istore_n 2, 1) := by decide +kernel
theorem dX9_findRound_31 : decode cX9_findRound 31 = .ok (.iconst 0, 1) := by decide +kernel
theorem dX9_findRound_32 : decode cX9_findRound 32 = .ok (.istore_n 3, 1) := by decide +kernel
theorem dX9_findRound_33 : decode cX9_findRound 33 = .ok (.iconst 0, 1) := by decide +kernel
theorem dX9_findRound_34 : decode cX9_findRound 34 = .ok (.istore 4, 2) := by decide +kernel
theorem dX9_findRound_36 : decode cX9_findRound 36 = .ok (.iload 4, 2) := by decide +kernel
theorem dX9_findRound_38 : decode cX9_findRound 38 = .ok (.bipush 8, 2) := by decide +kernel
theorem dX9_findRound_40 : decode cX9_findRound 40 = .ok (.if_icmp .ge 25, 3) := by decide +kernel
theorem dX9_findRound_43 : decode cX9_findRound 43 = .ok (.aload_n 0, 1) := by decide +kernel
theorem dX9_findRound_44 : decode cX9_findRound 44 = .ok (.getfield 88, 3) := by decide +kernel
theorem dX9_findRound_47 : decode cX9_findRound 47 = .ok (.iload 4, 2) := by decide +kernel
theorem dX9_findRound_49 : decode cX9_findRound 49 = .ok (.iconst (-1), 1) := by decide +kernel
theorem dX9_findRound_50 : decode cX9_findRound 50 = .ok (.iastore, 1) := by decide +kernel
theorem dX9_findRound_51 : decode cX9_findRound 51 = .ok (.aload_n 0, 1) := by decide +kernel
theorem dX9_findRound_52 : decode cX9_findRound 52 = .ok (.getfield 91, 3) := by decide +kernel
theorem dX9_findRound_55 : decode cX9_findRound 55 = .ok (.iload 4, 2) := by decide +kernel
theorem dX9_findRound_57 : decode cX9_findRound 57 = .ok (.iconst (-1), 1) := by decide +kernel
theorem dX9_findRound_58 : decode cX9_findRound 58 = .ok (.iastore, 1) := by decide +kernel
theorem dX9_findRound_59 : decode cX9_findRound 59 = .ok (.iinc 4 1, 3) := by decide +kernel
theorem dX9_findRound_62 : decode cX9_findRound 62 = .ok (.goto (-26), 3) := by decide +kernel
theorem dX9_findRound_65 : decode cX9_findRound 65 = .ok (.iload_n 3, 1) := by decide +kernel
theorem dX9_findRound_66 : decode cX9_findRound 66 = .ok (.ifCond .lt 254, 3) := by decide +kernel
theorem dX9_findRound_69 : decode cX9_findRound 69 = .ok (.iload_n 3, 1) := by decide +kernel
theorem dX9_findRound_70 : decode cX9_findRound 70 = .ok (.bipush 8, 2) := by decide +kernel
theorem dX9_findRound_72 : decode cX9_findRound 72 = .ok (.if_icmp .ne 7, 3) := by decide +kernel
theorem dX9_findRound_75 : decode cX9_findRound 75 = .ok (.iconst 1, 1) := by decide +kernel
theorem dX9_findRound_76 : decode cX9_findRound 76 = .ok (.goto 4, 3) := by decide +kernel
theorem dX9_findRound_79 : decode cX9_findRound 79 = .ok (.iconst 0, 1) := by decide +kernel
theorem dX9_findRound_80 : decode cX9_findRound 80 = .ok (.istore 4, 2) := by decide +kernel
theorem dX9_findRound_82 : decode cX9_findRound 82 = .ok (.iload 4, 2) := by decide +kernel
theorem dX9_findRound_84 : decode cX9_findRound 84 = .ok (.ifCond .eq 16, 3) := by decide +kernel
theorem dX9_findRound_87 : decode cX9_findRound 87 = .ok (.iload_n 2, 1) := by decide +kernel
theorem dX9_findRound_88 : decode cX9_findRound 88 = .ok (.iload_n 1, 1) := by decide +kernel
theorem dX9_findRound_89 : decode cX9_findRound 89 = .ok (.if_icmp .ne 215, 3) := by decide +kernel
theorem dX9_findRound_92 : decode cX9_findRound 92 = .ok (.aload_n 0, 1) := by decide +kernel
theorem dX9_findRound_93 : decode cX9_findRound 93 = .ok (.iload_n 2, 1) := by decide +kernel
theorem dX9_findRound_94 : decode cX9_findRound 94 = .ok (.invokevirtual 218, 3) := by decide +kernel
theorem dX9_findRound_97 : decode cX9_findRound 97 = .ok (.goto 207, 3) := by decide +kernel
theorem dX9_findRound_100 : decode cX9_findRound 100 = .ok (.aload_n 0, 1) := by decide +kernel
theorem dX9_findRound_101 : decode cX9_findRound 101 = .ok (.getfield 88, 3) := by decide +kernel
theorem dX9_findRound_104 : decode cX9_findRound 104 = .ok (.iload_n 3, 1) := by decide +kernel
theorem dX9_findRound_105 : decode cX9_findRound 105 = .ok (.iaload, 1) := by decide +kernel
theorem dX9_findRound_106 : decode cX9_findRound 106 = .ok (.istore 5, 2) := by decide +kernel
theorem dX9_findRound_108 : decode cX9_findRound 108 = .ok (.iload 5, 2) := by decide +kernel
theorem dX9_findRound_110 : decode cX9_findRound 110 = .ok (.iconst (-1), 1) := by decide +kernel
theorem dX9_findRound_111 : decode cX9_findRound 111 = .ok (.if_icmp .ne 20, 3) := by decide +kernel
theorem dX9_findRound_114 : decode cX9_findRound 114 = .ok (.aload_n 0, 1) := by decide +kernel
theorem dX9_findRound_115 : decode cX9_findRound 115 = .ok (.getfield 91, 3) := by decide +kernel
theorem dX9_findRound_118 : decode cX9_findRound 118 = .ok (.iload_n 3, 1) := by decide +kernel
theorem dX9_findRound_119 : decode cX9_findRound 119 = .ok (.iaload, 1) := by decide +kernel
theorem dX9_findRound_120 : decode cX9_findRound 120 = .ok (.iconst (-1), 1) := by decide +kernel
theorem dX9_findRound_121 : decode cX9_findRound 121 = .ok (.if_icmp .eq 10, 3) := by decide +kernel
theorem dX9_findRound_124 : decode cX9_findRound 124 = .ok (.bipush 9, 2) := by decide +kernel
theorem dX9_findRound_126 : decode cX9_findRound 126 = .ok (.istore 6, 2) := by decide +kernel
theorem dX9_findRound_128 : decode cX9_findRound 128 = .ok (.goto 98, 3) := by decide +kernel
theorem dX9_findRound_131 : decode cX9_findRound 131 = .ok (.iload 5, 2) := by decide +kernel
theorem dX9_findRound_133 : decode cX9_findRound 133 = .ok (.iconst 0, 1) := by decide +kernel
theorem dX9_findRound_134 : decode cX9_findRound 134 = .ok (.bipush 7, 2) := by decide +kernel
theorem dX9_findRound_136 : decode cX9_findRound 136 = .ok (.invokestatic 97, 3) := by decide +kernel
theorem dX9_findRound_139 : decode cX9_findRound 139 = .ok (.ifCond .eq 21, 3) := by decide +kernel
theorem dX9_findRound_142 : decode cX9_findRound 142 = .ok (.aload_n 0, 1) := by decide +kernel
theorem dX9_findRound_143 : decode cX9_findRound 143 = .ok (.getfield 91, 3) := by decide +kernel
theorem dX9_findRound_146 : decode cX9_findRound 146 = .ok (.iload_n 3, 1) := by decide +kernel
theorem dX9_findRound_147 : decode cX9_findRound 147 = .ok (.iconst (-1), 1) := by decide +kernel
theorem dX9_findRound_148 : decode cX9_findRound 148 = .ok (.iastore, 1) := by decide +kernel
theorem dX9_findRound_149 : decode cX9_findRound 149 = .ok (.aload_n 0, 1) := by decide +kernel
theorem dX9_findRound_150 : decode cX9_findRound 150 = .ok (.getfield 91, 3) := by decide +kernel
theorem dX9_findRound_153 : decode cX9_findRound 153 = .ok (.iload 5, 2) := by decide +kernel
theorem dX9_findRound_155 : decode cX9_findRound 155 = .ok (.iconst (-1), 1) := by decide +kernel
theorem dX9_findRound_156 : decode cX9_findRound 156 = .ok (.iastore, 1) := by decide +kernel
theorem dX9_findRound_157 : decode cX9_findRound 157 = .ok (.iinc 2 (-1), 3) := by decide +kernel
theorem dX9_findRound_160 : decode cX9_findRound 160 = .ok (.iload 5, 2) := by decide +kernel
theorem dX9_findRound_162 : decode cX9_findRound 162 = .ok (.iconst (-1), 1) := by decide +kernel
theorem dX9_findRound_163 : decode cX9_findRound 163 = .ok (.if_icmp .ne 9, 3) := by decide +kernel
theorem dX9_findRound_166 : decode cX9_findRound 166 = .ok (.iload_n 3, 1) := by decide +kernel
theorem dX9_findRound_167 : decode cX9_findRound 167 = .ok (.iconst 1, 1) := by decide +kernel
theorem dX9_findRound_168 : decode cX9_findRound 168 = .ok (.iadd, 1) := by decide +kernel
theorem dX9_findRound_169 : decode cX9_findRound 169 = .ok (.goto 7, 3) := by decide +kernel
theorem dX9_findRound_172 : decode cX9_findRound 172 = .ok (.iload 5, 2) := by decide +kernel
theorem dX9_findRound_174 : decode cX9_findRound 174 = .ok (.iconst 1, 1) := by decide +kernel
theorem dX9_findRound_175 : decode cX9_findRound 175 = .ok (.iadd, 1) := by decide +kernel
theorem dX9_findRound_176 : decode cX9_findRound 176 = .ok (.istore 6, 2) := by decide +kernel
theorem dX9_findRound_178 : decode cX9_findRound 178 = .ok (.iload 6, 2) := by decide +kernel
theorem dX9_findRound_180 : decode cX9_findRound 180 = .ok (.bipush 8, 2) := by decide +kernel
theorem dX9_findRound_182 : decode cX9_findRound 182 = .ok (.if_icmp .ge 44, 3) := by decide +kernel
theorem dX9_findRound_185 : decode cX9_findRound 185 = .ok (.aload_n 0, 1) := by decide +kernel
theorem dX9_findRound_186 : decode cX9_findRound 186 = .ok (.getfield 76, 3) := by decide +kernel
theorem dX9_findRound_189 : decode cX9_findRound 189 = .ok (.iload_n 3, 1) := by decide +kernel
theorem dX9_findRound_190 : decode cX9_findRound 190 = .ok (.baload, 1) := by decide +kernel
theorem dX9_findRound_191 : decode cX9_findRound 191 = .ok (.ifCond .eq 29, 3) := by decide +kernel
theorem dX9_findRound_194 : decode cX9_findRound 194 = .ok (.aload_n 0, 1) := by decide +kernel
theorem dX9_findRound_195 : decode cX9_findRound 195 = .ok (.getfield 76, 3) := by decide +kernel
theorem dX9_findRound_198 : decode cX9_findRound 198 = .ok (.iload 6, 2) := by decide +kernel
theorem dX9_findRound_200 : decode cX9_findRound 200 = .ok (.baload, 1) := by decide +kernel
theorem dX9_findRound_201 : decode cX9_findRound 201 = .ok (.ifCond .eq 19, 3) := by decide +kernel
theorem dX9_findRound_204 : decode cX9_findRound 204 = .ok (.aload_n 0, 1) := by decide +kernel
theorem dX9_findRound_205 : decode cX9_findRound 205 = .ok (.getfield 91, 3) := by decide +kernel
theorem dX9_findRound_208 : decode cX9_findRound 208 = .ok (.iload 6, 2) := by decide +kernel
theorem dX9_findRound_210 : decode cX9_findRound 210 = .ok (.iaload, 1) := by decide +kernel
theorem dX9_findRound_211 : decode cX9_findRound 211 = .ok (.iconst (-1), 1) := by decide +kernel
theorem dX9_findRound_212 : decode cX9_findRound 212 = .ok (.if_icmp .ne 8, 3) := by decide +kernel
theorem dX9_findRound_215 : decode cX9_findRound 215 = .ok (.iload_n 2, 1) := by decide +kernel
theorem dX9_findRound_216 : decode cX9_findRound 216 = .ok (.iload_n 1, 1) := by decide +kernel
theorem dX9_findRound_217 : decode cX9_findRound 217 = .ok (.if_icmp .ne 9, 3) := by decide +kernel
theorem dX9_findRound_220 : decode cX9_findRound 220 = .ok (.iinc 6 1, 3) := by decide +kernel
theorem dX9_findRound_223 : decode cX9_findRound 223 = .ok (.goto (-45), 3) := by decide +kernel
theorem dX9_findRound_226 : decode cX9_findRound 226 = .ok (.iload 5, 2) := by decide +kernel
theorem dX9_findRound_228 : decode cX9_findRound 228 = .ok (.bipush 9, 2) := by decide +kernel
theorem dX9_findRound_230 : decode cX9_findRound 230 = .ok (.if_icmp .eq 16, 3) := by decide +kernel
theorem dX9_findRound_233 : decode cX9_findRound 233 = .ok (.iload 6, 2) := by decide +kernel
theorem dX9_findRound_235 : decode cX9_findRound 235 = .ok (.bipush 8, 2) := by decide +kernel
theorem dX9_findRound_237 : decode cX9_findRound 237 = .ok (.if_icmp .le 13, 3) := by decide +kernel
theorem dX9_findRound_240 : decode cX9_findRound 240 = .ok (.iload 5, 2) := by decide +kernel
theorem dX9_findRound_242 : decode cX9_findRound 242 = .ok (.iconst (-1), 1) := by decide +kernel
theorem dX9_findRound_243 : decode cX9_findRound 243 = .ok (.if_icmp .eq 7, 3) := by decide +kernel
theorem dX9_findRound_246 : decode cX9_findRound 246 = .ok (.iconst 1, 1) := by decide +kernel
theorem dX9_findRound_247 : decode cX9_findRound 247 = .ok (.goto 4, 3) := by decide +kernel
theorem dX9_findRound_250 : decode cX9_findRound 250 = .ok (.iconst 0, 1) := by decide +kernel
theorem dX9_findRound_251 : decode cX9_findRound 251 = .ok (.istore 4, 2) := by decide +kernel
theorem dX9_findRound_253 : decode cX9_findRound 253 = .ok (.aload_n 0, 1) := by decide +kernel
theorem dX9_findRound_254 : decode cX9_findRound 254 = .ok (.getfield 88, 3) := by decide +kernel
theorem dX9_findRound_257 : decode cX9_findRound 257 = .ok (.iload_n 3, 1) := by decide +kernel
theorem dX9_findRound_258 : decode cX9_findRound 258 = .ok (.iload 4, 2) := by decide +kernel
theorem dX9_findRound_260 : decode cX9_findRound 260 = .ok (.ifCond .eq 7, 3) := by decide +kernel
theorem dX9_findRound_263 : decode cX9_findRound 263 = .ok (.iconst (-1), 1) := by decide +kernel
theorem dX9_findRound_264 : decode cX9_findRound 264 = .ok (.goto 5, 3) := by decide +kernel
theorem dX9_findRound_267 : decode cX9_findRound 267 = .ok (.iload 6, 2) := by decide +kernel
theorem dX9_findRound_269 : decode cX9_findRound 269 = .ok (.iastore, 1) := by decide +kernel
theorem dX9_findRound_270 : decode cX9_findRound 270 = .ok (.iload 4, 2) := by decide +kernel
theorem dX9_findRound_272 : decode cX9_findRound 272 = .ok (.ifCond .ne 32, 3) := by decide +kernel
theorem dX9_findRound_275 : decode cX9_findRound 275 = .ok (.iload 6, 2) := by decide +kernel
theorem dX9_findRound_277 : decode cX9_findRound 277 = .ok (.bipush 8, 2) := by decide +kernel
theorem dX9_findRound_279 : decode cX9_findRound 279 = .ok (.if_icmp .ge 22, 3) := by decide +kernel
theorem dX9_findRound_282 : decode cX9_findRound 282 = .ok (.aload_n 0, 1) := by decide +kernel
theorem dX9_findRound_283 : decode cX9_findRound 283 = .ok (.getfield 91, 3) := by decide +kernel
theorem dX9_findRound_286 : decode cX9_findRound 286 = .ok (.iload_n 3, 1) := by decide +kernel
theorem dX9_findRound_287 : decode cX9_findRound 287 = .ok (.iload 6, 2) := by decide +kernel
theorem dX9_findRound_289 : decode cX9_findRound 289 = .ok (.iastore, 1) := by decide +kernel
theorem dX9_findRound_290 : decode cX9_findRound 290 = .ok (.aload_n 0, 1) := by decide +kernel
theorem dX9_findRound_291 : decode cX9_findRound 291 = .ok (.getfield 91, 3) := by decide +kernel
theorem dX9_findRound_294 : decode cX9_findRound 294 = .ok (.iload 6, 2) := by decide +kernel
theorem dX9_findRound_296 : decode cX9_findRound 296 = .ok (.iload_n 3, 1) := by decide +kernel
theorem dX9_findRound_297 : decode cX9_findRound 297 = .ok (.iastore, 1) := by decide +kernel
theorem dX9_findRound_298 : decode cX9_findRound 298 = .ok (.iinc 2 1, 3) := by decide +kernel
theorem dX9_findRound_301 : decode cX9_findRound 301 = .ok (.iinc 3 1, 3) := by decide +kernel
theorem dX9_findRound_304 : decode cX9_findRound 304 = .ok (.iload_n 3, 1) := by decide +kernel
theorem dX9_findRound_305 : decode cX9_findRound 305 = .ok (.iload 4, 2) := by decide +kernel
theorem dX9_findRound_307 : decode cX9_findRound 307 = .ok (.ifCond .eq 7, 3) := by decide +kernel
theorem dX9_findRound_310 : decode cX9_findRound 310 = .ok (.iconst 1, 1) := by decide +kernel
theorem dX9_findRound_311 : decode cX9_findRound 311 = .ok (.goto 4, 3) := by decide +kernel
theorem dX9_findRound_314 : decode cX9_findRound 314 = .ok (.iconst 0, 1) := by decide +kernel
theorem dX9_findRound_315 : decode cX9_findRound 315 = .ok (.isub, 1) := by decide +kernel
theorem dX9_findRound_316 : decode cX9_findRound 316 = .ok (.istore_n 3, 1) := by decide +kernel
theorem dX9_findRound_317 : decode cX9_findRound 317 = .ok (.goto (-252), 3) := by decide +kernel
theorem dX9_findRound_320 : decode cX9_findRound 320 = .ok (.return_, 1) := by decide +kernel
set_option maxRecDepth 20000 in
theorem ggX9_against_X9_isPlayer : GoodIn wsX9_against wsX9_isPlayer := goodIn_r _ [5, 6, 7, 4, 8] (by decide +kernel) (by decide +kernel)
set_option maxRecDepth 20000 in
theorem gX9_against_X9_isPlayer : GoodIn wsX9_against (va_wsS RX9 125 yX9_isPlayer wsX9_isPlayer) := goodIn_app (goodIn_of _ (by decide +kernel)) ggX9_against_X9_isPlayer
set_option maxRecDepth 20000 in
theorem ggX9_against_X9_findRound : GoodIn wsX9_against wsX9_findRound := goodIn_r _ [12, 13, 14, 15, 16, 17, 18, 19, 20, 4, 21, 22, 23, 24, 25, 26, 27, 28, 29, 30, 31, 1, 32, 33, 34, 6, 7, 8, 35, 36, 37, 38, 39, 40, 41, 42, 43, 44, 45, 46, 47, 48, 49, 50, 51, 52, 53, 54, 55, 56, 57, 58, 59, 60, 61, 62, 63, 64, 65, 66, 67, 68, 69, 70, 71, 72] (by decide +kernel) (by decide +kernel)
set_option maxRecDepth 20000 in
theorem gX9_against_X9_findRound : GoodIn wsX9_against (wsV RX9 222 RX9 yX9_findRound wsX9_findRound) := goodIn_app (goodIn_of _ (by decide +kernel)) ggX9_against_X9_findRound
theorem dX9_against_0 : decode cX9_against 0 = .ok (.iload_n 1, 1) := by decide +kernel
theorem dX9_against_1 : decode cX9_against 1 = .ok (.invokestatic 125, 3) := by decide +kernel
theorem dX9_against_4 : decode cX9_against 4 = .ok (.ifCond .ne 6, 3) := by decide +kernel
theorem dX9_against_7 : decode cX9_against 7 = .ok (.bipush (-2), 2) := by decide +kernel
theorem dX9_against_9 : decode cX9_against 9 = .ok (.ireturn, 1) := by decide +kernel
theorem dX9_against_10 : decode cX9_against 10 = .ok (.aload_n 0, 1) := by decide +kernel
theorem dX9_against_11 : decode cX9_against 11 = .ok (.invokevirtual 222, 3) := by decide +kernel
theorem dX9_against_14 : decode cX9_against 14 = .ok (.aload_n 0, 1) := by decide +kernel
theorem dX9_against_15 : decode cX9_against 15 = .ok (.getfield 94, 3) := by decide +kernel
theorem dX9_against_18 : decode cX9_against 18 = .ok (.iload_n 1, 1) := by decide +kernel
theorem dX9_against_19 : decode cX9_against 19 = .ok (.iaload, 1) := by decide +kernel
theorem dX9_against_20 : decode cX9_against 20 = .ok (.ireturn, 1) := by decide +kernel
set_option maxRecDepth 20000 in
theorem ggX9_round_X9_in : GoodIn wsX9_round wsX9_in := goodIn_r _ [8] (by decide +kernel) (by decide +kernel)
set_option maxRecDepth 20000 in
theorem gX9_round_X9_in : GoodIn wsX9_round (va_wsS RX9 97 yX9_in wsX9_in) := goodIn_app (goodIn_of _ (by decide +kernel)) ggX9_round_X9_in
set_option maxRecDepth 20000 in
theorem ggX9_round_X9_findRound : GoodIn wsX9_round wsX9_findRound := goodIn_r _ [12, 13, 1, 14, 15, 16, 17, 18, 19, 7, 20, 21, 22, 23, 24, 25, 26, 27, 2, 3, 4, 28, 29, 30, 31, 5, 6, 8, 32, 33, 34, 35, 36, 37, 38, 39, 40, 41, 42, 43, 44, 45, 46, 47, 48, 49, 50, 51, 52, 53, 54, 55, 56, 57, 58, 59, 60, 61, 62, 63, 64, 65, 66, 67, 68, 69] (by decide +kernel) (by decide +kernel)
set_option maxRecDepth 20000 in
theorem gX9_round_X9_findRound : GoodIn wsX9_round (wsV RX9 222 RX9 yX9_findRound wsX9_findRound) := goodIn_app (goodIn_of _ (by decide +kernel)) ggX9_round_X9_findRound
theorem dX9_round_0 : decode cX9_round 0 = .ok (.iload_n 1, 1) := by decide +kernel
theorem dX9_round_1 : decode cX9_round 1 = .ok (.iconst 0, 1) := by decide +kernel
theorem dX9_round_2 : decode cX9_round 2 = .ok (.iconst 3, 1) := by decide +kernel
theorem dX9_round_3 : decode cX9_round 3 = .ok (.invokestatic 97, 3) := by decide +kernel
theorem dX9_round_6 : decode cX9_round 6 = .ok (.ifCond .ne 6, 3) := by decide +kernel
theorem dX9_round_9 : decode cX9_round 9 = .ok (.bipush (-3), 2) := by decide +kernel
theorem dX9_round_11 : decode cX9_round 11 = .ok (.ireturn, 1) := by decide +kernel
theorem dX9_round_12 : decode cX9_round 12 = .ok (.aload_n 0, 1) := by decide +kernel
theorem dX9_round_13 : decode cX9_round 13 = .ok (.invokevirtual 222, 3) := by decide +kernel
theorem dX9_round_16 : decode cX9_round 16 = .ok (.iload_n 1, 1) := by decide +kernel
theorem dX9_round_17 : decode cX9_round 17 = .ok (.ifCond .ne 10, 3) := by decide +kernel
theorem dX9_round_20 : decode cX9_round 20 = .ok (.aload_n 0, 1) := by decide +kernel
theorem dX9_round_21 : decode cX9_round 21 = .ok (.getfield 206, 3) := by decide +kernel
theorem dX9_round_24 : decode cX9_round 24 = .ok (.goto 31, 3) := by decide +kernel
theorem dX9_round_27 : decode cX9_round 27 = .ok (.iload_n 1, 1) := by decide +kernel
theorem dX9_round_28 : decode cX9_round 28 = .ok (.iconst 1, 1) := by decide +kernel
theorem dX9_round_29 : decode cX9_round 29 = .ok (.if_icmp .ne 10, 3) := by decide +kernel
theorem dX9_round_32 : decode cX9_round 32 = .ok (.aload_n 0, 1) := by decide +kernel
theorem dX9_round_33 : decode cX9_round 33 = .ok (.getfield 209, 3) := by decide +kernel
theorem dX9_round_36 : decode cX9_round 36 = .ok (.goto 19, 3) := by decide +kernel
theorem dX9_round_39 : decode cX9_round 39 = .ok (.iload_n 1, 1) := by decide +kernel
theorem dX9_round_40 : decode cX9_round 40 = .ok (.iconst 2, 1) := by decide +kernel
theorem dX9_round_41 : decode cX9_round 41 = .ok (.if_icmp .ne 10, 3) := by decide +kernel
theorem dX9_round_44 : decode cX9_round 44 = .ok (.aload_n 0, 1) := by decide +kernel
theorem dX9_round_45 : decode cX9_round 45 = .ok (.getfield 212, 3) := by decide +kernel
theorem dX9_round_48 : decode cX9_round 48 = .ok (.goto 7, 3) := by decide +kernel
theorem dX9_round_51 : decode cX9_round 51 = .ok (.aload_n 0, 1) := by decide +kernel
theorem dX9_round_52 : decode cX9_round 52 = .ok (.getfield 215, 3) := by decide +kernel
theorem dX9_round_55 : decode cX9_round 55 = .ok (.ireturn, 1) := by decide +kernel
set_option maxRecDepth 20000 in
theorem ggX9_played_X9_findRound : GoodIn wsX9_played wsX9_findRound := goodIn_r _ [11, 12, 6, 13, 14, 1, 15, 16, 17, 10, 18, 19, 20, 21, 22, 2, 4, 23, 24, 25, 26, 3, 27, 28, 29, 30, 31, 32, 33, 34, 35, 36, 37, 38, 39, 40, 41, 42, 43, 44, 45, 46, 47, 48, 49, 50, 51, 52, 53, 54, 55, 56, 57, 58, 59, 60, 61, 62, 63, 64, 65, 66, 67, 68, 69, 70] (by decide +kernel) (by decide +kernel)
set_option maxRecDepth 20000 in
theorem gX9_played_X9_findRound : GoodIn wsX9_played (wsV RX9 222 RX9 yX9_findRound wsX9_findRound) := goodIn_app (goodIn_of _ (by decide +kernel)) ggX9_played_X9_findRound
theorem dX9_played_0 : decode cX9_played 0 = .ok (.aload_n 0, 1) := by decide +kernel
theorem dX9_played_1 : decode cX9_played 1 = .ok (.invokevirtual 222, 3) := by decide +kernel
theorem dX9_played_4 : decode cX9_played 4 = .ok (.iconst 0, 1) := by decide +kernel
theorem dX9_played_5 : decode cX9_played 5 = .ok (.istore_n 1, 1) := by decide +kernel
theorem dX9_played_6 : decode cX9_played 6 = .ok (.iload_n 1, 1) := by decide +kernel
theorem dX9_played_7 : decode cX9_played 7 = .ok (.bipush 8, 2) := by decide +kernel
theorem dX9_played_9 : decode cX9_played 9 = .ok (.if_icmp .ge 76, 3) := by decide +kernel
theorem dX9_played_12 : decode cX9_played 12 = .ok (.aload_n 0, 1) := by decide +kernel
theorem dX9_played_13 : decode cX9_played 13 = .ok (.getfield 76, 3) := by decide +kernel
theorem dX9_played_16 : decode cX9_played 16 = .ok (.iload_n 1, 1) := by decide +kernel
theorem dX9_played_17 : decode cX9_played 17 = .ok (.baload, 1) := by decide +kernel
theorem dX9_played_18 : decode cX9_played 18 = .ok (.ifCond .eq 61, 3) := by decide +kernel
theorem dX9_played_21 : decode cX9_played 21 = .ok (.aload_n 0, 1) := by decide +kernel
theorem dX9_played_22 : decode cX9_played 22 = .ok (.getfield 82, 3) := by decide +kernel
theorem dX9_played_25 : decode cX9_played 25 = .ok (.iload_n 1, 1) := by decide +kernel
theorem dX9_played_26 : decode cX9_played 26 = .ok (.aload_n 0, 1) := by decide +kernel
theorem dX9_played_27 : decode cX9_played 27 = .ok (.getfield 94, 3) := by decide +kernel
theorem dX9_played_30 : decode cX9_played 30 = .ok (.iload_n 1, 1) := by decide +kernel
theorem dX9_played_31 : decode cX9_played 31 = .ok (.iaload, 1) := by decide +kernel
theorem dX9_played_32 : decode cX9_played 32 = .ok (.iconst (-1), 1) := by decide +kernel
theorem dX9_played_33 : decode cX9_played 33 = .ok (.if_icmp .ne 14, 3) := by decide +kernel
theorem dX9_played_36 : decode cX9_played 36 = .ok (.aload_n 0, 1) := by decide +kernel
theorem dX9_played_37 : decode cX9_played 37 = .ok (.getfield 82, 3) := by decide +kernel
theorem dX9_played_40 : decode cX9_played 40 = .ok (.iload_n 1, 1) := by decide +kernel
theorem dX9_played_41 : decode cX9_played 41 = .ok (.iaload, 1) := by decide +kernel
theorem dX9_played_42 : decode cX9_played 42 = .ok (.iconst 1, 1) := by decide +kernel
theorem dX9_played_43 : decode cX9_played 43 = .ok (.iadd, 1) := by decide +kernel
theorem dX9_played_44 : decode cX9_played 44 = .ok (.goto 4, 3) := by decide +kernel
theorem dX9_played_47 : decode cX9_played 47 = .ok (.iconst 0, 1) := by decide +kernel
theorem dX9_played_48 : decode cX9_played 48 = .ok (.iastore, 1) := by decide +kernel
theorem dX9_played_49 : decode cX9_played 49 = .ok (.aload_n 0, 1) := by decide +kernel
theorem dX9_played_50 : decode cX9_played 50 = .ok (.getfield 94, 3) := by decide +kernel
theorem dX9_played_53 : decode cX9_played 53 = .ok (.iload_n 1, 1) := by decide +kernel
theorem dX9_played_54 : decode cX9_played 54 = .ok (.iaload, 1) := by decide +kernel
theorem dX9_played_55 : decode cX9_played 55 = .ok (.iconst (-1), 1) := by decide +kernel
theorem dX9_played_56 : decode cX9_played 56 = .ok (.if_icmp .eq 23, 3) := by decide +kernel
theorem dX9_played_59 : decode cX9_played 59 = .ok (.aload_n 0, 1) := by decide +kernel
theorem dX9_played_60 : decode cX9_played 60 = .ok (.getfield 85, 3) := by decide +kernel
theorem dX9_played_63 : decode cX9_played 63 = .ok (.bipush 8, 2) := by decide +kernel
theorem dX9_played_65 : decode cX9_played 65 = .ok (.iload_n 1, 1) := by decide +kernel
theorem dX9_played_66 : decode cX9_played 66 = .ok (.imul, 1) := by decide +kernel
theorem dX9_played_67 : decode cX9_played 67 = .ok (.aload_n 0, 1) := by decide +kernel
theorem dX9_played_68 : decode cX9_played 68 = .ok (.getfield 94, 3) := by decide +kernel
theorem dX9_played_71 : decode cX9_played 71 = .ok (.iload_n 1, 1) := by decide +kernel
theorem dX9_played_72 : decode cX9_played 72 = .ok (.iaload, 1) := by decide +kernel
theorem dX9_played_73 : decode cX9_played 73 = .ok (.iadd, 1) := by decide +kernel
theorem dX9_played_74 : decode cX9_played 74 = .ok (.dup2, 1) := by decide +kernel
theorem dX9_played_75 : decode cX9_played 75 = .ok (.iaload, 1) := by decide +kernel
theorem dX9_played_76 : decode cX9_played 76 = .ok (.iconst 1, 1) := by decide +kernel
theorem dX9_played_77 : decode cX9_played 77 = .ok (.iadd, 1) := by decide +kernel
theorem dX9_played_78 : decode cX9_played 78 = .ok (.iastore, 1) := by decide +kernel
theorem dX9_played_79 : decode cX9_played 79 = .ok (.iinc 1 1, 3) := by decide +kernel
theorem dX9_played_82 : decode cX9_played 82 = .ok (.goto (-76), 3) := by decide +kernel
theorem dX9_played_85 : decode cX9_played 85 = .ok (.aload_n 0, 1) := by decide +kernel
theorem dX9_played_86 : decode cX9_played 86 = .ok (.dup, 1) := by decide +kernel
theorem dX9_played_87 : decode cX9_played 87 = .ok (.getfield 225, 3) := by decide +kernel
theorem dX9_played_90 : decode cX9_played 90 = .ok (.iconst 1, 1) := by decide +kernel
theorem dX9_played_91 : decode cX9_played 91 = .ok (.iadd, 1) := by decide +kernel
theorem dX9_played_92 : decode cX9_played 92 = .ok (.putfield 225, 3) := by decide +kernel
theorem dX9_played_95 : decode cX9_played 95 = .ok (.aload_n 0, 1) := by decide +kernel
theorem dX9_played_96 : decode cX9_played 96 = .ok (.getfield 206, 3) := by decide +kernel
theorem dX9_played_99 : decode cX9_played 99 = .ok (.ireturn, 1) := by decide +kernel
set_option maxRecDepth 20000 in
theorem ggX9_had_X9_isPlayer : GoodIn wsX9_had wsX9_isPlayer := goodIn_r _ [5, 6, 7, 4, 8] (by decide +kernel) (by decide +kernel)
set_option maxRecDepth 20000 in
theorem gX9_had_X9_isPlayer : GoodIn wsX9_had (va_wsS RX9 125 yX9_isPlayer wsX9_isPlayer) := goodIn_app (goodIn_of _ (by decide +kernel)) ggX9_had_X9_isPlayer
theorem dX9_had_0 : decode cX9_had 0 = .ok (.iload_n 1, 1) := by decide +kernel
theorem dX9_had_1 : decode cX9_had 1 = .ok (.invokestatic 125, 3) := by decide +kernel
theorem dX9_had_4 : decode cX9_had 4 = .ok (.ifCond .eq 29, 3) := by decide +kernel
theorem dX9_had_7 : decode cX9_had 7 = .ok (.iload_n 2, 1) := by decide +kernel
theorem dX9_had_8 : decode cX9_had 8 = .ok (.invokestatic 125, 3) := by decide +kernel
theorem dX9_had_11 : decode cX9_had 11 = .ok (.ifCond .eq 22, 3) := by decide +kernel
theorem dX9_had_14 : decode cX9_had 14 = .ok (.iload_n 1, 1) := by decide +kernel
theorem dX9_had_15 : decode cX9_had 15 = .ok (.iload_n 2, 1) := by decide +kernel
theorem dX9_had_16 : decode cX9_had 16 = .ok (.if_icmp .eq 17, 3) := by decide +kernel
theorem dX9_had_19 : decode cX9_had 19 = .ok (.aload_n 0, 1) := by decide +kernel
theorem dX9_had_20 : decode cX9_had 20 = .ok (.getfield 85, 3) := by decide +kernel
theorem dX9_had_23 : decode cX9_had 23 = .ok (.bipush 8, 2) := by decide +kernel
theorem dX9_had_25 : decode cX9_had 25 = .ok (.iload_n 1, 1) := by decide +kernel
theorem dX9_had_26 : decode cX9_had 26 = .ok (.imul, 1) := by decide +kernel
theorem dX9_had_27 : decode cX9_had 27 = .ok (.iload_n 2, 1) := by decide +kernel
theorem dX9_had_28 : decode cX9_had 28 = .ok (.iadd, 1) := by decide +kernel
theorem dX9_had_29 : decode cX9_had 29 = .ok (.iaload, 1) := by decide +kernel
theorem dX9_had_30 : decode cX9_had 30 = .ok (.goto 5, 3) := by decide +kernel
theorem dX9_had_33 : decode cX9_had 33 = .ok (.bipush (-2), 2) := by decide +kernel
theorem dX9_had_35 : decode cX9_had 35 = .ok (.ireturn, 1) := by decide +kernel
set_option maxRecDepth 20000 in
theorem ggX9_of_X9_isPlayer : GoodIn wsX9_of wsX9_isPlayer := goodIn_r _ [9, 10, 11, 8, 12] (by decide +kernel) (by decide +kernel)
set_option maxRecDepth 20000 in
theorem gX9_of_X9_isPlayer : GoodIn wsX9_of (va_wsS RX9 125 yX9_isPlayer wsX9_isPlayer) := goodIn_app (goodIn_of _ (by decide +kernel)) ggX9_of_X9_isPlayer
set_option maxRecDepth 20000 in
theorem ggX9_of_X9_stride : GoodIn wsX9_of wsX9_stride := goodIn_r _ [16, 17, 1, 18, 19, 20, 21, 22, 23, 24, 25, 26, 27, 28, 29, 30, 31, 32, 33, 34, 35, 36, 37, 38, 39, 40, 41, 42, 43, 44, 45, 46, 47, 48, 49, 50, 51, 52, 53, 54, 55] (by decide +kernel) (by decide +kernel)
set_option maxRecDepth 20000 in
theorem gX9_of_X9_stride : GoodIn wsX9_of (wsV RX9 132 RX9 yX9_stride wsX9_stride) := goodIn_app (goodIn_of _ (by decide +kernel)) ggX9_of_X9_stride
theorem dX9_of_0 : decode cX9_of 0 = .ok (.iload_n 1, 1) := by decide +kernel
theorem dX9_of_1 : decode cX9_of 1 = .ok (.invokestatic 125, 3) := by decide +kernel
theorem dX9_of_4 : decode cX9_of 4 = .ok (.ifCond .ne 6, 3) := by decide +kernel
theorem dX9_of_7 : decode cX9_of 7 = .ok (.bipush (-2), 2) := by decide +kernel
theorem dX9_of_9 : decode cX9_of 9 = .ok (.ireturn, 1) := by decide +kernel
theorem dX9_of_10 : decode cX9_of 10 = .ok (.iconst 0, 1) := by decide +kernel
theorem dX9_of_11 : decode cX9_of 11 = .ok (.istore_n 3, 1) := by decide +kernel
theorem dX9_of_12 : decode cX9_of 12 = .ok (.iload_n 2, 1) := by decide +kernel
theorem dX9_of_13 : decode cX9_of 13 = .ok (.tableswitch 121 0 4 #[35, 41, 48, 68, 88], 35) := by decide +kernel
theorem dX9_of_48 : decode cX9_of 48 = .ok (.aload_n 0, 1) := by decide +kernel
theorem dX9_of_49 : decode cX9_of 49 = .ok (.iload_n 1, 1) := by decide +kernel
theorem dX9_of_50 : decode cX9_of 50 = .ok (.invokevirtual 132, 3) := by decide +kernel
theorem dX9_of_53 : decode cX9_of 53 = .ok (.ireturn, 1) := by decide +kernel
theorem dX9_of_54 : decode cX9_of 54 = .ok (.aload_n 0, 1) := by decide +kernel
theorem dX9_of_55 : decode cX9_of 55 = .ok (.getfield 25, 3) := by decide +kernel
theorem dX9_of_58 : decode cX9_of 58 = .ok (.iload_n 1, 1) := by decide +kernel
theorem dX9_of_59 : decode cX9_of 59 = .ok (.iaload, 1) := by decide +kernel
theorem dX9_of_60 : decode cX9_of 60 = .ok (.ireturn, 1) := by decide +kernel
theorem dX9_of_61 : decode cX9_of 61 = .ok (.aload_n 0, 1) := by decide +kernel
theorem dX9_of_62 : decode cX9_of 62 = .ok (.getfield 76, 3) := by decide +kernel
theorem dX9_of_65 : decode cX9_of 65 = .ok (.iload_n 1, 1) := by decide +kernel
theorem dX9_of_66 : decode cX9_of 66 = .ok (.baload, 1) := by decide +kernel
theorem dX9_of_67 : decode cX9_of 67 = .ok (.ifCond .eq 12, 3) := by decide +kernel
theorem dX9_of_70 : decode cX9_of 70 = .ok (.aload_n 0, 1) := by decide +kernel
theorem dX9_of_71 : decode cX9_of 71 = .ok (.getfield 82, 3) := by decide +kernel
theorem dX9_of_74 : decode cX9_of 74 = .ok (.iload_n 1, 1) := by decide +kernel
theorem dX9_of_75 : decode cX9_of 75 = .ok (.iaload, 1) := by decide +kernel
theorem dX9_of_76 : decode cX9_of 76 = .ok (.goto 4, 3) := by decide +kernel
theorem dX9_of_79 : decode cX9_of 79 = .ok (.iconst (-1), 1) := by decide +kernel
theorem dX9_of_80 : decode cX9_of 80 = .ok (.ireturn, 1) := by decide +kernel
theorem dX9_of_81 : decode cX9_of 81 = .ok (.aload_n 0, 1) := by decide +kernel
theorem dX9_of_82 : decode cX9_of 82 = .ok (.getfield 76, 3) := by decide +kernel
theorem dX9_of_85 : decode cX9_of 85 = .ok (.iload_n 1, 1) := by decide +kernel
theorem dX9_of_86 : decode cX9_of 86 = .ok (.baload, 1) := by decide +kernel
theorem dX9_of_87 : decode cX9_of 87 = .ok (.ifCond .eq 12, 3) := by decide +kernel
theorem dX9_of_90 : decode cX9_of 90 = .ok (.aload_n 0, 1) := by decide +kernel
theorem dX9_of_91 : decode cX9_of 91 = .ok (.getfield 79, 3) := by decide +kernel
theorem dX9_of_94 : decode cX9_of 94 = .ok (.iload_n 1, 1) := by decide +kernel
theorem dX9_of_95 : decode cX9_of 95 = .ok (.iaload, 1) := by decide +kernel
theorem dX9_of_96 : decode cX9_of 96 = .ok (.goto 4, 3) := by decide +kernel
theorem dX9_of_99 : decode cX9_of 99 = .ok (.iconst (-1), 1) := by decide +kernel
theorem dX9_of_100 : decode cX9_of 100 = .ok (.ireturn, 1) := by decide +kernel
theorem dX9_of_101 : decode cX9_of 101 = .ok (.iconst 0, 1) := by decide +kernel
theorem dX9_of_102 : decode cX9_of 102 = .ok (.istore 4, 2) := by decide +kernel
theorem dX9_of_104 : decode cX9_of 104 = .ok (.iload 4, 2) := by decide +kernel
theorem dX9_of_106 : decode cX9_of 106 = .ok (.bipush 8, 2) := by decide +kernel
theorem dX9_of_108 : decode cX9_of 108 = .ok (.if_icmp .ge 24, 3) := by decide +kernel
theorem dX9_of_111 : decode cX9_of 111 = .ok (.iload_n 3, 1) := by decide +kernel
theorem dX9_of_112 : decode cX9_of 112 = .ok (.aload_n 0, 1) := by decide +kernel
theorem dX9_of_113 : decode cX9_of 113 = .ok (.getfield 85, 3) := by decide +kernel
theorem dX9_of_116 : decode cX9_of 116 = .ok (.bipush 8, 2) := by decide +kernel
theorem dX9_of_118 : decode cX9_of 118 = .ok (.iload_n 1, 1) := by decide +kernel
theorem dX9_of_119 : decode cX9_of 119 = .ok (.imul, 1) := by decide +kernel
theorem dX9_of_120 : decode cX9_of 120 = .ok (.iload 4, 2) := by decide +kernel
theorem dX9_of_122 : decode cX9_of 122 = .ok (.iadd, 1) := by decide +kernel
theorem dX9_of_123 : decode cX9_of 123 = .ok (.iaload, 1) := by decide +kernel
theorem dX9_of_124 : decode cX9_of 124 = .ok (.iadd, 1) := by decide +kernel
theorem dX9_of_125 : decode cX9_of 125 = .ok (.istore_n 3, 1) := by decide +kernel
theorem dX9_of_126 : decode cX9_of 126 = .ok (.iinc 4 1, 3) := by decide +kernel
theorem dX9_of_129 : decode cX9_of 129 = .ok (.goto (-25), 3) := by decide +kernel
theorem dX9_of_132 : decode cX9_of 132 = .ok (.iload_n 3, 1) := by decide +kernel
theorem dX9_of_133 : decode cX9_of 133 = .ok (.ireturn, 1) := by decide +kernel
theorem dX9_of_134 : decode cX9_of 134 = .ok (.bipush (-3), 2) := by decide +kernel
theorem dX9_of_136 : decode cX9_of 136 = .ok (.ireturn, 1) := by decide +kernel
set_option maxRecDepth 20000 in
theorem ggX9_count_X9_triedMany : GoodIn wsX9_count wsX9_triedMany := goodIn_r _ [8, 9, 10, 11, 7, 12, 13, 14, 15, 16, 1, 17, 18, 24, 25, 26, 27, 28, 29, 30, 31, 32, 33, 34, 35, 36, 37, 38, 39, 40, 41, 42, 43, 44, 45, 46, 47, 48, 49, 50, 51, 52, 53, 54, 55, 56, 57, 58, 59, 60, 61] (by decide +kernel) (by decide +kernel)
set_option maxRecDepth 20000 in
theorem gX9_count_X9_triedMany : GoodIn wsX9_count (wsV RX9 191 RX9 yX9_triedMany wsX9_triedMany) := goodIn_app (goodIn_of _ (by decide +kernel)) ggX9_count_X9_triedMany
set_option maxRecDepth 20000 in
theorem ggX9_count_X9_thereMany : GoodIn wsX9_count wsX9_thereMany := goodIn_r _ [22, 23, 24, 25, 26, 27, 28, 29, 30, 31, 32, 33, 34, 35, 36, 37, 38, 39, 40, 41, 42, 43, 44, 45, 46, 47, 48, 49, 50, 51, 52, 53, 54, 55, 56, 57, 58, 59, 60, 61] (by decide +kernel) (by decide +kernel)
set_option maxRecDepth 20000 in
theorem gX9_count_X9_thereMany : GoodIn wsX9_count (wsV RX9 203 RX9 yX9_thereMany wsX9_thereMany) := goodIn_app (goodIn_of _ (by decide +kernel)) ggX9_count_X9_thereMany
theorem dX9_count_0 : decode cX9_count 0 = .ok (.iload_n 1, 1) := by decide +kernel
theorem dX9_count_1 : decode cX9_count 1 = .ok (.ifCond .ne 10, 3) := by decide +kernel
theorem dX9_count_4 : decode cX9_count 4 = .ok (.aload_n 0, 1) := by decide +kernel
theorem dX9_count_5 : decode cX9_count 5 = .ok (.getfield 176, 3) := by decide +kernel
theorem dX9_count_8 : decode cX9_count 8 = .ok (.goto 53, 3) := by decide +kernel
theorem dX9_count_11 : decode cX9_count 11 = .ok (.iload_n 1, 1) := by decide +kernel
theorem dX9_count_12 : decode cX9_count 12 = .ok (.iconst 1, 1) := by decide +kernel
theorem dX9_count_13 : decode cX9_count 13 = .ok (.if_icmp .ne 10, 3) := by decide +kernel
theorem dX9_count_16 : decode cX9_count 16 = .ok (.aload_n 0, 1) := by decide +kernel
theorem dX9_count_17 : decode cX9_count 17 = .ok (.invokevirtual 191, 3) := by decide +kernel
theorem dX9_count_20 : decode cX9_count 20 = .ok (.goto 41, 3) := by decide +kernel
theorem dX9_count_23 : decode cX9_count 23 = .ok (.iload_n 1, 1) := by decide +kernel
theorem dX9_count_24 : decode cX9_count 24 = .ok (.iconst 2, 1) := by decide +kernel
theorem dX9_count_25 : decode cX9_count 25 = .ok (.if_icmp .ne 10, 3) := by decide +kernel
theorem dX9_count_28 : decode cX9_count 28 = .ok (.aload_n 0, 1) := by decide +kernel
theorem dX9_count_29 : decode cX9_count 29 = .ok (.invokevirtual 203, 3) := by decide +kernel
theorem dX9_count_32 : decode cX9_count 32 = .ok (.goto 29, 3) := by decide +kernel
theorem dX9_count_35 : decode cX9_count 35 = .ok (.iload_n 1, 1) := by decide +kernel
theorem dX9_count_36 : decode cX9_count 36 = .ok (.iconst 3, 1) := by decide +kernel
theorem dX9_count_37 : decode cX9_count 37 = .ok (.if_icmp .ne 10, 3) := by decide +kernel
theorem dX9_count_40 : decode cX9_count 40 = .ok (.aload_n 0, 1) := by decide +kernel
theorem dX9_count_41 : decode cX9_count 41 = .ok (.getfield 225, 3) := by decide +kernel
theorem dX9_count_44 : decode cX9_count 44 = .ok (.goto 17, 3) := by decide +kernel
theorem dX9_count_47 : decode cX9_count 47 = .ok (.iload_n 1, 1) := by decide +kernel
theorem dX9_count_48 : decode cX9_count 48 = .ok (.iconst 4, 1) := by decide +kernel
theorem dX9_count_49 : decode cX9_count 49 = .ok (.if_icmp .ne 10, 3) := by decide +kernel
theorem dX9_count_52 : decode cX9_count 52 = .ok (.aload_n 0, 1) := by decide +kernel
theorem dX9_count_53 : decode cX9_count 53 = .ok (.getfield 197, 3) := by decide +kernel
theorem dX9_count_56 : decode cX9_count 56 = .ok (.goto 5, 3) := by decide +kernel
theorem dX9_count_59 : decode cX9_count 59 = .ok (.bipush (-3), 2) := by decide +kernel
theorem dX9_count_61 : decode cX9_count 61 = .ok (.ireturn, 1) := by decide +kernel
end
section
theorem dJ9_abs_0f7a4_0 : decode cJ9_abs_0f7a4 0 = .ok (.iload_n 0, 1) := by decide +kernel
theorem dJ9_abs_0f7a4_1 : decode cJ9_abs_0f7a4 1 = .ok (.ifCond .ge 8, 3) := by decide +kernel
theorem dJ9_abs_0f7a4_4 : decode cJ9_abs_0f7a4 4 = .ok (.iload_n 0, 1) := by decide +kernel
theorem dJ9_abs_0f7a4_5 : decode cJ9_abs_0f7a4 5 = .ok (.ineg, 1) := by decide +kernel
theorem dJ9_abs_0f7a4_6 : decode cJ9_abs_0f7a4 6 = .ok (.goto 4, 3) := by decide +kernel
theorem dJ9_abs_0f7a4_9 : decode cJ9_abs_0f7a4 9 = .ok (.iload_n 0, 1) := by decide +kernel
theorem dJ9_abs_0f7a4_10 : decode cJ9_abs_0f7a4 10 = .ok (.ireturn, 1) := by decide +kernel
theorem dJ9_max_7cf53_0 : decode cJ9_max_7cf53 0 = .ok (.iload_n 0, 1) := by decide +kernel
theorem dJ9_max_7cf53_1 : decode cJ9_max_7cf53 1 = .ok (.iload_n 1, 1) := by decide +kernel
theorem dJ9_max_7cf53_2 : decode cJ9_max_7cf53 2 = .ok (.if_icmp .lt 7, 3) := by decide +kernel
theorem dJ9_max_7cf53_5 : decode cJ9_max_7cf53 5 = .ok (.iload_n 0, 1) := by decide +kernel
theorem dJ9_max_7cf53_6 : decode cJ9_max_7cf53 6 = .ok (.goto 4, 3) := by decide +kernel
theorem dJ9_max_7cf53_9 : decode cJ9_max_7cf53 9 = .ok (.iload_n 1, 1) := by decide +kernel
theorem dJ9_max_7cf53_10 : decode cJ9_max_7cf53 10 = .ok (.ireturn, 1) := by decide +kernel
theorem dJ9_min_7cf53_0 : decode cJ9_min_7cf53 0 = .ok (.iload_n 0, 1) := by decide +kernel
theorem dJ9_min_7cf53_1 : decode cJ9_min_7cf53 1 = .ok (.iload_n 1, 1) := by decide +kernel
theorem dJ9_min_7cf53_2 : decode cJ9_min_7cf53 2 = .ok (.if_icmp .gt 7, 3) := by decide +kernel
theorem dJ9_min_7cf53_5 : decode cJ9_min_7cf53 5 = .ok (.iload_n 0, 1) := by decide +kernel
theorem dJ9_min_7cf53_6 : decode cJ9_min_7cf53 6 = .ok (.goto 4, 3) := by decide +kernel
theorem dJ9_min_7cf53_9 : decode cJ9_min_7cf53 9 = .ok (.iload_n 1, 1) := by decide +kernel
theorem dJ9_min_7cf53_10 : decode cJ9_min_7cf53 10 = .ok (.ireturn, 1) := by decide +kernel
theorem dJ7_fill_d0a16_0 : decode cJ7_fill_d0a16 0 = .ok (.iconst 0, 1) := by decide +kernel
theorem dJ7_fill_d0a16_1 : decode cJ7_fill_d0a16 1 = .ok (.istore_n 3, 1) := by decide +kernel
theorem dJ7_fill_d0a16_2 : decode cJ7_fill_d0a16 2 = .ok (.aload_n 0, 1) := by decide +kernel
theorem dJ7_fill_d0a16_3 : decode cJ7_fill_d0a16 3 = .ok (.arraylength, 1) := by decide +kernel
theorem dJ7_fill_d0a16_4 : decode cJ7_fill_d0a16 4 = .ok (.istore 4, 2) := by decide +kernel
theorem dJ7_fill_d0a16_6 : decode cJ7_fill_d0a16 6 = .ok (.iload_n 3, 1) := by decide +kernel
theorem dJ7_fill_d0a16_7 : decode cJ7_fill_d0a16 7 = .ok (.iload 4, 2) := by decide +kernel
theorem dJ7_fill_d0a16_9 : decode cJ7_fill_d0a16 9 = .ok (.if_icmp .ge 13, 3) := by decide +kernel
theorem dJ7_fill_d0a16_12 : decode cJ7_fill_d0a16 12 = .ok (.aload_n 0, 1) := by decide +kernel
theorem dJ7_fill_d0a16_13 : decode cJ7_fill_d0a16 13 = .ok (.iload_n 3, 1) := by decide +kernel
theorem dJ7_fill_d0a16_14 : decode cJ7_fill_d0a16 14 = .ok (.lload_n 1, 1) := by decide +kernel
theorem dJ7_fill_d0a16_15 : decode cJ7_fill_d0a16 15 = .ok (.lastore, 1) := by decide +kernel
theorem dJ7_fill_d0a16_16 : decode cJ7_fill_d0a16 16 = .ok (.iinc 3 1, 3) := by decide +kernel
theorem dJ7_fill_d0a16_19 : decode cJ7_fill_d0a16 19 = .ok (.goto (-13), 3) := by decide +kernel
theorem dJ7_fill_d0a16_22 : decode cJ7_fill_d0a16 22 = .ok (.return_, 1) := by decide +kernel
theorem dJ7_fill_53178_0 : decode cJ7_fill_53178 0 = .ok (.iconst 0, 1) := by decide +kernel
theorem dJ7_fill_53178_1 : decode cJ7_fill_53178 1 = .ok (.istore_n 2, 1) := by decide +kernel
theorem dJ7_fill_53178_2 : decode cJ7_fill_53178 2 = .ok (.aload_n 0, 1) := by decide +kernel
theorem dJ7_fill_53178_3 : decode cJ7_fill_53178 3 = .ok (.arraylength, 1) := by decide +kernel
theorem dJ7_fill_53178_4 : decode cJ7_fill_53178 4 = .ok (.istore_n 3, 1) := by decide +kernel
theorem dJ7_fill_53178_5 : decode cJ7_fill_53178 5 = .ok (.iload_n 2, 1) := by decide +kernel
theorem dJ7_fill_53178_6 : decode cJ7_fill_53178 6 = .ok (.iload_n 3, 1) := by decide +kernel
theorem dJ7_fill_53178_7 : decode cJ7_fill_53178 7 = .ok (.if_icmp .ge 13, 3) := by decide +kernel
theorem dJ7_fill_53178_10 : decode cJ7_fill_53178 10 = .ok (.aload_n 0, 1) := by decide +kernel
theorem dJ7_fill_53178_11 : decode cJ7_fill_53178 11 = .ok (.iload_n 2, 1) := by decide +kernel
theorem dJ7_fill_53178_12 : decode cJ7_fill_53178 12 = .ok (.iload_n 1, 1) := by decide +kernel
theorem dJ7_fill_53178_13 : decode cJ7_fill_53178 13 = .ok (.iastore, 1) := by decide +kernel
theorem dJ7_fill_53178_14 : decode cJ7_fill_53178 14 = .ok (.iinc 2 1, 3) := by decide +kernel
theorem dJ7_fill_53178_17 : decode cJ7_fill_53178 17 = .ok (.goto (-12), 3) := by decide +kernel
theorem dJ7_fill_53178_20 : decode cJ7_fill_53178 20 = .ok (.return_, 1) := by decide +kernel
end
section
/-! my own words: a state of a class, the pure steps, and rows that follow a pure function along the machine -/
abbrev St : Type := (Nat → Int32) × (Nat → Nat → Int32) × (Nat → Int64)
def st_i (u : St) (k : Nat) (v : Int32) : St := (va_up u.1 k v, u.2)
def st_r (u : St) (k : Nat) (f : Nat → Int32) : St := (u.1, va_up u.2.1 k f, u.2.2)
def st_l (u : St) (f : Nat → Int64) : St := (u.1, u.2.1, f)
def nm {α β : Type} (e : α) (k : α → β) : β := k e
def ld {α β : Type} (n : Nat) (f : Nat → α) (i : Int32) (k : α → Option β) : Option β := if i < 0 ∨ n ≤ i.toNatClampNeg then none else k (f i.toNatClampNeg)
def sti {β : Type} (n : Nat) (u : St) (k : Nat) (i x : Int32) (K : St → Option β) : Option β := if i < 0 ∨ n ≤ i.toNatClampNeg then none else K (st_r u k (upd (u.2.1 k) i.toNatClampNeg x))
def stz {β : Type} (n : Nat) (u : St) (k : Nat) (i x : Int32) (K : St → Option β) : Option β := if i < 0 ∨ n ≤ i.toNatClampNeg then none else K (st_r u k (upd (u.2.1 k) i.toNatClampNeg (vp_nar .boolean x)))
def stl {β : Type} (n : Nat) (u : St) (i : Int32) (x : Int64) (K : St → Option β) : Option β := if i < 0 ∨ n ≤ i.toNatClampNeg then none else K (st_l u (vp_updL u.2.2 i.toNatClampNeg x))
def dv {β : Type} (y : Int32) (k : Option β) : Option β := if y = 0 then none else k
def dvl {β : Type} (y : Int64) (k : Option β) : Option β := if y = 0 then none else k
def bk {β : Type} (v : Int32) (k : Option β) : Option β := if v = 0 ∨ v = 1 then k else none
def bd {α β : Type} (e : Option α) (k : α → Option β) : Option β := match e with
  | some a => k a
  | none => none
def bd2 {α γ β : Type} (e : Option (α × γ)) (k : α → γ → Option β) : Option β := match e with
  | some (a, b) => k a b
  | none => none
def bd3 {α γ δ β : Type} (e : Option (α × γ × δ)) (k : α → γ → δ → Option β) : Option β := match e with
  | some (a, b, d) => k a b d
  | none => none
theorem bd_some {α β : Type} {e : Option α} {k : α → Option β} {o : β} (h : bd e k = some o) : ∃ a, e = some a ∧ k a = some o := by
  cases e with
  | none => cases h
  | some a => exact ⟨a, rfl, h⟩
theorem bd2_some {α γ β : Type} {e : Option (α × γ)} {k : α → γ → Option β} {o : β} (h : bd2 e k = some o) : ∃ a b, e = some (a, b) ∧ k a b = some o := by
  cases e with
  | none => cases h
  | some a => obtain ⟨a, b⟩ := a; exact ⟨a, b, rfl, h⟩
theorem bd3_some {α γ δ β : Type} {e : Option (α × γ × δ)} {k : α → γ → δ → Option β} {o : β} (h : bd3 e k = some o) : ∃ a b d, e = some (a, b, d) ∧ k a b d = some o := by
  cases e with
  | none => cases h
  | some a => obtain ⟨a, b, d⟩ := a; exact ⟨a, b, d, rfl, h⟩
theorem ld_some {α β : Type} {n : Nat} {f : Nat → α} {i : Int32} {k : α → Option β} {o : β} (h : ld n f i k = some o) : vp_in i n ∧ k (f i.toNatClampNeg) = some o := by
  unfold ld at h
  by_cases hc : i < 0 ∨ n ≤ i.toNatClampNeg
  · rw [if_pos hc] at h; cases h
  · rw [if_neg hc] at h; exact ⟨hc, h⟩
theorem bk_some {β : Type} {v : Int32} {k : Option β} {o : β} (h : bk v k = some o) : (v = 0 ∨ v = 1) ∧ k = some o := by
  unfold bk at h
  by_cases hc : v = 0 ∨ v = 1
  · rw [if_pos hc] at h; exact ⟨hc, h⟩
  · rw [if_neg hc] at h; cases h
theorem dv_some {β : Type} {y : Int32} {k : Option β} {o : β} (h : dv y k = some o) : ¬ y = 0 ∧ k = some o := by
  unfold dv at h
  by_cases hc : y = 0
  · rw [if_pos hc] at h; cases h
  · rw [if_neg hc] at h; exact ⟨hc, h⟩
theorem dvl_some {β : Type} {y : Int64} {k : Option β} {o : β} (h : dvl y k = some o) : ¬ y = 0 ∧ k = some o := by
  unfold dvl at h
  by_cases hc : y = 0
  · rw [if_pos hc] at h; cases h
  · rw [if_neg hc] at h; exact ⟨hc, h⟩
def tyL (cy : Nat → ClassId) : List (ClassId × FieldType) := [(cy 0, .int), (cy 1, .long), (cy 2, .boolean)]
/-- what a method's proof has at every point -/
def Cx (p : Program) (s : State) (m : MethodId) (meth : Method) (c : Code) (args : Array Value) (cc : ByteArray) (nL : Nat) (ret : Option FieldType) (Ts : List Cond) (own : String) (D : va_G) (cy : Nat → ClassId) (A : Nat → Prop) : Prop :=
  p.tables.exec = Jvm.exec ∧ c.code = cc ∧ meth.sig.returnType = ret ∧ c.maxLocals = nL ∧ s.vm.findClass own = some m.cls ∧ (∀ w ∈ Ts, w.before args s = true) ∧ meth.locks = false ∧ va_K D vwCl (tyL cy) s ∧ ∀ q, s.heap.size ≤ q → A q
/-- the worlds behind a method, and its end -/
def Bw (D : va_G) (cy : Nat → ClassId) (A : Nat → Prop) (w : va_W) (_ : Unit) (t : State) : Prop := va_P D vwCl w t.heap ∧ va_K D vwCl (tyL cy) t ∧ va_D A w
def QI (below : List Frame) (args : Array Value) (s : State) (A : Nat → Prop) (D : va_G) (cy : Nat → ClassId) (w' : va_W) (r : Int32) : State → Prop := MQ below (va_Qi (fun r' (_ : Unit) => r' = r) (Bw D cy A w') A) args s 0 0 A
def QL (below : List Frame) (args : Array Value) (s : State) (A : Nat → Prop) (D : va_G) (cy : Nat → ClassId) (w' : va_W) (r : Int64) : State → Prop := MQ below (va_Ql (fun r' (_ : Unit) => r' = r) (Bw D cy A w') A) args s 0 0 A
def QV (below : List Frame) (args : Array Value) (s : State) (A : Nat → Prop) (D : va_G) (cy : Nat → ClassId) (w' : va_W) : State → Prop := MQ below (va_Qv (fun (_ : Unit) => True) (Bw D cy A w') A) args s 0 0 A
def CPre (D : va_G) (cy : Nat → ClassId) (w : va_W) (sz : Nat) (av : List Value) : Array Value → State → Prop := va_Pc av (fun U => U.heap.size = sz ∧ va_P D vwCl w U.heap ∧ va_K D vwCl (tyL cy) U ∧ va_D (fun _ => True) w)
def CtI (l : Launch) (y : MethodName) (ws : List Cond) (rm : Room) (av : List Value) (D : va_G) (cy : Nat → ClassId) (w w' : va_W) (r : Int32) : Prop := ∀ sz : Nat, Met l y ws rm (CPre D cy w sz av) (va_Qi (fun r' (_ : Unit) => r' = r) (Bw D cy (va_A w sz) w') (va_A w sz)) 0 0 (va_A w sz)
def CtL (l : Launch) (y : MethodName) (ws : List Cond) (rm : Room) (av : List Value) (D : va_G) (cy : Nat → ClassId) (w w' : va_W) (r : Int64) : Prop := ∀ sz : Nat, Met l y ws rm (CPre D cy w sz av) (va_Ql (fun r' (_ : Unit) => r' = r) (Bw D cy (va_A w sz) w') (va_A w sz)) 0 0 (va_A w sz)
def CtV (l : Launch) (y : MethodName) (ws : List Cond) (rm : Room) (av : List Value) (D : va_G) (cy : Nat → ClassId) (w w' : va_W) : Prop := ∀ sz : Nat, Met l y ws rm (CPre D cy w sz av) (va_Qv (fun (_ : Unit) => True) (Bw D cy (va_A w sz) w') (va_A w sz)) 0 0 (va_A w sz)
/-- rooms by the height of a method over its callees -/
def rmH (d : Nat) : Room := { frames := d, cells := 0, slots := 0, locals := 48 * d }
section XS
variable {l : Launch} {y : MethodName} {ws ws' : List Cond} {rm : Room} {av : List Value} {D : va_G} {cy : Nat → ClassId} {w w' : va_W} {cc : ByteArray} {maxL : Nat} {ret : Option FieldType}
theorem ct_enter {Qc : Nat → Array Value → State → Outcome → State → Prop} (hy : plainName y.cls = true) (hw : ws = Cond.code y cc maxL ret :: ws') (hle : (lg_sl av).length ≤ maxL)
    (k : ∀ (p : Program) (e : Env) (s : State) (m : MethodId) (below : List Frame) (meth : Method) (c : Code) (A : Nat → Prop), Cx p s m meth c av.toArray cc maxL ret ws y.cls D cy A → A = va_A w s.heap.size →
      ∀ ls, lv_has ls maxL (lv_args 0 av) → va_P D vwCl w s.heap → va_D A w → va_S A s.heap s.heap [] →
      W p l e rm s m av.toArray below meth c s.heap [] 0 0 (MQ below (Qc s.heap.size) av.toArray s 0 0 A) (F0 m 0 ls [])) (sz : Nat) :
    Met l y ws rm (CPre D cy w sz av) (Qc sz) 0 0 (va_A w sz) := by
  refine Met.ofW (cc := cc) (maxL := maxL) (ret := ret) hy hw ?_
  intro p e s m args below meth c s₁ B hml hv
  obtain ⟨rfl, hsz, hP, hK, hD0⟩ := hv
  subst hsz
  have hl := lv_entry av (n := maxL) hle
  rw [lg_entry_eq]
  exact k p e s m below meth c (va_A w s.heap.size) ⟨B.exec, B.bytes, B.returns, hml, findClass_of_methodNamed B.named, atoms_spec (ws := ws) B.pre, B.notSynchronized, hK, fun q h => Or.inr h⟩ rfl _ hl hP hD0.self va_S.rf
end XS
theorem vd_nodup {A : Nat → Prop} {ws : va_W} (h : va_D A ws) : (ws.map Prod.fst).Nodup := by
  rw [List.nodup_iff_pairwise_ne, List.pairwise_iff_getElem]
  intro i j hi hj hij he
  simp only [List.length_map] at hi hj
  have := h.1 i j ws[i] ws[j] (List.getElem?_eq_getElem hi) (List.getElem?_eq_getElem hj) (by simpa using he)
  omega
theorem vd_of {A : Nat → Prop} {ws : va_W} (h : (ws.map Prod.fst).Nodup) (hA : ∀ q ∈ ws, A q.1) : va_D A ws := by
  refine ⟨fun i j p q hp hq he => ?_, fun k q hk => hA q (List.mem_of_getElem? hk)⟩
  rw [List.nodup_iff_pairwise_ne, List.pairwise_iff_getElem] at h
  obtain ⟨hi, rfl⟩ := List.getElem?_eq_some_iff.mp hp
  obtain ⟨hj, rfl⟩ := List.getElem?_eq_some_iff.mp hq
  rcases Nat.lt_trichotomy i j with c | c | c
  · exact absurd (by simpa using he) (h i j (by simpa using hi) (by simpa using hj) c)
  · exact c
  · exact absurd (by simpa using he.symm) (h j i (by simpa using hj) (by simpa using hi) c)
theorem vp_of {D : va_G} {cl : List vw_C} {ws : va_W} {H : Heap} : va_P D cl ws H ↔ ∀ q ∈ ws, va_at D cl q H := by
  constructor
  · intro h q hq
    obtain ⟨k, hk⟩ := List.getElem?_of_mem hq
    exact h k q hk
  · intro h k q hk
    exact h q (List.mem_of_getElem? hk)
theorem va_A_mem {ws : va_W} {sz : Nat} {q : Nat} (h : va_A ws sz q) : (∃ x ∈ ws, x.1 = q) ∨ sz ≤ q := by
  rcases h with ⟨k, e, h⟩ | h
  · exact Or.inl ⟨(q, e), List.mem_of_getElem? h, rfl⟩
  · exact Or.inr h
/-- the frame rule: what a callee does to its own cells, beside the rest -/
theorem fr_swap {D : va_G} {cl : List vw_C} {X w w' Y : va_W} {H H1 : Heap} {A0 : Nat → Prop} (hP : va_P D cl (X ++ (w ++ Y)) H) (hD : va_D A0 (X ++ (w ++ Y))) (hk : ∀ q : Nat, q < H.size → ¬ va_A w H.size q → H1[q]? = H[q]?) (hF : ∀ q, va_A w H.size q → A0 q)
    (hP1 : va_P D cl w' H1) (hD1 : va_D (va_A w H.size) w') : va_P D cl (X ++ (w' ++ Y)) H1 ∧ va_D A0 (X ++ (w' ++ Y)) := by
  have hN := vd_nodup hD
  have hN1 := vd_nodup hD1
  have hlt : ∀ q ∈ X ++ (w ++ Y), q.1 < H.size := fun q hq => by
    obtain ⟨k, hk⟩ := List.getElem?_of_mem hq
    exact (hP k q hk).lt
  rw [List.map_append, List.map_append, List.nodup_append, List.nodup_append] at hN
  obtain ⟨nX, ⟨nw, nY, dwY⟩, dX⟩ := hN
  have rest : ∀ q, q ∈ X ∨ q ∈ Y → q ∈ X ++ (w ++ Y) ∧ ¬ va_A w H.size q.1 := by
    intro q hq
    have hm : q ∈ X ++ (w ++ Y) := by simp only [List.mem_append]; rcases hq with h | h <;> simp [h]
    refine ⟨hm, fun ha => ?_⟩
    rcases va_A_mem ha with ⟨x, hx, e⟩ | h
    · rcases hq with h | h
      · exact dX q.1 (List.mem_map_of_mem h) x.1 (List.mem_append_left _ (List.mem_map_of_mem hx)) e.symm
      · exact dwY x.1 (List.mem_map_of_mem hx) q.1 (List.mem_map_of_mem h) e
    · have := hlt q hm; omega
  have hP' := vp_of.mp hP
  have keep : ∀ q, q ∈ X ∨ q ∈ Y → va_at D cl q H1 := by
    intro q hq
    obtain ⟨hm, hn⟩ := rest q hq
    have h1 : va_P D cl [q] H := fun k x hx => by
      have : x = q := by have := List.mem_of_getElem? hx; simpa using this
      subst this
      exact hP' x hm
    have h2 := h1.kept (H1 := H1) (fun k x hx => by
      have : x = q := by have := List.mem_of_getElem? hx; simpa using this
      subst this
      exact hk x.1 (hlt x hm) hn)
    exact h2 0 q rfl
  refine ⟨vp_of.mpr fun q hq => ?_, vd_of ?_ fun q hq => ?_⟩
  · simp only [List.mem_append] at hq
    rcases hq with h | h | h
    · exact keep q (Or.inl h)
    · exact vp_of.mp hP1 q h
    · exact keep q (Or.inr h)
  · rw [List.map_append, List.map_append, List.nodup_append, List.nodup_append]
    refine ⟨nX, ⟨hN1, nY, ?_⟩, ?_⟩
    · intro a ha b hb e
      obtain ⟨x, hx, rfl⟩ := List.mem_map.mp ha
      obtain ⟨z, hz, rfl⟩ := List.mem_map.mp hb
      obtain ⟨k, hk2⟩ := List.getElem?_of_mem hx
      exact (rest z (Or.inr hz)).2 (e ▸ hD1.2 k x hk2)
    · intro a ha b hb e
      obtain ⟨x, hx, rfl⟩ := List.mem_map.mp ha
      rcases List.mem_append.mp hb with hb | hb
      · obtain ⟨z, hz, rfl⟩ := List.mem_map.mp hb
        obtain ⟨k, hk2⟩ := List.getElem?_of_mem hz
        exact (rest x (Or.inl hx)).2 (e ▸ hD1.2 k z hk2)
      · exact dX x.1 (List.mem_map_of_mem hx) b (List.mem_append_right _ hb) e
  · simp only [List.mem_append] at hq
    rcases hq with h | h | h
    · obtain ⟨k, hk2⟩ := List.getElem?_of_mem (show q ∈ X ++ (w ++ Y) by simp [h])
      exact hD.2 k q hk2
    · obtain ⟨k, hk2⟩ := List.getElem?_of_mem h
      exact hF _ (hD1.2 k q hk2)
    · obtain ⟨k, hk2⟩ := List.getElem?_of_mem (show q ∈ X ++ (w ++ Y) by simp [h])
      exact hD.2 k q hk2
/-- the callee's cells out of the caller's -/
theorem fr_in {D : va_G} {cl : List vw_C} {X w Y : va_W} {H : Heap} {A0 : Nat → Prop} (hP : va_P D cl (X ++ (w ++ Y)) H) (hD : va_D A0 (X ++ (w ++ Y))) : va_P D cl w H ∧ va_D (fun _ => True) w := by
  refine ⟨vp_of.mpr fun q hq => vp_of.mp hP q (by simp [hq]), vd_of ?_ (fun _ _ => trivial)⟩
  have hN := vd_nodup hD
  rw [List.map_append, List.map_append, List.nodup_append, List.nodup_append] at hN
  exact hN.2.1.1
theorem fr_free {X w Y : va_W} {H0 H : Heap} {A0 : Nat → Prop} {locs : List Loc} (hD : va_D A0 (X ++ (w ++ Y))) (hS : va_S A0 H0 H locs) (hA : ∀ q, H0.size ≤ q → A0 q) : ∀ q, va_A w H.size q → A0 q := by
  intro q h
  rcases va_A_mem h with ⟨x, hx, rfl⟩ | h
  · obtain ⟨k, hk⟩ := List.getElem?_of_mem (show x ∈ X ++ (w ++ Y) by simp [hx])
    exact hD.2 k x hk
  · exact hA q (Nat.le_trans hS.1 h)
theorem cpre_blind {D : va_G} {cy : Nat → ClassId} {w : va_W} {sz : Nat} {av : List Value} : FrameBlind (CPre D cy w sz av) := by
  intro a U g mk q
  obtain ⟨q0, q1, qP, qK, qD⟩ := q
  exact ⟨q0, q1, qP, va_K.moved (u := U) (U := U.calling g mk a) (Vm.Alike.refl U.vm) qK, qD⟩
theorem cpre_at {D : va_G} {cy : Nat → ClassId} {w : va_W} {av : List Value} {s : State} {H : Heap} (hP : va_P D vwCl w H) (hD : va_D (fun _ => True) w) (hK : va_K D vwCl (tyL cy) s) : ∀ U : State, U.heap = H → s.WarmedH U.vm → CPre D cy w H.size av av.toArray U :=
  fun U hU hW => ⟨rfl, by rw [hU], by rw [hU]; exact hP, va_K.moved hW.alike hK, hD⟩
section XR
variable {p : Program} {l : Launch} {e : Env} {R : Room} {s : State} {m : MethodId} {args : Array Value} {below : List Frame} {meth : Method} {c : Code} {H : Heap} {locs : List Loc} {cells slots : Nat} {Q : State → Prop}
variable {cc : ByteArray} {pc : Nat} {ls : Array Slot} {rest : List Value} {D : va_G} {cl : List vw_C} {A : Nat → Prop} {a : Nat} {tys : List (ClassId × FieldType)} {ws : va_W} {H0 : Heap}
variable {β : Type} {o : β}
theorem x_nm {x : Int32} {K : Int32 → Option β} (h : nm x K = some o) (kk : ∀ v : Int32, K v = some o → W p l e R s m args below meth c H locs cells slots Q (F0 m pc ls (.int v :: rest))) : W p l e R s m args below meth c H locs cells slots Q (F0 m pc ls (.int x :: rest)) := kk x h
theorem x_nml {x : Int64} {K : Int64 → Option β} (h : nm x K = some o) (kk : ∀ v : Int64, K v = some o → W p l e R s m args below meth c H locs cells slots Q (F0 m pc ls (.long v :: rest))) : W p l e R s m args below meth c H locs cells slots Q (F0 m pc ls (.long x :: rest)) := kk x h
theorem x_iald (hexec : p.tables.exec = Jvm.exec) (hb : c.code = cc) (hK : va_K D cl tys s) (hP : va_P D cl ws H) (q0 : Nat) {cA : ClassId} {n : Nat} {f : Nat → Int32} (ha : ws[q0]? = some (a, .inl (cA, n, .inl f))) (ht : tys[0]? = some (cA, .int)) {i : Int32} {K : Int32 → Option β} (h : ld n f i K = some o) (hdg : decode cc pc = .ok (.iaload, 1))
    (kk : ∀ v : Int32, K v = some o → W p l e R s m args below meth c H locs cells slots Q (F0 m (pc + 1) ls (.int v :: rest))) : W p l e R s m args below meth c H locs cells slots Q (F0 m pc ls (.int i :: .ref a :: rest)) :=
  va_iald hexec hb hK hP q0 0 ha ht (ld_some h).1 hdg (kk _ (ld_some h).2)
theorem x_zald (hexec : p.tables.exec = Jvm.exec) (hb : c.code = cc) (hK : va_K D cl tys s) (hP : va_P D cl ws H) (q0 : Nat) {cA : ClassId} {n : Nat} {f : Nat → Int32} (ha : ws[q0]? = some (a, .inl (cA, n, .inl f))) (ht : tys[2]? = some (cA, .boolean)) {i : Int32} {K : Int32 → Option β} (h : ld n f i K = some o) (hdg : decode cc pc = .ok (.baload, 1))
    (kk : ∀ v : Int32, K v = some o → W p l e R s m args below meth c H locs cells slots Q (F0 m (pc + 1) ls (.int v :: rest))) : W p l e R s m args below meth c H locs cells slots Q (F0 m pc ls (.int i :: .ref a :: rest)) :=
  va_zald hexec hb hK hP q0 2 ha ht (ld_some h).1 hdg (kk _ (ld_some h).2)
theorem x_lald (hexec : p.tables.exec = Jvm.exec) (hb : c.code = cc) (hK : va_K D cl tys s) (hP : va_P D cl ws H) (q0 : Nat) {cA : ClassId} {n : Nat} {f : Nat → Int64} (ha : ws[q0]? = some (a, .inl (cA, n, .inr (.inl f)))) (ht : tys[1]? = some (cA, .long)) {i : Int32} {K : Int64 → Option β} (h : ld n f i K = some o) (hdg : decode cc pc = .ok (.laload, 1))
    (kk : ∀ v : Int64, K v = some o → W p l e R s m args below meth c H locs cells slots Q (F0 m (pc + 1) ls (.long v :: rest))) : W p l e R s m args below meth c H locs cells slots Q (F0 m pc ls (.int i :: .ref a :: rest)) :=
  va_lald hexec hb hK hP q0 1 ha ht (ld_some h).1 hdg (kk _ (ld_some h).2)
theorem x_iast {Wd : St → va_W} {u : St} {k : Nat} (hexec : p.tables.exec = Jvm.exec) (hb : c.code = cc) (hK : va_K D cl tys s) (hP : va_P D cl (Wd u) H) (hD : va_D A (Wd u)) (hS : va_S A H0 H locs) (q0 : Nat) {cA : ClassId} {n : Nat} (ha : (Wd u)[q0]? = some (a, .inl (cA, n, .inl (u.2.1 k)))) (ht : tys[0]? = some (cA, .int)) (hw : ∀ f, (Wd u).set q0 (a, .inl (cA, n, .inl f)) = Wd (st_r u k f)) {i x : Int32} {K : St → Option β} (h : sti n u k i x K = some o) (hdg : decode cc pc = .ok (.iastore, 1))
    (kk : ∀ (u' : St) (H1 : Heap) (locs1 : List Loc), K u' = some o → va_P D cl (Wd u') H1 → va_D A (Wd u') → va_S A H0 H1 locs1 → W p l e R s m args below meth c H1 locs1 cells slots Q (F0 m (pc + 1) ls rest)) : W p l e R s m args below meth c H locs cells slots Q (F0 m pc ls (.int x :: .int i :: .ref a :: rest)) := by
  unfold sti at h
  by_cases hc : i < 0 ∨ n ≤ i.toNatClampNeg
  · rw [if_pos hc] at h; cases h
  · rw [if_neg hc] at h
    refine va_iast hexec hb hK hP hD hS q0 0 ha ht hc hdg (fun H1 locs1 hP1 hD1 hS1 => ?_)
    rw [hw] at hP1 hD1
    exact kk _ H1 locs1 h hP1 hD1 hS1
theorem x_zast {Wd : St → va_W} {u : St} {k : Nat} (hexec : p.tables.exec = Jvm.exec) (hb : c.code = cc) (hK : va_K D cl tys s) (hP : va_P D cl (Wd u) H) (hD : va_D A (Wd u)) (hS : va_S A H0 H locs) (q0 : Nat) {cA : ClassId} {n : Nat} (ha : (Wd u)[q0]? = some (a, .inl (cA, n, .inl (u.2.1 k)))) (ht : tys[2]? = some (cA, .boolean)) (hw : ∀ f, (Wd u).set q0 (a, .inl (cA, n, .inl f)) = Wd (st_r u k f)) {i x : Int32} {K : St → Option β} (h : stz n u k i x K = some o) (hdg : decode cc pc = .ok (.bastore, 1))
    (kk : ∀ (u' : St) (H1 : Heap) (locs1 : List Loc), K u' = some o → va_P D cl (Wd u') H1 → va_D A (Wd u') → va_S A H0 H1 locs1 → W p l e R s m args below meth c H1 locs1 cells slots Q (F0 m (pc + 1) ls rest)) : W p l e R s m args below meth c H locs cells slots Q (F0 m pc ls (.int x :: .int i :: .ref a :: rest)) := by
  unfold stz at h
  by_cases hc : i < 0 ∨ n ≤ i.toNatClampNeg
  · rw [if_pos hc] at h; cases h
  · rw [if_neg hc] at h
    refine va_zast hexec hb hK hP hD hS q0 2 ha ht hc hdg (fun H1 locs1 hP1 hD1 hS1 => ?_)
    rw [hw] at hP1 hD1
    exact kk _ H1 locs1 h hP1 hD1 hS1
theorem x_last {Wd : St → va_W} {u : St} (hexec : p.tables.exec = Jvm.exec) (hb : c.code = cc) (hK : va_K D cl tys s) (hP : va_P D cl (Wd u) H) (hD : va_D A (Wd u)) (hS : va_S A H0 H locs) (q0 : Nat) {cA : ClassId} {n : Nat} (ha : (Wd u)[q0]? = some (a, .inl (cA, n, .inr (.inl u.2.2)))) (ht : tys[1]? = some (cA, .long)) (hw : ∀ f, (Wd u).set q0 (a, .inl (cA, n, .inr (.inl f))) = Wd (st_l u f)) {i : Int32} {x : Int64} {K : St → Option β} (h : stl n u i x K = some o) (hdg : decode cc pc = .ok (.lastore, 1))
    (kk : ∀ (u' : St) (H1 : Heap) (locs1 : List Loc), K u' = some o → va_P D cl (Wd u') H1 → va_D A (Wd u') → va_S A H0 H1 locs1 → W p l e R s m args below meth c H1 locs1 cells slots Q (F0 m (pc + 1) ls rest)) : W p l e R s m args below meth c H locs cells slots Q (F0 m pc ls (.long x :: .int i :: .ref a :: rest)) := by
  unfold stl at h
  by_cases hc : i < 0 ∨ n ≤ i.toNatClampNeg
  · rw [if_pos hc] at h; cases h
  · rw [if_neg hc] at h
    refine va_last hexec hb hK hP hD hS q0 1 ha ht hc hdg (fun H1 locs1 hP1 hD1 hS1 => ?_)
    rw [hw] at hP1 hD1
    exact kk _ H1 locs1 h hP1 hD1 hS1
theorem x_put {Wd : St → va_W} {u : St} (hexec : p.tables.exec = Jvm.exec) (hb : c.code = cc) {own ref C : String} {T : u_T} {N ci index : Nat} {Ts : List Cond} (hts : ∀ w ∈ Ts, w.before args s = true) (hin : ∀ w ∈ u_ws C T N, w ∈ Ts) (ty0 : Nat → FieldType) (hty : ∀ k, k < N → parseFieldDescriptor (T k).2.2.1 = some (ty0 k)) (hnm : ∀ a, a < N → ∀ b, b < N → a ≠ b → (T a).2.1 ≠ (T b).2.1) (hown : s.vm.findClass own = some m.cls) (hK : va_K D cl tys s) (hP : va_P D cl (Wd u) H) (hD : va_D A (Wd u)) (hS0 : va_S A H0 H locs) (q0 : Nat) {fs : List Value} (he : (Wd u)[q0]? = some (a, .inr (ci, fs))) (hc : cl[ci]? = some (C, T, N)) (k : Nat) (hk : k < N) (hlink : (Cond.fieldLink own index ref (T k).2.1 (T k).2.2.1).before args s = true) (hsame : ∀ x, s.fieldFound? (T k).1 (T k).2.1 (T k).2.2.1 = some x → s.fieldFound? ref (T k).2.1 (T k).2.2.1 = some x) (hfin : (T k).2.2.2 = false) {ty : FieldType} {v : Int32} (hd : parseFieldDescriptor (T k).2.2.1 = some ty) (hn : narrow ty (.int v) = .int v) (hfit : fits ty (.int v) = true) (hl : k < fs.length)
    (hw : ∀ v : Int32, (Wd u).set q0 (a, .inr (ci, fs.set k (.int v))) = Wd (st_i u k v)) {K : St → Option β} (h : nm (st_i u k v) K = some o)
    (hdg : decode cc pc = .ok (.putfield index, 3)) (kk : ∀ (u' : St) (H1 : Heap) (locs1 : List Loc), K u' = some o → va_P D cl (Wd u') H1 → va_D A (Wd u') → va_S A H0 H1 locs1 → W p l e R s m args below meth c H1 locs1 cells slots Q (F0 m (pc + 3) ls rest)) : W p l e R s m args below meth c H locs cells slots Q (F0 m pc ls (.int v :: .ref a :: rest)) := by
  refine va_put hexec hb hts hin ty0 hty hnm hown hK hP hD hS0 q0 he hc k hk hlink hsame hfin hd hn hfit hl hdg (fun H1 locs1 hP1 hD1 hS1 => ?_)
  rw [hw] at hP1 hD1
  exact kk _ H1 locs1 h hP1 hD1 hS1
theorem x_idiv (hexec : p.tables.exec = Jvm.exec) (hb : c.code = cc) {x y : Int32} {K : Option β} (hdg : decode cc pc = .ok (.idiv, 1)) (h : dv y K = some o)
    (k : K = some o → W p l e R s m args below meth c H locs cells slots Q (F0 m (pc + 1) ls (.int (x / y) :: rest))) : W p l e R s m args below meth c H locs cells slots Q (F0 m pc ls (.int y :: .int x :: rest)) := lv_idiv hexec hb hdg (dv_some h).1 (k (dv_some h).2)
theorem x_irem (hexec : p.tables.exec = Jvm.exec) (hb : c.code = cc) {x y : Int32} {K : Option β} (hdg : decode cc pc = .ok (.irem, 1)) (h : dv y K = some o)
    (k : K = some o → W p l e R s m args below meth c H locs cells slots Q (F0 m (pc + 1) ls (.int (x - x / y * y) :: rest))) : W p l e R s m args below meth c H locs cells slots Q (F0 m pc ls (.int y :: .int x :: rest)) := lv_irem hexec hb hdg (dv_some h).1 (k (dv_some h).2)
theorem x_ldiv (hexec : p.tables.exec = Jvm.exec) (hb : c.code = cc) {x y : Int64} {K : Option β} (hdg : decode cc pc = .ok (.ldiv, 1)) (h : dvl y K = some o)
    (k : K = some o → W p l e R s m args below meth c H locs cells slots Q (F0 m (pc + 1) ls (.long (x / y) :: rest))) : W p l e R s m args below meth c H locs cells slots Q (F0 m pc ls (.long y :: .long x :: rest)) := lv_ldiv hexec hb hdg (dvl_some h).1 (k (dvl_some h).2)
end XR
end
section
section XC
variable {p : Program} {l : Launch} {e : Env} {R : Room} {s : State} {m : MethodId} {args : Array Value} {below : List Frame} {meth : Method} {c : Code} {H : Heap} {locs : List Loc} {cells slots : Nat} {Q : State → Prop}
variable {cc : ByteArray} {pc : Nat} {ls : Array Slot} {rest : List Value} {D : va_G} {cy : Nat → ClassId} {A : Nat → Prop}
variable {β : Type} {o : β}
theorem x_icmp_eq (hexec : p.tables.exec = Jvm.exec) (hb : c.code = cc) {x y : Int32} {off : Int} {tgt : Nat} {a b : Option β} {ii : Decidable (x = y)} (hdg : decode cc pc = .ok (.if_icmp .eq off, 3)) (ht : (pc : Int) + off = (tgt : Int)) (h : @ite _ (x = y) ii a b = some o)
    (kt : x = y → a = some o → W p l e R s m args below meth c H locs cells slots Q (F0 m tgt ls rest)) (kf : ¬ x = y → b = some o → W p l e R s m args below meth c H locs cells slots Q (F0 m (pc + 3) ls rest)) : W p l e R s m args below meth c H locs cells slots Q (F0 m pc ls (.int y :: .int x :: rest)) :=
  lv_icmp_eq hexec hb hdg ht (fun q => kt q (by rw [if_pos q] at h; exact h)) (fun q => kf q (by rw [if_neg q] at h; exact h))
theorem x_icmp_ne (hexec : p.tables.exec = Jvm.exec) (hb : c.code = cc) {x y : Int32} {off : Int} {tgt : Nat} {a b : Option β} {ii : Decidable (x = y)} (hdg : decode cc pc = .ok (.if_icmp .ne off, 3)) (ht : (pc : Int) + off = (tgt : Int)) (h : @ite _ (x = y) ii a b = some o)
    (kt : x = y → a = some o → W p l e R s m args below meth c H locs cells slots Q (F0 m (pc + 3) ls rest)) (kf : ¬ x = y → b = some o → W p l e R s m args below meth c H locs cells slots Q (F0 m tgt ls rest)) : W p l e R s m args below meth c H locs cells slots Q (F0 m pc ls (.int y :: .int x :: rest)) :=
  lv_icmp_ne hexec hb hdg ht (fun q => kf q (by rw [if_neg q] at h; exact h)) (fun q => kt q (by rw [if_pos q] at h; exact h))
theorem x_icmp_lt (hexec : p.tables.exec = Jvm.exec) (hb : c.code = cc) {x y : Int32} {off : Int} {tgt : Nat} {a b : Option β} {ii : Decidable (x < y)} (hdg : decode cc pc = .ok (.if_icmp .lt off, 3)) (ht : (pc : Int) + off = (tgt : Int)) (h : @ite _ (x < y) ii a b = some o)
    (kt : x < y → a = some o → W p l e R s m args below meth c H locs cells slots Q (F0 m tgt ls rest)) (kf : ¬ x < y → b = some o → W p l e R s m args below meth c H locs cells slots Q (F0 m (pc + 3) ls rest)) : W p l e R s m args below meth c H locs cells slots Q (F0 m pc ls (.int y :: .int x :: rest)) :=
  lv_icmp_lt hexec hb hdg ht (fun q => kt q (by rw [if_pos q] at h; exact h)) (fun q => kf q (by rw [if_neg q] at h; exact h))
theorem x_icmp_ge (hexec : p.tables.exec = Jvm.exec) (hb : c.code = cc) {x y : Int32} {off : Int} {tgt : Nat} {a b : Option β} {ii : Decidable (y ≤ x)} (hdg : decode cc pc = .ok (.if_icmp .ge off, 3)) (ht : (pc : Int) + off = (tgt : Int)) (h : @ite _ (y ≤ x) ii a b = some o)
    (kt : y ≤ x → a = some o → W p l e R s m args below meth c H locs cells slots Q (F0 m tgt ls rest)) (kf : ¬ y ≤ x → b = some o → W p l e R s m args below meth c H locs cells slots Q (F0 m (pc + 3) ls rest)) : W p l e R s m args below meth c H locs cells slots Q (F0 m pc ls (.int y :: .int x :: rest)) :=
  lv_icmp_ge hexec hb hdg ht (fun q => kt q (by rw [if_pos q] at h; exact h)) (fun q => kf q (by rw [if_neg q] at h; exact h))
theorem x_icmp_gt (hexec : p.tables.exec = Jvm.exec) (hb : c.code = cc) {x y : Int32} {off : Int} {tgt : Nat} {a b : Option β} {ii : Decidable (y < x)} (hdg : decode cc pc = .ok (.if_icmp .gt off, 3)) (ht : (pc : Int) + off = (tgt : Int)) (h : @ite _ (y < x) ii a b = some o)
    (kt : y < x → a = some o → W p l e R s m args below meth c H locs cells slots Q (F0 m tgt ls rest)) (kf : ¬ y < x → b = some o → W p l e R s m args below meth c H locs cells slots Q (F0 m (pc + 3) ls rest)) : W p l e R s m args below meth c H locs cells slots Q (F0 m pc ls (.int y :: .int x :: rest)) :=
  lv_icmp_gt hexec hb hdg ht (fun q => kt q (by rw [if_pos q] at h; exact h)) (fun q => kf q (by rw [if_neg q] at h; exact h))
theorem x_icmp_le (hexec : p.tables.exec = Jvm.exec) (hb : c.code = cc) {x y : Int32} {off : Int} {tgt : Nat} {a b : Option β} {ii : Decidable (x ≤ y)} (hdg : decode cc pc = .ok (.if_icmp .le off, 3)) (ht : (pc : Int) + off = (tgt : Int)) (h : @ite _ (x ≤ y) ii a b = some o)
    (kt : x ≤ y → a = some o → W p l e R s m args below meth c H locs cells slots Q (F0 m tgt ls rest)) (kf : ¬ x ≤ y → b = some o → W p l e R s m args below meth c H locs cells slots Q (F0 m (pc + 3) ls rest)) : W p l e R s m args below meth c H locs cells slots Q (F0 m pc ls (.int y :: .int x :: rest)) :=
  lv_icmp_le hexec hb hdg ht (fun q => kt q (by rw [if_pos q] at h; exact h)) (fun q => kf q (by rw [if_neg q] at h; exact h))
theorem x_if_eq (hexec : p.tables.exec = Jvm.exec) (hb : c.code = cc) {x : Int32} {off : Int} {tgt : Nat} {a b : Option β} {ii : Decidable (x = 0)} (hdg : decode cc pc = .ok (.ifCond .eq off, 3)) (ht : (pc : Int) + off = (tgt : Int)) (h : @ite _ (x = 0) ii a b = some o)
    (kt : x = 0 → a = some o → W p l e R s m args below meth c H locs cells slots Q (F0 m tgt ls rest)) (kf : ¬ x = 0 → b = some o → W p l e R s m args below meth c H locs cells slots Q (F0 m (pc + 3) ls rest)) : W p l e R s m args below meth c H locs cells slots Q (F0 m pc ls (.int x :: rest)) :=
  lv_if_eq hexec hb hdg ht (fun q => kt q (by rw [if_pos q] at h; exact h)) (fun q => kf q (by rw [if_neg q] at h; exact h))
theorem x_if_ne (hexec : p.tables.exec = Jvm.exec) (hb : c.code = cc) {x : Int32} {off : Int} {tgt : Nat} {a b : Option β} {ii : Decidable (x = 0)} (hdg : decode cc pc = .ok (.ifCond .ne off, 3)) (ht : (pc : Int) + off = (tgt : Int)) (h : @ite _ (x = 0) ii a b = some o)
    (kt : x = 0 → a = some o → W p l e R s m args below meth c H locs cells slots Q (F0 m (pc + 3) ls rest)) (kf : ¬ x = 0 → b = some o → W p l e R s m args below meth c H locs cells slots Q (F0 m tgt ls rest)) : W p l e R s m args below meth c H locs cells slots Q (F0 m pc ls (.int x :: rest)) :=
  lv_if_ne hexec hb hdg ht (fun q => kf q (by rw [if_neg q] at h; exact h)) (fun q => kt q (by rw [if_pos q] at h; exact h))
theorem x_if_lt (hexec : p.tables.exec = Jvm.exec) (hb : c.code = cc) {x : Int32} {off : Int} {tgt : Nat} {a b : Option β} {ii : Decidable (x < 0)} (hdg : decode cc pc = .ok (.ifCond .lt off, 3)) (ht : (pc : Int) + off = (tgt : Int)) (h : @ite _ (x < 0) ii a b = some o)
    (kt : x < 0 → a = some o → W p l e R s m args below meth c H locs cells slots Q (F0 m tgt ls rest)) (kf : ¬ x < 0 → b = some o → W p l e R s m args below meth c H locs cells slots Q (F0 m (pc + 3) ls rest)) : W p l e R s m args below meth c H locs cells slots Q (F0 m pc ls (.int x :: rest)) :=
  lv_if_lt hexec hb hdg ht (fun q => kt q (by rw [if_pos q] at h; exact h)) (fun q => kf q (by rw [if_neg q] at h; exact h))
theorem x_if_ge (hexec : p.tables.exec = Jvm.exec) (hb : c.code = cc) {x : Int32} {off : Int} {tgt : Nat} {a b : Option β} {ii : Decidable (0 ≤ x)} (hdg : decode cc pc = .ok (.ifCond .ge off, 3)) (ht : (pc : Int) + off = (tgt : Int)) (h : @ite _ (0 ≤ x) ii a b = some o)
    (kt : 0 ≤ x → a = some o → W p l e R s m args below meth c H locs cells slots Q (F0 m tgt ls rest)) (kf : ¬ 0 ≤ x → b = some o → W p l e R s m args below meth c H locs cells slots Q (F0 m (pc + 3) ls rest)) : W p l e R s m args below meth c H locs cells slots Q (F0 m pc ls (.int x :: rest)) :=
  lv_if_ge hexec hb hdg ht (fun q => kt q (by rw [if_pos q] at h; exact h)) (fun q => kf q (by rw [if_neg q] at h; exact h))
theorem x_if_gt (hexec : p.tables.exec = Jvm.exec) (hb : c.code = cc) {x : Int32} {off : Int} {tgt : Nat} {a b : Option β} {ii : Decidable (0 < x)} (hdg : decode cc pc = .ok (.ifCond .gt off, 3)) (ht : (pc : Int) + off = (tgt : Int)) (h : @ite _ (0 < x) ii a b = some o)
    (kt : 0 < x → a = some o → W p l e R s m args below meth c H locs cells slots Q (F0 m tgt ls rest)) (kf : ¬ 0 < x → b = some o → W p l e R s m args below meth c H locs cells slots Q (F0 m (pc + 3) ls rest)) : W p l e R s m args below meth c H locs cells slots Q (F0 m pc ls (.int x :: rest)) :=
  lv_if_gt hexec hb hdg ht (fun q => kt q (by rw [if_pos q] at h; exact h)) (fun q => kf q (by rw [if_neg q] at h; exact h))
theorem x_if_le (hexec : p.tables.exec = Jvm.exec) (hb : c.code = cc) {x : Int32} {off : Int} {tgt : Nat} {a b : Option β} {ii : Decidable (x ≤ 0)} (hdg : decode cc pc = .ok (.ifCond .le off, 3)) (ht : (pc : Int) + off = (tgt : Int)) (h : @ite _ (x ≤ 0) ii a b = some o)
    (kt : x ≤ 0 → a = some o → W p l e R s m args below meth c H locs cells slots Q (F0 m tgt ls rest)) (kf : ¬ x ≤ 0 → b = some o → W p l e R s m args below meth c H locs cells slots Q (F0 m (pc + 3) ls rest)) : W p l e R s m args below meth c H locs cells slots Q (F0 m pc ls (.int x :: rest)) :=
  lv_if_le hexec hb hdg ht (fun q => kt q (by rw [if_pos q] at h; exact h)) (fun q => kf q (by rw [if_neg q] at h; exact h))
theorem x_iret {w w' : va_W} {v r : Int32} (hexec : p.tables.exec = Jvm.exec) (hb : c.code = cc) (hr : meth.sig.returnType = some .int) (hlocks : meth.locks = false) (hK : va_K D vwCl (tyL cy) s) (hP : va_P D vwCl w H) (hD : va_D A w) (hS : va_S A s.heap H locs) (hdg : decode cc pc = .ok (.ireturn, 1)) (hv : v = r) (hw : w = w') : W p l e R s m args below meth c H locs 0 0 (QI below args s A D cy w' r) (F0 m pc ls [.int v]) := by
  subst hv; subst hw
  exact W.iret (v := v) hexec hb hr (fun t ht hW => ⟨⟨v, (), rfl, rfl, by rw [ht]; exact hP, va_K.moved hW.alike hK, hD⟩, hS.F ht⟩) hS.2.2 hdg hlocks
theorem x_zret {w w' : va_W} {v r : Int32} (hexec : p.tables.exec = Jvm.exec) (hb : c.code = cc) (hr : meth.sig.returnType = some .boolean) (hlocks : meth.locks = false) (hK : va_K D vwCl (tyL cy) s) (hP : va_P D vwCl w H) (hD : va_D A w) (hS : va_S A s.heap H locs) (hz : v = 0 ∨ v = 1) (hdg : decode cc pc = .ok (.ireturn, 1)) (hv : v = r) (hw : w = w') : W p l e R s m args below meth c H locs 0 0 (QI below args s A D cy w' r) (F0 m pc ls [.int v]) := by
  subst hv; subst hw
  exact W.zret (v := v) (ty := .boolean) hexec hb hr (by rcases hz with rfl | rfl <;> rfl) (fun t ht hW => ⟨⟨v, (), rfl, rfl, by rw [ht]; exact hP, va_K.moved hW.alike hK, hD⟩, hS.F ht⟩) hS.2.2 hdg hlocks
theorem x_lret {w w' : va_W} {v r : Int64} (hexec : p.tables.exec = Jvm.exec) (hb : c.code = cc) (hr : meth.sig.returnType = some .long) (hlocks : meth.locks = false) (hK : va_K D vwCl (tyL cy) s) (hP : va_P D vwCl w H) (hD : va_D A w) (hS : va_S A s.heap H locs) (hdg : decode cc pc = .ok (.lreturn, 1)) (hv : v = r) (hw : w = w') : W p l e R s m args below meth c H locs 0 0 (QL below args s A D cy w' r) (F0 m pc ls [.long v]) := by
  subst hv; subst hw
  exact W.lret (v := v) hexec hb hr (fun t ht hW => ⟨⟨v, (), rfl, rfl, by rw [ht]; exact hP, va_K.moved hW.alike hK, hD⟩, hS.F ht⟩) hS.2.2 hdg hlocks
theorem x_vret {w w' : va_W} (hexec : p.tables.exec = Jvm.exec) (hb : c.code = cc) (hr : meth.sig.returnType = none) (hlocks : meth.locks = false) (hK : va_K D vwCl (tyL cy) s) (hP : va_P D vwCl w H) (hD : va_D A w) (hS : va_S A s.heap H locs) (hdg : decode cc pc = .ok (.return_, 1)) (hw : w = w') : W p l e R s m args below meth c H locs 0 0 (QV below args s A D cy w') (F0 m pc ls []) := by
  subst hw
  exact W.vret hexec hb hr (fun t ht hW => ⟨⟨(), rfl, trivial, by rw [ht]; exact hP, va_K.moved hW.alike hK, hD⟩, hS.F ht⟩) hS.2.2 hdg hlocks
variable {y : MethodName} {cws cws' : List Cond} {rmC : Room} {bytes : ByteArray} {maxL nL n index b ci : Nat} {rt : Option FieldType} {Ts : List Cond} {own C : String} {As st0 : List Value} {w w' X Y wsX ws2 : va_W} {fs : List Value} {TT : u_T} {NN : Nat}
theorem x_callVI {r : Int32} (S : CallFix p m c cc nL s args Ts own) (hM : CtI l y cws rmC (.ref b :: As) D cy w w' r) (hG : GoodIn Ts (wsV own index C y cws)) (hcw : cws = Cond.code y bytes maxL rt :: cws') (hd : y.cls = C ∧ y.cls ≠ "java/lang/invoke/MethodHandle" ∧ y.cls ≠ "java/lang/invoke/VarHandle" ∧ (parseMethodDescriptor y.desc).map (fun d => d.parameters.length) = some n) (hR : rmC.frames + 1 ≤ R.frames ∧ 8 + (maxL + 11) + rmC.locals ≤ R.locals) (hrc : rmC.cells = 0 ∧ rmC.slots = 0) (hK : va_K D vwCl (tyL cy) s) (hs : wsX = X ++ (w ++ Y)) (hs2 : ws2 = X ++ (w' ++ Y)) (hP : va_P D vwCl wsX H) (hD : va_D A wsX) (hS : va_S A s.heap H locs) (hA : ∀ q, s.heap.size ≤ q → A q)
    (q0 : Nat) (hq : w[q0]? = some (b, .inr (ci, fs))) (hc : vwCl[ci]? = some (C, TT, NN)) (hn : As.length = n) (hsz : ls.size = nL) (hst : st0 = As.reverse ++ .ref b :: rest) (hrest : (rest.map fun v => v.category).sum ≤ 8) (hdg : decode cc pc = .ok (.invokevirtual index, 3)) (hcc : cells ≤ R.cells ∧ slots ≤ R.slots)
    (kk : ∀ (H1 : Heap) (locs1 : List Loc), va_P D vwCl ws2 H1 → va_D A ws2 → va_S A s.heap H1 locs1 → W p l e R s m args below meth c H1 locs1 cells slots Q (F0 m (pc + 3) ls (.int r :: rest))) : W p l e R s m args below meth c H locs cells slots Q (F0 m pc ls st0) := by
  subst hs; subst hs2
  obtain ⟨hPc, hDc⟩ := fr_in hP hD
  have hFc := fr_free hD hS hA
  refine va_calli (va_runV (As := As) (rest := rest) S (hM H.size) (cwV n S.2.2.2.2 hG hcw hrc.1 hrc.2 hd hR) ⟨cpre_blind, va_recv hK hPc hc hq, cpre_at hPc hDc hK⟩ rfl hn hsz hst (lv_room hrest) hdg hcc) hS (fun q _ h => hFc q h) hFc (fun r2 u t H1 locs1 ht hvm hw hB hz1 hk1 hS1 => ?_)
  subst hw
  obtain ⟨hP1, hK1, hD1⟩ := hB
  rw [ht] at hP1
  obtain ⟨hP2, hD2⟩ := fr_swap hP hD hk1 hFc hP1 hD1
  exact kk H1 locs1 hP2 hD2 hS1
theorem x_callSI {r : Int32} (S : CallFix p m c cc nL s args Ts own) (hM : CtI l y cws rmC As D cy w w' r) (hG : GoodIn Ts (va_wsS own index y cws)) (hcw : cws = Cond.code y bytes maxL rt :: cws') (hd : y.cls ≠ "java/lang/invoke/MethodHandle" ∧ y.cls ≠ "java/lang/invoke/VarHandle" ∧ (parseMethodDescriptor y.desc).map (fun d => d.parameters.length) = some n) (hR : rmC.frames + 1 ≤ R.frames ∧ 8 + (maxL + 11) + rmC.locals ≤ R.locals) (hrc : rmC.cells = 0 ∧ rmC.slots = 0) (hK : va_K D vwCl (tyL cy) s) (hs : wsX = X ++ (w ++ Y)) (hs2 : ws2 = X ++ (w' ++ Y)) (hP : va_P D vwCl wsX H) (hD : va_D A wsX) (hS : va_S A s.heap H locs) (hA : ∀ q, s.heap.size ≤ q → A q)
    (hn : As.length = n) (hsz : ls.size = nL) (hst : st0 = As.reverse ++ rest) (hrest : (rest.map fun v => v.category).sum ≤ 8) (hdg : decode cc pc = .ok (.invokestatic index, 3)) (hcc : cells ≤ R.cells ∧ slots ≤ R.slots)
    (kk : ∀ (H1 : Heap) (locs1 : List Loc), va_P D vwCl ws2 H1 → va_D A ws2 → va_S A s.heap H1 locs1 → W p l e R s m args below meth c H1 locs1 cells slots Q (F0 m (pc + 3) ls (.int r :: rest))) : W p l e R s m args below meth c H locs cells slots Q (F0 m pc ls st0) := by
  subst hs; subst hs2
  obtain ⟨hPc, hDc⟩ := fr_in hP hD
  have hFc := fr_free hD hS hA
  refine va_calli (va_runS (As := As) (rest := rest) S (hM H.size) (va_cwS n S.2.2.2.2 hG hcw hrc.1 hrc.2 hd hR) ⟨cpre_blind, cpre_at hPc hDc hK⟩ rfl hn hsz hst (lv_room hrest) hdg hcc) hS (fun q _ h => hFc q h) hFc (fun r2 u t H1 locs1 ht hvm hw hB hz1 hk1 hS1 => ?_)
  subst hw
  obtain ⟨hP1, hK1, hD1⟩ := hB
  rw [ht] at hP1
  obtain ⟨hP2, hD2⟩ := fr_swap hP hD hk1 hFc hP1 hD1
  exact kk H1 locs1 hP2 hD2 hS1
theorem x_callVL {r : Int64} (S : CallFix p m c cc nL s args Ts own) (hM : CtL l y cws rmC (.ref b :: As) D cy w w' r) (hG : GoodIn Ts (wsV own index C y cws)) (hcw : cws = Cond.code y bytes maxL rt :: cws') (hd : y.cls = C ∧ y.cls ≠ "java/lang/invoke/MethodHandle" ∧ y.cls ≠ "java/lang/invoke/VarHandle" ∧ (parseMethodDescriptor y.desc).map (fun d => d.parameters.length) = some n) (hR : rmC.frames + 1 ≤ R.frames ∧ 8 + (maxL + 11) + rmC.locals ≤ R.locals) (hrc : rmC.cells = 0 ∧ rmC.slots = 0) (hK : va_K D vwCl (tyL cy) s) (hs : wsX = X ++ (w ++ Y)) (hs2 : ws2 = X ++ (w' ++ Y)) (hP : va_P D vwCl wsX H) (hD : va_D A wsX) (hS : va_S A s.heap H locs) (hA : ∀ q, s.heap.size ≤ q → A q)
    (q0 : Nat) (hq : w[q0]? = some (b, .inr (ci, fs))) (hc : vwCl[ci]? = some (C, TT, NN)) (hn : As.length = n) (hsz : ls.size = nL) (hst : st0 = As.reverse ++ .ref b :: rest) (hrest : (rest.map fun v => v.category).sum ≤ 8) (hdg : decode cc pc = .ok (.invokevirtual index, 3)) (hcc : cells ≤ R.cells ∧ slots ≤ R.slots)
    (kk : ∀ (H1 : Heap) (locs1 : List Loc), va_P D vwCl ws2 H1 → va_D A ws2 → va_S A s.heap H1 locs1 → W p l e R s m args below meth c H1 locs1 cells slots Q (F0 m (pc + 3) ls (.long r :: rest))) : W p l e R s m args below meth c H locs cells slots Q (F0 m pc ls st0) := by
  subst hs; subst hs2
  obtain ⟨hPc, hDc⟩ := fr_in hP hD
  have hFc := fr_free hD hS hA
  refine va_calll (va_runV (As := As) (rest := rest) S (hM H.size) (cwV n S.2.2.2.2 hG hcw hrc.1 hrc.2 hd hR) ⟨cpre_blind, va_recv hK hPc hc hq, cpre_at hPc hDc hK⟩ rfl hn hsz hst (lv_room hrest) hdg hcc) hS (fun q _ h => hFc q h) hFc (fun r2 u t H1 locs1 ht hvm hw hB hz1 hk1 hS1 => ?_)
  subst hw
  obtain ⟨hP1, hK1, hD1⟩ := hB
  rw [ht] at hP1
  obtain ⟨hP2, hD2⟩ := fr_swap hP hD hk1 hFc hP1 hD1
  exact kk H1 locs1 hP2 hD2 hS1
theorem x_callSL {r : Int64} (S : CallFix p m c cc nL s args Ts own) (hM : CtL l y cws rmC As D cy w w' r) (hG : GoodIn Ts (va_wsS own index y cws)) (hcw : cws = Cond.code y bytes maxL rt :: cws') (hd : y.cls ≠ "java/lang/invoke/MethodHandle" ∧ y.cls ≠ "java/lang/invoke/VarHandle" ∧ (parseMethodDescriptor y.desc).map (fun d => d.parameters.length) = some n) (hR : rmC.frames + 1 ≤ R.frames ∧ 8 + (maxL + 11) + rmC.locals ≤ R.locals) (hrc : rmC.cells = 0 ∧ rmC.slots = 0) (hK : va_K D vwCl (tyL cy) s) (hs : wsX = X ++ (w ++ Y)) (hs2 : ws2 = X ++ (w' ++ Y)) (hP : va_P D vwCl wsX H) (hD : va_D A wsX) (hS : va_S A s.heap H locs) (hA : ∀ q, s.heap.size ≤ q → A q)
    (hn : As.length = n) (hsz : ls.size = nL) (hst : st0 = As.reverse ++ rest) (hrest : (rest.map fun v => v.category).sum ≤ 8) (hdg : decode cc pc = .ok (.invokestatic index, 3)) (hcc : cells ≤ R.cells ∧ slots ≤ R.slots)
    (kk : ∀ (H1 : Heap) (locs1 : List Loc), va_P D vwCl ws2 H1 → va_D A ws2 → va_S A s.heap H1 locs1 → W p l e R s m args below meth c H1 locs1 cells slots Q (F0 m (pc + 3) ls (.long r :: rest))) : W p l e R s m args below meth c H locs cells slots Q (F0 m pc ls st0) := by
  subst hs; subst hs2
  obtain ⟨hPc, hDc⟩ := fr_in hP hD
  have hFc := fr_free hD hS hA
  refine va_calll (va_runS (As := As) (rest := rest) S (hM H.size) (va_cwS n S.2.2.2.2 hG hcw hrc.1 hrc.2 hd hR) ⟨cpre_blind, cpre_at hPc hDc hK⟩ rfl hn hsz hst (lv_room hrest) hdg hcc) hS (fun q _ h => hFc q h) hFc (fun r2 u t H1 locs1 ht hvm hw hB hz1 hk1 hS1 => ?_)
  subst hw
  obtain ⟨hP1, hK1, hD1⟩ := hB
  rw [ht] at hP1
  obtain ⟨hP2, hD2⟩ := fr_swap hP hD hk1 hFc hP1 hD1
  exact kk H1 locs1 hP2 hD2 hS1
theorem x_callVV (S : CallFix p m c cc nL s args Ts own) (hM : CtV l y cws rmC (.ref b :: As) D cy w w') (hG : GoodIn Ts (wsV own index C y cws)) (hcw : cws = Cond.code y bytes maxL rt :: cws') (hd : y.cls = C ∧ y.cls ≠ "java/lang/invoke/MethodHandle" ∧ y.cls ≠ "java/lang/invoke/VarHandle" ∧ (parseMethodDescriptor y.desc).map (fun d => d.parameters.length) = some n) (hR : rmC.frames + 1 ≤ R.frames ∧ 8 + (maxL + 11) + rmC.locals ≤ R.locals) (hrc : rmC.cells = 0 ∧ rmC.slots = 0) (hK : va_K D vwCl (tyL cy) s) (hs : wsX = X ++ (w ++ Y)) (hs2 : ws2 = X ++ (w' ++ Y)) (hP : va_P D vwCl wsX H) (hD : va_D A wsX) (hS : va_S A s.heap H locs) (hA : ∀ q, s.heap.size ≤ q → A q)
    (q0 : Nat) (hq : w[q0]? = some (b, .inr (ci, fs))) (hc : vwCl[ci]? = some (C, TT, NN)) (hn : As.length = n) (hsz : ls.size = nL) (hst : st0 = As.reverse ++ .ref b :: rest) (hrest : (rest.map fun v => v.category).sum ≤ 8) (hdg : decode cc pc = .ok (.invokevirtual index, 3)) (hcc : cells ≤ R.cells ∧ slots ≤ R.slots)
    (kk : ∀ (H1 : Heap) (locs1 : List Loc), va_P D vwCl ws2 H1 → va_D A ws2 → va_S A s.heap H1 locs1 → W p l e R s m args below meth c H1 locs1 cells slots Q (F0 m (pc + 3) ls rest)) : W p l e R s m args below meth c H locs cells slots Q (F0 m pc ls st0) := by
  subst hs; subst hs2
  obtain ⟨hPc, hDc⟩ := fr_in hP hD
  have hFc := fr_free hD hS hA
  refine va_callv (va_runV (As := As) (rest := rest) S (hM H.size) (cwV n S.2.2.2.2 hG hcw hrc.1 hrc.2 hd hR) ⟨cpre_blind, va_recv hK hPc hc hq, cpre_at hPc hDc hK⟩ rfl hn hsz hst (lv_room hrest) hdg hcc) hS (fun q _ h => hFc q h) hFc (fun u t H1 locs1 ht hvm hw hB hz1 hk1 hS1 => ?_)
  obtain ⟨hP1, hK1, hD1⟩ := hB
  rw [ht] at hP1
  obtain ⟨hP2, hD2⟩ := fr_swap hP hD hk1 hFc hP1 hD1
  exact kk H1 locs1 hP2 hD2 hS1
theorem x_callSV (S : CallFix p m c cc nL s args Ts own) (hM : CtV l y cws rmC As D cy w w') (hG : GoodIn Ts (va_wsS own index y cws)) (hcw : cws = Cond.code y bytes maxL rt :: cws') (hd : y.cls ≠ "java/lang/invoke/MethodHandle" ∧ y.cls ≠ "java/lang/invoke/VarHandle" ∧ (parseMethodDescriptor y.desc).map (fun d => d.parameters.length) = some n) (hR : rmC.frames + 1 ≤ R.frames ∧ 8 + (maxL + 11) + rmC.locals ≤ R.locals) (hrc : rmC.cells = 0 ∧ rmC.slots = 0) (hK : va_K D vwCl (tyL cy) s) (hs : wsX = X ++ (w ++ Y)) (hs2 : ws2 = X ++ (w' ++ Y)) (hP : va_P D vwCl wsX H) (hD : va_D A wsX) (hS : va_S A s.heap H locs) (hA : ∀ q, s.heap.size ≤ q → A q)
    (hn : As.length = n) (hsz : ls.size = nL) (hst : st0 = As.reverse ++ rest) (hrest : (rest.map fun v => v.category).sum ≤ 8) (hdg : decode cc pc = .ok (.invokestatic index, 3)) (hcc : cells ≤ R.cells ∧ slots ≤ R.slots)
    (kk : ∀ (H1 : Heap) (locs1 : List Loc), va_P D vwCl ws2 H1 → va_D A ws2 → va_S A s.heap H1 locs1 → W p l e R s m args below meth c H1 locs1 cells slots Q (F0 m (pc + 3) ls rest)) : W p l e R s m args below meth c H locs cells slots Q (F0 m pc ls st0) := by
  subst hs; subst hs2
  obtain ⟨hPc, hDc⟩ := fr_in hP hD
  have hFc := fr_free hD hS hA
  refine va_callv (va_runS (As := As) (rest := rest) S (hM H.size) (va_cwS n S.2.2.2.2 hG hcw hrc.1 hrc.2 hd hR) ⟨cpre_blind, cpre_at hPc hDc hK⟩ rfl hn hsz hst (lv_room hrest) hdg hcc) hS (fun q _ h => hFc q h) hFc (fun u t H1 locs1 ht hvm hw hB hz1 hk1 hS1 => ?_)
  obtain ⟨hP1, hK1, hD1⟩ := hB
  rw [ht] at hP1
  obtain ⟨hP2, hD2⟩ := fr_swap hP hD hk1 hFc hP1 hD1
  exact kk H1 locs1 hP2 hD2 hS1
end XC
theorem sp_nil (w : va_W) : w = w ++ ([] ++ []) := by simp
theorem sp_all (w : va_W) : w = [] ++ (w ++ []) := by simp
end
