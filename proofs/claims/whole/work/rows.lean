section
-- ===== PART A: goes FIRST, ahead of the names: the tables' words, and 'selects' of the private methods out of them =====
/-- a private method of a class that the tables say can be made, by its rows of tables_1 -/
def lw_okq (q : MethodName × Nat) : Prop := (q.1.cls ≠ "java/lang/invoke/MethodHandle" ∧ q.1.cls ≠ "java/lang/invoke/VarHandle") ∧ Cond.instantiable q.1.cls q.2 ∈ tables_1 ∧ Cond.privateMethod q.1 ∈ tables_1 ∧ Cond.instanceMethod q.1 ∈ tables_1
theorem lw_p0 : lw_okq (⟨"HeavyRoutes$Rater", "findScales", "(LHeavyRoutes$Bridge;)V"⟩, 8) := ⟨⟨by decide +kernel, by decide +kernel⟩, List.mem_of_getElem? (i := 64) (by decide +kernel), List.mem_of_getElem? (i := 416) (by decide +kernel), List.mem_of_getElem? (i := 417) (by decide +kernel)⟩
theorem lw_p1 : lw_okq (⟨"HeavyRoutes$Rater", "takeGreater", "(LHeavyRoutes$Bridge;LHeavyRoutes$Journey;JILHeavyRoutes$Wide;)V"⟩, 8) := ⟨⟨by decide +kernel, by decide +kernel⟩, List.mem_of_getElem? (i := 64) (by decide +kernel), List.mem_of_getElem? (i := 433) (by decide +kernel), List.mem_of_getElem? (i := 434) (by decide +kernel)⟩
theorem lw_p2 : lw_okq (⟨"HeavyRoutes$Rater", "shareOut", "(LHeavyRoutes$Bridge;JJ)V"⟩, 8) := ⟨⟨by decide +kernel, by decide +kernel⟩, List.mem_of_getElem? (i := 64) (by decide +kernel), List.mem_of_getElem? (i := 437) (by decide +kernel), List.mem_of_getElem? (i := 438) (by decide +kernel)⟩
theorem lw_p3 : lw_okq (⟨"HeavyRoutes$Wide", "addShifted", "(JJI)V"⟩, 1) := ⟨⟨by decide +kernel, by decide +kernel⟩, List.mem_of_getElem? (i := 70) (by decide +kernel), List.mem_of_getElem? (i := 449) (by decide +kernel), List.mem_of_getElem? (i := 450) (by decide +kernel)⟩
theorem lw_p4 : lw_okq (⟨"HeavyRoutes$Road", "waitAt", "(I)I"⟩, 11) := ⟨⟨by decide +kernel, by decide +kernel⟩, List.mem_of_getElem? (i := 127) (by decide +kernel), List.mem_of_getElem? (i := 589) (by decide +kernel), List.mem_of_getElem? (i := 590) (by decide +kernel)⟩
theorem lw_p5 : lw_okq (⟨"HeavyRoutes$Finder", "goOn", "(III)V"⟩, 15) := ⟨⟨by decide +kernel, by decide +kernel⟩, List.mem_of_getElem? (i := 246) (by decide +kernel), List.mem_of_getElem? (i := 596) (by decide +kernel), List.mem_of_getElem? (i := 597) (by decide +kernel)⟩
theorem lw_p6 : lw_okq (⟨"HeavyRoutes$Finder", "consider", "(II)V"⟩, 15) := ⟨⟨by decide +kernel, by decide +kernel⟩, List.mem_of_getElem? (i := 246) (by decide +kernel), List.mem_of_getElem? (i := 600) (by decide +kernel), List.mem_of_getElem? (i := 601) (by decide +kernel)⟩
theorem lw_p7 : lw_okq (⟨"HeavyRoutes$Finder", "isAllowed", "()Z"⟩, 15) := ⟨⟨by decide +kernel, by decide +kernel⟩, List.mem_of_getElem? (i := 246) (by decide +kernel), List.mem_of_getElem? (i := 612) (by decide +kernel), List.mem_of_getElem? (i := 613) (by decide +kernel)⟩
theorem lw_p8 : lw_okq (⟨"HeavyRoutes$Finder", "canTake", "(III)Z"⟩, 15) := ⟨⟨by decide +kernel, by decide +kernel⟩, List.mem_of_getElem? (i := 246) (by decide +kernel), List.mem_of_getElem? (i := 630) (by decide +kernel), List.mem_of_getElem? (i := 631) (by decide +kernel)⟩
theorem lw_p9 : lw_okq (⟨"HeavyRoutes$Finder", "take", "(IIII)V"⟩, 15) := ⟨⟨by decide +kernel, by decide +kernel⟩, List.mem_of_getElem? (i := 246) (by decide +kernel), List.mem_of_getElem? (i := 639) (by decide +kernel), List.mem_of_getElem? (i := 640) (by decide +kernel)⟩
theorem lw_p10 : lw_okq (⟨"HeavyRoutesModel", "forget", "()V"⟩, 54) := ⟨⟨by decide +kernel, by decide +kernel⟩, List.mem_of_getElem? (i := 721) (by decide +kernel), List.mem_of_getElem? (i := 904) (by decide +kernel), List.mem_of_getElem? (i := 905) (by decide +kernel)⟩
theorem lw_p11 : lw_okq (⟨"HeavyRoutesModel", "isRoad", "(I)Z"⟩, 54) := ⟨⟨by decide +kernel, by decide +kernel⟩, List.mem_of_getElem? (i := 721) (by decide +kernel), List.mem_of_getElem? (i := 912) (by decide +kernel), List.mem_of_getElem? (i := 913) (by decide +kernel)⟩
theorem lw_p12 : lw_okq (⟨"HeavyRoutesModel", "isBridge", "(I)Z"⟩, 54) := ⟨⟨by decide +kernel, by decide +kernel⟩, List.mem_of_getElem? (i := 721) (by decide +kernel), List.mem_of_getElem? (i := 920) (by decide +kernel), List.mem_of_getElem? (i := 921) (by decide +kernel)⟩
theorem lw_p13 : lw_okq (⟨"HeavyRoutesModel", "rate", "(I)V"⟩, 54) := ⟨⟨by decide +kernel, by decide +kernel⟩, List.mem_of_getElem? (i := 721) (by decide +kernel), List.mem_of_getElem? (i := 959) (by decide +kernel), List.mem_of_getElem? (i := 960) (by decide +kernel)⟩
theorem lw_p14 : lw_okq (⟨"HeavyRoutesModel", "effect", "(III)V"⟩, 54) := ⟨⟨by decide +kernel, by decide +kernel⟩, List.mem_of_getElem? (i := 721) (by decide +kernel), List.mem_of_getElem? (i := 966) (by decide +kernel), List.mem_of_getElem? (i := 967) (by decide +kernel)⟩
theorem lw_p15 : lw_okq (⟨"HeavyRoutesModel", "addAt", "(III)V"⟩, 54) := ⟨⟨by decide +kernel, by decide +kernel⟩, List.mem_of_getElem? (i := 721) (by decide +kernel), List.mem_of_getElem? (i := 970) (by decide +kernel), List.mem_of_getElem? (i := 971) (by decide +kernel)⟩
def lw_privs_1 : List (MethodName × Nat) := [(⟨"HeavyRoutes$Rater", "findScales", "(LHeavyRoutes$Bridge;)V"⟩, 8), (⟨"HeavyRoutes$Rater", "takeGreater", "(LHeavyRoutes$Bridge;LHeavyRoutes$Journey;JILHeavyRoutes$Wide;)V"⟩, 8), (⟨"HeavyRoutes$Rater", "shareOut", "(LHeavyRoutes$Bridge;JJ)V"⟩, 8), (⟨"HeavyRoutes$Wide", "addShifted", "(JJI)V"⟩, 1), (⟨"HeavyRoutes$Road", "waitAt", "(I)I"⟩, 11), (⟨"HeavyRoutes$Finder", "goOn", "(III)V"⟩, 15), (⟨"HeavyRoutes$Finder", "consider", "(II)V"⟩, 15), (⟨"HeavyRoutes$Finder", "isAllowed", "()Z"⟩, 15), (⟨"HeavyRoutes$Finder", "canTake", "(III)Z"⟩, 15), (⟨"HeavyRoutes$Finder", "take", "(IIII)V"⟩, 15), (⟨"HeavyRoutesModel", "forget", "()V"⟩, 54), (⟨"HeavyRoutesModel", "isRoad", "(I)Z"⟩, 54), (⟨"HeavyRoutesModel", "isBridge", "(I)Z"⟩, 54), (⟨"HeavyRoutesModel", "rate", "(I)V"⟩, 54), (⟨"HeavyRoutesModel", "effect", "(III)V"⟩, 54), (⟨"HeavyRoutesModel", "addAt", "(III)V"⟩, 54)]
theorem lw_r1 : ∀ q ∈ lw_privs_1, lw_okq q := List.forall_mem_cons.mpr ⟨lw_p0, List.forall_mem_cons.mpr ⟨lw_p1, List.forall_mem_cons.mpr ⟨lw_p2, List.forall_mem_cons.mpr ⟨lw_p3, List.forall_mem_cons.mpr ⟨lw_p4, List.forall_mem_cons.mpr ⟨lw_p5, List.forall_mem_cons.mpr ⟨lw_p6, List.forall_mem_cons.mpr ⟨lw_p7, List.forall_mem_cons.mpr ⟨lw_p8, List.forall_mem_cons.mpr ⟨lw_p9, List.forall_mem_cons.mpr ⟨lw_p10, List.forall_mem_cons.mpr ⟨lw_p11, List.forall_mem_cons.mpr ⟨lw_p12, List.forall_mem_cons.mpr ⟨lw_p13, List.forall_mem_cons.mpr ⟨lw_p14, List.forall_mem_cons.mpr ⟨lw_p15, fun _ h => absurd h List.not_mem_nil⟩⟩⟩⟩⟩⟩⟩⟩⟩⟩⟩⟩⟩⟩⟩⟩
theorem lw_p16 : lw_okq (⟨"HeavyRoutesModel", "add", "(JJ)V"⟩, 54) := ⟨⟨by decide +kernel, by decide +kernel⟩, List.mem_of_getElem? (i := 721) (by decide +kernel), List.mem_of_getElem? (i := 974) (by decide +kernel), List.mem_of_getElem? (i := 975) (by decide +kernel)⟩
theorem lw_p17 : lw_okq (⟨"HeavyRoutesModel", "product", "(JJ)V"⟩, 54) := ⟨⟨by decide +kernel, by decide +kernel⟩, List.mem_of_getElem? (i := 721) (by decide +kernel), List.mem_of_getElem? (i := 978) (by decide +kernel), List.mem_of_getElem? (i := 979) (by decide +kernel)⟩
theorem lw_p18 : lw_okq (⟨"HeavyRoutesModel", "divide", "(JJJ)V"⟩, 54) := ⟨⟨by decide +kernel, by decide +kernel⟩, List.mem_of_getElem? (i := 721) (by decide +kernel), List.mem_of_getElem? (i := 988) (by decide +kernel), List.mem_of_getElem? (i := 989) (by decide +kernel)⟩
theorem lw_p19 : lw_okq (⟨"HeavyRoutesModel", "search", "(I)V"⟩, 54) := ⟨⟨by decide +kernel, by decide +kernel⟩, List.mem_of_getElem? (i := 721) (by decide +kernel), List.mem_of_getElem? (i := 1002) (by decide +kernel), List.mem_of_getElem? (i := 1003) (by decide +kernel)⟩
theorem lw_p20 : lw_okq (⟨"HeavyRoutesModel", "findBearing", "()V"⟩, 54) := ⟨⟨by decide +kernel, by decide +kernel⟩, List.mem_of_getElem? (i := 721) (by decide +kernel), List.mem_of_getElem? (i := 1006) (by decide +kernel), List.mem_of_getElem? (i := 1007) (by decide +kernel)⟩
theorem lw_p21 : lw_okq (⟨"HeavyRoutesModel", "why", "(I)I"⟩, 54) := ⟨⟨by decide +kernel, by decide +kernel⟩, List.mem_of_getElem? (i := 721) (by decide +kernel), List.mem_of_getElem? (i := 1010) (by decide +kernel), List.mem_of_getElem? (i := 1011) (by decide +kernel)⟩
theorem lw_p22 : lw_okq (⟨"HeavyRoutesModel", "isAbove", "(II)Z"⟩, 54) := ⟨⟨by decide +kernel, by decide +kernel⟩, List.mem_of_getElem? (i := 721) (by decide +kernel), List.mem_of_getElem? (i := 1014) (by decide +kernel), List.mem_of_getElem? (i := 1015) (by decide +kernel)⟩
theorem lw_p23 : lw_okq (⟨"HeavyRoutesModel", "earliest", "(II)I"⟩, 54) := ⟨⟨by decide +kernel, by decide +kernel⟩, List.mem_of_getElem? (i := 721) (by decide +kernel), List.mem_of_getElem? (i := 1018) (by decide +kernel), List.mem_of_getElem? (i := 1019) (by decide +kernel)⟩
theorem lw_p24 : lw_okq (⟨"HeavyRoutesModel", "isBarred", "(II)Z"⟩, 54) := ⟨⟨by decide +kernel, by decide +kernel⟩, List.mem_of_getElem? (i := 721) (by decide +kernel), List.mem_of_getElem? (i := 1022) (by decide +kernel), List.mem_of_getElem? (i := 1023) (by decide +kernel)⟩
theorem lw_p25 : lw_okq (⟨"HeavyRoutesModel", "goThrough", "()V"⟩, 54) := ⟨⟨by decide +kernel, by decide +kernel⟩, List.mem_of_getElem? (i := 721) (by decide +kernel), List.mem_of_getElem? (i := 1026) (by decide +kernel), List.mem_of_getElem? (i := 1027) (by decide +kernel)⟩
theorem lw_p26 : lw_okq (⟨"HeavyRoutesModel", "judge", "()V"⟩, 54) := ⟨⟨by decide +kernel, by decide +kernel⟩, List.mem_of_getElem? (i := 721) (by decide +kernel), List.mem_of_getElem? (i := 1030) (by decide +kernel), List.mem_of_getElem? (i := 1031) (by decide +kernel)⟩
theorem lw_p27 : lw_okq (⟨"HeavyRoutesModel", "endOf", "([IIII)I"⟩, 54) := ⟨⟨by decide +kernel, by decide +kernel⟩, List.mem_of_getElem? (i := 721) (by decide +kernel), List.mem_of_getElem? (i := 1034) (by decide +kernel), List.mem_of_getElem? (i := 1035) (by decide +kernel)⟩
theorem lw_p28 : lw_okq (⟨"HeavyRoutesModel", "takes", "(I)I"⟩, 54) := ⟨⟨by decide +kernel, by decide +kernel⟩, List.mem_of_getElem? (i := 721) (by decide +kernel), List.mem_of_getElem? (i := 1038) (by decide +kernel), List.mem_of_getElem? (i := 1039) (by decide +kernel)⟩
theorem lw_p29 : lw_okq (⟨"HeavyRoutesModel", "mayBe", "()Z"⟩, 54) := ⟨⟨by decide +kernel, by decide +kernel⟩, List.mem_of_getElem? (i := 721) (by decide +kernel), List.mem_of_getElem? (i := 1042) (by decide +kernel), List.mem_of_getElem? (i := 1043) (by decide +kernel)⟩
theorem lw_p30 : lw_okq (⟨"HeavyRoutesModel", "isBetter", "(I)Z"⟩, 54) := ⟨⟨by decide +kernel, by decide +kernel⟩, List.mem_of_getElem? (i := 721) (by decide +kernel), List.mem_of_getElem? (i := 1046) (by decide +kernel), List.mem_of_getElem? (i := 1047) (by decide +kernel)⟩
theorem lw_p31 : lw_okq (⟨"HeavyRoutesModel", "bridgesOf", "([II)I"⟩, 54) := ⟨⟨by decide +kernel, by decide +kernel⟩, List.mem_of_getElem? (i := 721) (by decide +kernel), List.mem_of_getElem? (i := 1050) (by decide +kernel), List.mem_of_getElem? (i := 1051) (by decide +kernel)⟩
def lw_privs_2 : List (MethodName × Nat) := [(⟨"HeavyRoutesModel", "add", "(JJ)V"⟩, 54), (⟨"HeavyRoutesModel", "product", "(JJ)V"⟩, 54), (⟨"HeavyRoutesModel", "divide", "(JJJ)V"⟩, 54), (⟨"HeavyRoutesModel", "search", "(I)V"⟩, 54), (⟨"HeavyRoutesModel", "findBearing", "()V"⟩, 54), (⟨"HeavyRoutesModel", "why", "(I)I"⟩, 54), (⟨"HeavyRoutesModel", "isAbove", "(II)Z"⟩, 54), (⟨"HeavyRoutesModel", "earliest", "(II)I"⟩, 54), (⟨"HeavyRoutesModel", "isBarred", "(II)Z"⟩, 54), (⟨"HeavyRoutesModel", "goThrough", "()V"⟩, 54), (⟨"HeavyRoutesModel", "judge", "()V"⟩, 54), (⟨"HeavyRoutesModel", "endOf", "([IIII)I"⟩, 54), (⟨"HeavyRoutesModel", "takes", "(I)I"⟩, 54), (⟨"HeavyRoutesModel", "mayBe", "()Z"⟩, 54), (⟨"HeavyRoutesModel", "isBetter", "(I)Z"⟩, 54), (⟨"HeavyRoutesModel", "bridgesOf", "([II)I"⟩, 54)]
theorem lw_r2 : ∀ q ∈ lw_privs_2, lw_okq q := List.forall_mem_cons.mpr ⟨lw_p16, List.forall_mem_cons.mpr ⟨lw_p17, List.forall_mem_cons.mpr ⟨lw_p18, List.forall_mem_cons.mpr ⟨lw_p19, List.forall_mem_cons.mpr ⟨lw_p20, List.forall_mem_cons.mpr ⟨lw_p21, List.forall_mem_cons.mpr ⟨lw_p22, List.forall_mem_cons.mpr ⟨lw_p23, List.forall_mem_cons.mpr ⟨lw_p24, List.forall_mem_cons.mpr ⟨lw_p25, List.forall_mem_cons.mpr ⟨lw_p26, List.forall_mem_cons.mpr ⟨lw_p27, List.forall_mem_cons.mpr ⟨lw_p28, List.forall_mem_cons.mpr ⟨lw_p29, List.forall_mem_cons.mpr ⟨lw_p30, List.forall_mem_cons.mpr ⟨lw_p31, fun _ h => absurd h List.not_mem_nil⟩⟩⟩⟩⟩⟩⟩⟩⟩⟩⟩⟩⟩⟩⟩⟩
theorem lw_p32 : lw_okq (⟨"HeavyRoutesModel", "mayGo", "(II)Z"⟩, 54) := ⟨⟨by decide +kernel, by decide +kernel⟩, List.mem_of_getElem? (i := 721) (by decide +kernel), List.mem_of_getElem? (i := 1054) (by decide +kernel), List.mem_of_getElem? (i := 1055) (by decide +kernel)⟩
theorem lw_p33 : lw_okq (⟨"HeavyRoutesModel", "otherEnd", "(II)I"⟩, 54) := ⟨⟨by decide +kernel, by decide +kernel⟩, List.mem_of_getElem? (i := 721) (by decide +kernel), List.mem_of_getElem? (i := 1058) (by decide +kernel), List.mem_of_getElem? (i := 1059) (by decide +kernel)⟩
theorem lw_p34 : lw_okq (⟨"HeavyRoutesModel", "keep", "()V"⟩, 54) := ⟨⟨by decide +kernel, by decide +kernel⟩, List.mem_of_getElem? (i := 721) (by decide +kernel), List.mem_of_getElem? (i := 1062) (by decide +kernel), List.mem_of_getElem? (i := 1063) (by decide +kernel)⟩
theorem lw_p35 : lw_okq (⟨"HeavyRoutesModel", "handSize", "()I"⟩, 54) := ⟨⟨by decide +kernel, by decide +kernel⟩, List.mem_of_getElem? (i := 721) (by decide +kernel), List.mem_of_getElem? (i := 1075) (by decide +kernel), List.mem_of_getElem? (i := 1076) (by decide +kernel)⟩
theorem lw_p36 : lw_okq (⟨"HeavyRoutesModel", "hand", "(I)I"⟩, 54) := ⟨⟨by decide +kernel, by decide +kernel⟩, List.mem_of_getElem? (i := 721) (by decide +kernel), List.mem_of_getElem? (i := 1079) (by decide +kernel), List.mem_of_getElem? (i := 1080) (by decide +kernel)⟩
theorem lw_p37 : lw_okq (⟨"HeavyRoutesModel", "wantsEscort", "(I)Z"⟩, 54) := ⟨⟨by decide +kernel, by decide +kernel⟩, List.mem_of_getElem? (i := 721) (by decide +kernel), List.mem_of_getElem? (i := 1100) (by decide +kernel), List.mem_of_getElem? (i := 1101) (by decide +kernel)⟩
def lw_privs_3 : List (MethodName × Nat) := [(⟨"HeavyRoutesModel", "mayGo", "(II)Z"⟩, 54), (⟨"HeavyRoutesModel", "otherEnd", "(II)I"⟩, 54), (⟨"HeavyRoutesModel", "keep", "()V"⟩, 54), (⟨"HeavyRoutesModel", "handSize", "()I"⟩, 54), (⟨"HeavyRoutesModel", "hand", "(I)I"⟩, 54), (⟨"HeavyRoutesModel", "wantsEscort", "(I)Z"⟩, 54)]
theorem lw_r3 : ∀ q ∈ lw_privs_3, lw_okq q := List.forall_mem_cons.mpr ⟨lw_p32, List.forall_mem_cons.mpr ⟨lw_p33, List.forall_mem_cons.mpr ⟨lw_p34, List.forall_mem_cons.mpr ⟨lw_p35, List.forall_mem_cons.mpr ⟨lw_p36, List.forall_mem_cons.mpr ⟨lw_p37, fun _ h => absurd h List.not_mem_nil⟩⟩⟩⟩⟩⟩
def lw_privs : List (MethodName × Nat) := lw_privs_1 ++ (lw_privs_2 ++ (lw_privs_3))
def lw_tbl : List Cond := k2_sels lw_privs ++ tables_1
theorem lw_privs_ok : ∀ q ∈ lw_privs, lw_okq q := by
  show ∀ q ∈ lw_privs_1 ++ (lw_privs_2 ++ (lw_privs_3)), lw_okq q
  exact List.forall_mem_append.mpr ⟨lw_r1, List.forall_mem_append.mpr ⟨lw_r2, lw_r3⟩⟩
end
section
/-! ===== BEGIN words of one list among another's, by their places ===== -/
theorem goodIn_r {big : List Cond} (ws : List Cond) (ps : List Nat) (hp : ws = ps.filterMap (fun i => big[i]?)) (h : ws.all goodWord = true) : GoodIn big ws := by
  intro w hw
  have h1 := List.all_eq_true.mp h w hw
  rw [hp] at hw
  obtain ⟨i, -, hi⟩ := List.mem_filterMap.mp hw
  have hm : w ∈ big := by first | exact List.mem_of_getElem? hi | exact List.getElem?_mem hi
  exact ⟨hm, good_of_word h1⟩
theorem goodIn_app {big a b : List Cond} (ha : GoodIn big a) (hb : GoodIn big b) : GoodIn big (a ++ b) := fun w h => (List.mem_append.mp h).elim (ha w) (hb w)
theorem goodIn_ca {big a b : List Cond} {c : Cond} (ha : GoodIn big (c :: a)) (hb : GoodIn big b) : GoodIn big (c :: (a ++ b)) := fun w h => (List.mem_cons.mp h).elim (fun e => ha w (List.mem_cons.mpr (Or.inl e))) (fun h => (List.mem_append.mp h).elim (fun h => ha w (List.mem_cons.mpr (Or.inr h))) (hb w))
theorem goodIn_sub {big ws : List Cond} (hm : ∀ w ∈ ws, w ∈ big) (h : ws.all goodWord = true) : GoodIn big ws := fun w hw => ⟨hm w hw, good_of_word (List.all_eq_true.mp h w hw)⟩
/-! ===== END ===== -/

/-! ===== BEGIN printed: names, fields, word lists, decode rows ===== -/
def RX0 : String := "HeavyRoutes$Bridge"
def TX0 : u_T := fun k => match k with
  | 0 => ("HeavyRoutes$Bridge", "slow", "Z", false)
  | 1 => ("HeavyRoutes$Bridge", "cornerCount", "I", false)
  | 2 => ("HeavyRoutes$Bridge", "at", "[J", true)
  | 3 => ("HeavyRoutes$Bridge", "above", "[J", true)
  | 4 => ("HeavyRoutes$Bridge", "below", "[J", true)
  | 5 => ("HeavyRoutes$Bridge", "kept", "LHeavyRoutes$Rating;", true)
  | 6 => ("HeavyRoutes$Bridge", "tooWeak", "Z", false)
  | _ => ("HeavyRoutes$Bridge", "wantsEscort", "Z", false)
def tyX0 : Nat → FieldType := fun k => match k with
  | 0 => .boolean
  | 1 => .int
  | 2 => .array .long
  | 3 => .array .long
  | 4 => .array .long
  | 5 => .object "HeavyRoutes$Rating"
  | 6 => .boolean
  | _ => .boolean
abbrev wsX00 : List Cond := u_ws RX0 TX0 8
theorem nmX0 : ∀ a, a < 8 → ∀ b, b < 8 → a ≠ b → (TX0 a).2.1 ≠ (TX0 b).2.1 := by decide +kernel
theorem tyX0_ok : ∀ k, k < 8 → parseFieldDescriptor (TX0 k).2.2.1 = some (tyX0 k) := by decide +kernel
abbrev cX0_init : ByteArray := prog_2_method_1_code
def yX0_init : MethodName := ⟨RX0, "<init>", "()V"⟩
abbrev cX0_canTakeCorner : ByteArray := prog_2_method_2_code
def yX0_canTakeCorner : MethodName := ⟨RX0, "canTakeCorner", "(J)Z"⟩
abbrev cX0_addCorner : ByteArray := prog_2_method_3_code
def yX0_addCorner : MethodName := ⟨RX0, "addCorner", "(JJJ)V"⟩
abbrev cX0_gapBehind : ByteArray := prog_2_method_4_code
def yX0_gapBehind : MethodName := ⟨RX0, "gapBehind", "(I)J"⟩
def RX1 : String := "HeavyRoutes$Finder"
def TX1 : u_T := fun k => match k with
  | 0 => ("HeavyRoutes$Finder", "net", "LHeavyRoutes$Net;", true)
  | 1 => ("HeavyRoutes$Finder", "found", "[LHeavyRoutes$Way;", true)
  | 2 => ("HeavyRoutes$Finder", "noWay", "LHeavyRoutes$Way;", true)
  | 3 => ("HeavyRoutes$Finder", "trial", "LHeavyRoutes$Way;", true)
  | 4 => ("HeavyRoutes$Finder", "best", "LHeavyRoutes$Way;", true)
  | 5 => ("HeavyRoutes$Finder", "foundCount", "I", false)
  | 6 => ("HeavyRoutes$Finder", "hasBegun", "Z", false)
  | 7 => ("HeavyRoutes$Finder", "from", "I", false)
  | 8 => ("HeavyRoutes$Finder", "to", "I", false)
  | 9 => ("HeavyRoutes$Finder", "minute", "I", false)
  | 10 => ("HeavyRoutes$Finder", "mostShared", "I", false)
  | 11 => ("HeavyRoutes$Finder", "usable", "I", false)
  | 12 => ("HeavyRoutes$Finder", "visited", "I", false)
  | 13 => ("HeavyRoutes$Finder", "wayCount", "I", false)
  | _ => ("HeavyRoutes$Finder", "hasBest", "Z", false)
def tyX1 : Nat → FieldType := fun k => match k with
  | 0 => .object "HeavyRoutes$Net"
  | 1 => .array (.object "HeavyRoutes$Way")
  | 2 => .object "HeavyRoutes$Way"
  | 3 => .object "HeavyRoutes$Way"
  | 4 => .object "HeavyRoutes$Way"
  | 5 => .int
  | 6 => .boolean
  | 7 => .int
  | 8 => .int
  | 9 => .int
  | 10 => .int
  | 11 => .int
  | 12 => .int
  | 13 => .int
  | _ => .boolean
abbrev wsX10 : List Cond := u_ws RX1 TX1 15
theorem nmX1 : ∀ a, a < 15 → ∀ b, b < 15 → a ≠ b → (TX1 a).2.1 ≠ (TX1 b).2.1 := by decide +kernel
theorem tyX1_ok : ∀ k, k < 15 → parseFieldDescriptor (TX1 k).2.2.1 = some (tyX1 k) := by decide +kernel
abbrev cX1_init : ByteArray := prog_3_method_1_code
def yX1_init : MethodName := ⟨RX1, "<init>", "(LHeavyRoutes$Net;)V"⟩
abbrev cX1_forget : ByteArray := prog_3_method_2_code
def yX1_forget : MethodName := ⟨RX1, "forget", "()V"⟩
abbrev cX1_atHand : ByteArray := prog_3_method_3_code
def yX1_atHand : MethodName := ⟨RX1, "atHand", "()LHeavyRoutes$Way;"⟩
abbrev cX1_begin : ByteArray := prog_3_method_4_code
def yX1_begin : MethodName := ⟨RX1, "begin", "(III)V"⟩
abbrev cX1_limitSharing : ByteArray := prog_3_method_5_code
def yX1_limitSharing : MethodName := ⟨RX1, "limitSharing", "(JJ)V"⟩
abbrev cX1_keepBest : ByteArray := prog_3_method_6_code
def yX1_keepBest : MethodName := ⟨RX1, "keepBest", "()I"⟩
abbrev cX1_lookThrough : ByteArray := prog_3_method_7_code
def yX1_lookThrough : MethodName := ⟨RX1, "lookThrough", "()V"⟩
abbrev cX1_goOn : ByteArray := prog_3_method_8_code
def yX1_goOn : MethodName := ⟨RX1, "goOn", "(III)V"⟩
abbrev cX1_canTake : ByteArray := prog_3_method_9_code
def yX1_canTake : MethodName := ⟨RX1, "canTake", "(III)Z"⟩
abbrev cX1_take : ByteArray := prog_3_method_10_code
def yX1_take : MethodName := ⟨RX1, "take", "(IIII)V"⟩
abbrev cX1_consider : ByteArray := prog_3_method_11_code
def yX1_consider : MethodName := ⟨RX1, "consider", "(II)V"⟩
abbrev cX1_isAllowed : ByteArray := prog_3_method_12_code
def yX1_isAllowed : MethodName := ⟨RX1, "isAllowed", "()Z"⟩
def RX2 : String := "HeavyRoutes$Journey"
def TX2 : u_T := fun k => match k with
  | 0 => ("HeavyRoutes$Journey", "height", "I", false)
  | 1 => ("HeavyRoutes$Journey", "width", "I", false)
  | 2 => ("HeavyRoutes$Journey", "axleCount", "I", false)
  | 3 => ("HeavyRoutes$Journey", "offsets", "[J", true)
  | _ => ("HeavyRoutes$Journey", "loads", "[J", true)
def tyX2 : Nat → FieldType := fun k => match k with
  | 0 => .int
  | 1 => .int
  | 2 => .int
  | 3 => .array .long
  | _ => .array .long
abbrev wsX20 : List Cond := u_ws RX2 TX2 5
theorem nmX2 : ∀ a, a < 5 → ∀ b, b < 5 → a ≠ b → (TX2 a).2.1 ≠ (TX2 b).2.1 := by decide +kernel
theorem tyX2_ok : ∀ k, k < 5 → parseFieldDescriptor (TX2 k).2.2.1 = some (tyX2 k) := by decide +kernel
abbrev cX2_init : ByteArray := prog_4_method_1_code
def yX2_init : MethodName := ⟨RX2, "<init>", "()V"⟩
abbrev cX2_canTakeAxle : ByteArray := prog_4_method_2_code
def yX2_canTakeAxle : MethodName := ⟨RX2, "canTakeAxle", "(J)Z"⟩
abbrev cX2_addAxle : ByteArray := prog_4_method_3_code
def yX2_addAxle : MethodName := ⟨RX2, "addAxle", "(JJ)V"⟩
def RX3 : String := "HeavyRoutes$Net"
def TX3 : u_T := fun k => match k with
  | 0 => ("HeavyRoutes$Net", "nodeCount", "I", false)
  | 1 => ("HeavyRoutes$Net", "roadCount", "I", false)
  | 2 => ("HeavyRoutes$Net", "bridgeCount", "I", false)
  | 3 => ("HeavyRoutes$Net", "roads", "[LHeavyRoutes$Road;", true)
  | 4 => ("HeavyRoutes$Net", "bridges", "[LHeavyRoutes$Bridge;", true)
  | 5 => ("HeavyRoutes$Net", "journey", "LHeavyRoutes$Journey;", true)
  | _ => ("HeavyRoutes$Net", "rater", "LHeavyRoutes$Rater;", true)
def tyX3 : Nat → FieldType := fun k => match k with
  | 0 => .int
  | 1 => .int
  | 2 => .int
  | 3 => .array (.object "HeavyRoutes$Road")
  | 4 => .array (.object "HeavyRoutes$Bridge")
  | 5 => .object "HeavyRoutes$Journey"
  | _ => .object "HeavyRoutes$Rater"
abbrev wsX30 : List Cond := u_ws RX3 TX3 7
theorem nmX3 : ∀ a, a < 7 → ∀ b, b < 7 → a ≠ b → (TX3 a).2.1 ≠ (TX3 b).2.1 := by decide +kernel
theorem tyX3_ok : ∀ k, k < 7 → parseFieldDescriptor (TX3 k).2.2.1 = some (tyX3 k) := by decide +kernel
abbrev cX3_init : ByteArray := prog_5_method_1_code
def yX3_init : MethodName := ⟨RX3, "<init>", "()V"⟩
abbrev cX3_hasNode : ByteArray := prog_5_method_2_code
def yX3_hasNode : MethodName := ⟨RX3, "hasNode", "(I)Z"⟩
abbrev cX3_hasRoad : ByteArray := prog_5_method_3_code
def yX3_hasRoad : MethodName := ⟨RX3, "hasRoad", "(I)Z"⟩
abbrev cX3_hasBridge : ByteArray := prog_5_method_4_code
def yX3_hasBridge : MethodName := ⟨RX3, "hasBridge", "(I)Z"⟩
abbrev cX3_rateBridge : ByteArray := prog_5_method_5_code
def yX3_rateBridge : MethodName := ⟨RX3, "rateBridge", "(I)V"⟩
abbrev cX3_rateAllBridges : ByteArray := prog_5_method_6_code
def yX3_rateAllBridges : MethodName := ⟨RX3, "rateAllBridges", "()V"⟩
abbrev cX3_isKeptRatingTrue : ByteArray := prog_5_method_7_code
def yX3_isKeptRatingTrue : MethodName := ⟨RX3, "isKeptRatingTrue", "(I)Z"⟩
abbrev cX3_whyNotBearing : ByteArray := prog_5_method_8_code
def yX3_whyNotBearing : MethodName := ⟨RX3, "whyNotBearing", "(I)I"⟩
abbrev cX3_wantsEscort : ByteArray := prog_5_method_9_code
def yX3_wantsEscort : MethodName := ⟨RX3, "wantsEscort", "(I)Z"⟩
abbrev cX3_endOfRoad : ByteArray := prog_5_method_10_code
def yX3_endOfRoad : MethodName := ⟨RX3, "endOfRoad", "(II)I"⟩
abbrev cX3_endOfDrive : ByteArray := prog_5_method_11_code
def yX3_endOfDrive : MethodName := ⟨RX3, "endOfDrive", "(LHeavyRoutes$Way;I)I"⟩
abbrev cX3_usableRoads : ByteArray := prog_5_method_12_code
def yX3_usableRoads : MethodName := ⟨RX3, "usableRoads", "()I"⟩
abbrev cX3_bridgesOn : ByteArray := prog_5_method_13_code
def yX3_bridgesOn : MethodName := ⟨RX3, "bridgesOn", "(LHeavyRoutes$Way;)I"⟩
def RX4 : String := "HeavyRoutes$Rater"
def TX4 : u_T := fun k => match k with
  | 0 => ("HeavyRoutes$Rater", "raising", "LHeavyRoutes$Wide;", true)
  | 1 => ("HeavyRoutes$Rater", "lowering", "LHeavyRoutes$Wide;", true)
  | 2 => ("HeavyRoutes$Rater", "anew", "LHeavyRoutes$Rating;", true)
  | 3 => ("HeavyRoutes$Rater", "shares", "[J", true)
  | 4 => ("HeavyRoutes$Rater", "valueFactors", "[J", true)
  | 5 => ("HeavyRoutes$Rater", "gapFactors", "[J", true)
  | 6 => ("HeavyRoutes$Rater", "valueScale", "J", false)
  | _ => ("HeavyRoutes$Rater", "gapScale", "J", false)
def tyX4 : Nat → FieldType := fun k => match k with
  | 0 => .object "HeavyRoutes$Wide"
  | 1 => .object "HeavyRoutes$Wide"
  | 2 => .object "HeavyRoutes$Rating"
  | 3 => .array .long
  | 4 => .array .long
  | 5 => .array .long
  | 6 => .long
  | _ => .long
abbrev wsX40 : List Cond := u_ws RX4 TX4 8
theorem nmX4 : ∀ a, a < 8 → ∀ b, b < 8 → a ≠ b → (TX4 a).2.1 ≠ (TX4 b).2.1 := by decide +kernel
theorem tyX4_ok : ∀ k, k < 8 → parseFieldDescriptor (TX4 k).2.2.1 = some (tyX4 k) := by decide +kernel
abbrev cX4_init : ByteArray := prog_6_method_1_code
def yX4_init : MethodName := ⟨RX4, "<init>", "()V"⟩
abbrev cX4_rate : ByteArray := prog_6_method_2_code
def yX4_rate : MethodName := ⟨RX4, "rate", "(LHeavyRoutes$Bridge;LHeavyRoutes$Journey;LHeavyRoutes$Rating;)V"⟩
abbrev cX4_findScales : ByteArray := prog_6_method_3_code
def yX4_findScales : MethodName := ⟨RX4, "findScales", "(LHeavyRoutes$Bridge;)V"⟩
abbrev cX4_takeGreater : ByteArray := prog_6_method_4_code
def yX4_takeGreater : MethodName := ⟨RX4, "takeGreater", "(LHeavyRoutes$Bridge;LHeavyRoutes$Journey;JILHeavyRoutes$Wide;)V"⟩
abbrev cX4_shareOut : ByteArray := prog_6_method_5_code
def yX4_shareOut : MethodName := ⟨RX4, "shareOut", "(LHeavyRoutes$Bridge;JJ)V"⟩
abbrev cX4_reduce : ByteArray := prog_6_method_6_code
def yX4_reduce : MethodName := ⟨RX4, "reduce", "(LHeavyRoutes$Rating;[JI)V"⟩
abbrev cX4_isStillRight : ByteArray := prog_6_method_7_code
def yX4_isStillRight : MethodName := ⟨RX4, "isStillRight", "(LHeavyRoutes$Bridge;LHeavyRoutes$Journey;)Z"⟩
abbrev cX4_isAbove : ByteArray := prog_6_method_8_code
def yX4_isAbove : MethodName := ⟨RX4, "isAbove", "(LHeavyRoutes$Rating;JJ)Z"⟩
abbrev cX4_commonDivisor : ByteArray := prog_6_method_9_code
def yX4_commonDivisor : MethodName := ⟨RX4, "commonDivisor", "(JJ)J"⟩
abbrev cX4_quotient : ByteArray := prog_6_method_10_code
def yX4_quotient : MethodName := ⟨RX4, "quotient", "(JJ)J"⟩
def RX5 : String := "HeavyRoutes$Rating"
def TX5 : u_T := fun k => match k with
  | 0 => ("HeavyRoutes$Rating", "upper", "LHeavyRoutes$Wide;", true)
  | _ => ("HeavyRoutes$Rating", "lower", "LHeavyRoutes$Wide;", true)
def tyX5 : Nat → FieldType := fun k => match k with
  | 0 => .object "HeavyRoutes$Wide"
  | _ => .object "HeavyRoutes$Wide"
abbrev wsX50 : List Cond := u_ws RX5 TX5 2
theorem nmX5 : ∀ a, a < 2 → ∀ b, b < 2 → a ≠ b → (TX5 a).2.1 ≠ (TX5 b).2.1 := by decide +kernel
theorem tyX5_ok : ∀ k, k < 2 → parseFieldDescriptor (TX5 k).2.2.1 = some (tyX5 k) := by decide +kernel
abbrev cX5_init : ByteArray := prog_7_method_1_code
def yX5_init : MethodName := ⟨RX5, "<init>", "()V"⟩
abbrev cX5_isSameAs : ByteArray := prog_7_method_2_code
def yX5_isSameAs : MethodName := ⟨RX5, "isSameAs", "(LHeavyRoutes$Rating;)Z"⟩
def RX6 : String := "HeavyRoutes$Road"
def TX6 : u_T := fun k => match k with
  | 0 => ("HeavyRoutes$Road", "endA", "I", false)
  | 1 => ("HeavyRoutes$Road", "endB", "I", false)
  | 2 => ("HeavyRoutes$Road", "minutes", "I", false)
  | 3 => ("HeavyRoutes$Road", "height", "I", false)
  | 4 => ("HeavyRoutes$Road", "width", "I", false)
  | 5 => ("HeavyRoutes$Road", "open", "Z", false)
  | 6 => ("HeavyRoutes$Road", "bridge", "I", false)
  | 7 => ("HeavyRoutes$Road", "blockedTurns", "I", false)
  | 8 => ("HeavyRoutes$Road", "barCount", "I", false)
  | 9 => ("HeavyRoutes$Road", "barFrom", "[I", true)
  | _ => ("HeavyRoutes$Road", "barTo", "[I", true)
def tyX6 : Nat → FieldType := fun k => match k with
  | 0 => .int
  | 1 => .int
  | 2 => .int
  | 3 => .int
  | 4 => .int
  | 5 => .boolean
  | 6 => .int
  | 7 => .int
  | 8 => .int
  | 9 => .array .int
  | _ => .array .int
abbrev wsX60 : List Cond := u_ws RX6 TX6 11
theorem nmX6 : ∀ a, a < 11 → ∀ b, b < 11 → a ≠ b → (TX6 a).2.1 ≠ (TX6 b).2.1 := by decide +kernel
theorem tyX6_ok : ∀ k, k < 11 → parseFieldDescriptor (TX6 k).2.2.1 = some (tyX6 k) := by decide +kernel
abbrev cX6_init : ByteArray := prog_8_method_1_code
def yX6_init : MethodName := ⟨RX6, "<init>", "()V"⟩
abbrev cX6_lay : ByteArray := prog_8_method_2_code
def yX6_lay : MethodName := ⟨RX6, "lay", "(IIIII)V"⟩
abbrev cX6_nodeAcross : ByteArray := prog_8_method_3_code
def yX6_nodeAcross : MethodName := ⟨RX6, "nodeAcross", "(I)I"⟩
abbrev cX6_meets : ByteArray := prog_8_method_4_code
def yX6_meets : MethodName := ⟨RX6, "meets", "(LHeavyRoutes$Road;)Z"⟩
abbrev cX6_setTurn : ByteArray := prog_8_method_5_code
def yX6_setTurn : MethodName := ⟨RX6, "setTurn", "(IZ)V"⟩
abbrev cX6_isTurnBlocked : ByteArray := prog_8_method_6_code
def yX6_isTurnBlocked : MethodName := ⟨RX6, "isTurnBlocked", "(I)Z"⟩
abbrev cX6_addBar : ByteArray := prog_8_method_7_code
def yX6_addBar : MethodName := ⟨RX6, "addBar", "(II)V"⟩
abbrev cX6_earliestStart : ByteArray := prog_8_method_8_code
def yX6_earliestStart : MethodName := ⟨RX6, "earliestStart", "(I)I"⟩
abbrev cX6_waitAt : ByteArray := prog_8_method_9_code
def yX6_waitAt : MethodName := ⟨RX6, "waitAt", "(I)I"⟩
def RX7 : String := "HeavyRoutes$Way"
def TX7 : u_T := fun k => match k with
  | 0 => ("HeavyRoutes$Way", "roads", "[I", true)
  | 1 => ("HeavyRoutes$Way", "starts", "[I", true)
  | 2 => ("HeavyRoutes$Way", "length", "I", false)
  | 3 => ("HeavyRoutes$Way", "end", "I", false)
  | 4 => ("HeavyRoutes$Way", "bridges", "I", false)
  | _ => ("HeavyRoutes$Way", "roadSet", "I", false)
def tyX7 : Nat → FieldType := fun k => match k with
  | 0 => .array .int
  | 1 => .array .int
  | 2 => .int
  | 3 => .int
  | 4 => .int
  | _ => .int
abbrev wsX70 : List Cond := u_ws RX7 TX7 6
theorem nmX7 : ∀ a, a < 6 → ∀ b, b < 6 → a ≠ b → (TX7 a).2.1 ≠ (TX7 b).2.1 := by decide +kernel
theorem tyX7_ok : ∀ k, k < 6 → parseFieldDescriptor (TX7 k).2.2.1 = some (tyX7 k) := by decide +kernel
abbrev cX7_init : ByteArray := prog_9_method_1_code
def yX7_init : MethodName := ⟨RX7, "<init>", "()V"⟩
abbrev cX7_hasPlace : ByteArray := prog_9_method_2_code
def yX7_hasPlace : MethodName := ⟨RX7, "hasPlace", "(I)Z"⟩
abbrev cX7_copyFrom : ByteArray := prog_9_method_3_code
def yX7_copyFrom : MethodName := ⟨RX7, "copyFrom", "(LHeavyRoutes$Way;)V"⟩
abbrev cX7_isBetterThan : ByteArray := prog_9_method_4_code
def yX7_isBetterThan : MethodName := ⟨RX7, "isBetterThan", "(LHeavyRoutes$Way;)Z"⟩
abbrev cX7_collectRoads : ByteArray := prog_9_method_5_code
def yX7_collectRoads : MethodName := ⟨RX7, "collectRoads", "()V"⟩
def RX8 : String := "HeavyRoutes$Wide"
def TX8 : u_T := fun k => match k with
  | _ => ("HeavyRoutes$Wide", "limbs", "[J", true)
def tyX8 : Nat → FieldType := fun k => match k with
  | _ => .array .long
abbrev wsX80 : List Cond := u_ws RX8 TX8 1
theorem nmX8 : ∀ a, a < 1 → ∀ b, b < 1 → a ≠ b → (TX8 a).2.1 ≠ (TX8 b).2.1 := by decide +kernel
theorem tyX8_ok : ∀ k, k < 1 → parseFieldDescriptor (TX8 k).2.2.1 = some (tyX8 k) := by decide +kernel
abbrev cX8_init : ByteArray := prog_10_method_1_code
def yX8_init : MethodName := ⟨RX8, "<init>", "()V"⟩
abbrev cX8_setTo : ByteArray := prog_10_method_2_code
def yX8_setTo : MethodName := ⟨RX8, "setTo", "(J)V"⟩
abbrev cX8_copyFrom : ByteArray := prog_10_method_3_code
def yX8_copyFrom : MethodName := ⟨RX8, "copyFrom", "(LHeavyRoutes$Wide;)V"⟩
abbrev cX8_compareWith : ByteArray := prog_10_method_4_code
def yX8_compareWith : MethodName := ⟨RX8, "compareWith", "(LHeavyRoutes$Wide;)I"⟩
abbrev cX8_addProduct : ByteArray := prog_10_method_5_code
def yX8_addProduct : MethodName := ⟨RX8, "addProduct", "(JJ)V"⟩
abbrev cX8_addShifted : ByteArray := prog_10_method_6_code
def yX8_addShifted : MethodName := ⟨RX8, "addShifted", "(JJI)V"⟩
abbrev cX8_subtract : ByteArray := prog_10_method_7_code
def yX8_subtract : MethodName := ⟨RX8, "subtract", "(LHeavyRoutes$Wide;)V"⟩
abbrev cX8_multiply : ByteArray := prog_10_method_8_code
def yX8_multiply : MethodName := ⟨RX8, "multiply", "(J)V"⟩
abbrev cX8_divide : ByteArray := prog_10_method_9_code
def yX8_divide : MethodName := ⟨RX8, "divide", "(J)V"⟩
abbrev cX8_remainder : ByteArray := prog_10_method_10_code
def yX8_remainder : MethodName := ⟨RX8, "remainder", "(J)J"⟩
abbrev cX8_lowestEighteenDigits : ByteArray := prog_10_method_11_code
def yX8_lowestEighteenDigits : MethodName := ⟨RX8, "lowestEighteenDigits", "()J"⟩
def RX9 : String := "HeavyRoutes"
def TX9 : u_T := fun k => match k with
  | 0 => ("HeavyRoutes", "net", "LHeavyRoutes$Net;", true)
  | 1 => ("HeavyRoutes", "finder", "LHeavyRoutes$Finder;", true)
  | 2 => ("HeavyRoutes", "records", "[I", true)
  | _ => ("HeavyRoutes", "recordCount", "I", false)
def tyX9 : Nat → FieldType := fun k => match k with
  | 0 => .object "HeavyRoutes$Net"
  | 1 => .object "HeavyRoutes$Finder"
  | 2 => .array .int
  | _ => .int
abbrev wsX90 : List Cond := u_ws RX9 TX9 4
theorem nmX9 : ∀ a, a < 4 → ∀ b, b < 4 → a ≠ b → (TX9 a).2.1 ≠ (TX9 b).2.1 := by decide +kernel
theorem tyX9_ok : ∀ k, k < 4 → parseFieldDescriptor (TX9 k).2.2.1 = some (tyX9 k) := by decide +kernel
abbrev cX9_init : ByteArray := prog_1_method_1_code
def yX9_init : MethodName := ⟨RX9, "<init>", "()V"⟩
abbrev cX9_node : ByteArray := prog_1_method_2_code
def yX9_node : MethodName := ⟨RX9, "node", "()I"⟩
abbrev cX9_road : ByteArray := prog_1_method_3_code
def yX9_road : MethodName := ⟨RX9, "road", "(IIIII)I"⟩
abbrev cX9_bridge : ByteArray := prog_1_method_4_code
def yX9_bridge : MethodName := ⟨RX9, "bridge", "(I)I"⟩
abbrev cX9_row : ByteArray := prog_1_method_5_code
def yX9_row : MethodName := ⟨RX9, "row", "(IJJJ)Z"⟩
abbrev cX9_axle : ByteArray := prog_1_method_6_code
def yX9_axle : MethodName := ⟨RX9, "axle", "(JJ)Z"⟩
abbrev cX9_size : ByteArray := prog_1_method_7_code
def yX9_size : MethodName := ⟨RX9, "size", "(III)Z"⟩
abbrev cX9_turn : ByteArray := prog_1_method_8_code
def yX9_turn : MethodName := ⟨RX9, "turn", "(IIZ)Z"⟩
abbrev cX9_hours : ByteArray := prog_1_method_9_code
def yX9_hours : MethodName := ⟨RX9, "hours", "(III)Z"⟩
abbrev cX9_rating : ByteArray := prog_1_method_10_code
def yX9_rating : MethodName := ⟨RX9, "rating", "(II)J"⟩
abbrev cX9_kept : ByteArray := prog_1_method_11_code
def yX9_kept : MethodName := ⟨RX9, "kept", "(I)Z"⟩
abbrev cX9_run : ByteArray := prog_1_method_12_code
def yX9_run : MethodName := ⟨RX9, "run", "(III)I"⟩
abbrev cX9_road2 : ByteArray := prog_1_method_13_code
def yX9_road2 : MethodName := ⟨RX9, "road2", "(I)I"⟩
abbrev cX9_begun : ByteArray := prog_1_method_14_code
def yX9_begun : MethodName := ⟨RX9, "begun", "(I)I"⟩
abbrev cX9_bars : ByteArray := prog_1_method_15_code
def yX9_bars : MethodName := ⟨RX9, "bars", "(II)I"⟩
abbrev cX9_alternate : ByteArray := prog_1_method_16_code
def yX9_alternate : MethodName := ⟨RX9, "alternate", "(JJ)I"⟩
abbrev cX9_slow : ByteArray := prog_1_method_17_code
def yX9_slow : MethodName := ⟨RX9, "slow", "(IZ)I"⟩
abbrev cX9_convoy : ByteArray := prog_1_method_18_code
def yX9_convoy : MethodName := ⟨RX9, "convoy", "(II)I"⟩
abbrev cX9_escort : ByteArray := prog_1_method_19_code
def yX9_escort : MethodName := ⟨RX9, "escort", "(I)I"⟩
abbrev cX9_notice : ByteArray := prog_1_method_20_code
def yX9_notice : MethodName := ⟨RX9, "notice", "(I)I"⟩
abbrev cX9_record : ByteArray := prog_1_method_21_code
def yX9_record : MethodName := ⟨RX9, "record", "(I)I"⟩
abbrev cX9_change : ByteArray := prog_1_method_22_code
def yX9_change : MethodName := ⟨RX9, "change", "(IZ)I"⟩
abbrev cX9_count : ByteArray := prog_1_method_23_code
def yX9_count : MethodName := ⟨RX9, "count", "(I)I"⟩
abbrev cX9_isWithin : ByteArray := prog_1_method_24_code
def yX9_isWithin : MethodName := ⟨RX9, "isWithin", "(JJJ)Z"⟩
abbrev cX9_isSize : ByteArray := prog_1_method_25_code
def yX9_isSize : MethodName := ⟨RX9, "isSize", "(I)Z"⟩
def RX10 : String := "HeavyRoutesModel"
def TX10 : u_T := fun k => match k with
  | 0 => ("HeavyRoutesModel", "nodes", "I", false)
  | 1 => ("HeavyRoutesModel", "roads", "I", false)
  | 2 => ("HeavyRoutesModel", "as", "[I", true)
  | 3 => ("HeavyRoutesModel", "bs", "[I", true)
  | 4 => ("HeavyRoutesModel", "minutes", "[I", true)
  | 5 => ("HeavyRoutesModel", "heights", "[I", true)
  | 6 => ("HeavyRoutesModel", "widths", "[I", true)
  | 7 => ("HeavyRoutesModel", "open", "[Z", true)
  | 8 => ("HeavyRoutesModel", "bridgeOf", "[I", true)
  | 9 => ("HeavyRoutesModel", "hourCounts", "[I", true)
  | 10 => ("HeavyRoutesModel", "hourFroms", "[I", true)
  | 11 => ("HeavyRoutesModel", "hourTos", "[I", true)
  | 12 => ("HeavyRoutesModel", "noTurn", "[Z", true)
  | 13 => ("HeavyRoutesModel", "bridges", "I", false)
  | 14 => ("HeavyRoutesModel", "isSlow", "[Z", true)
  | 15 => ("HeavyRoutesModel", "cornerCounts", "[I", true)
  | 16 => ("HeavyRoutesModel", "places", "[I", true)
  | 17 => ("HeavyRoutesModel", "aboves", "[I", true)
  | 18 => ("HeavyRoutesModel", "belows", "[I", true)
  | 19 => ("HeavyRoutesModel", "axles", "I", false)
  | 20 => ("HeavyRoutesModel", "offsets", "[I", true)
  | 21 => ("HeavyRoutesModel", "loads", "[I", true)
  | 22 => ("HeavyRoutesModel", "height", "I", false)
  | 23 => ("HeavyRoutesModel", "width", "I", false)
  | 24 => ("HeavyRoutesModel", "isRun", "Z", false)
  | 25 => ("HeavyRoutesModel", "runFrom", "I", false)
  | 26 => ("HeavyRoutesModel", "runTo", "I", false)
  | 27 => ("HeavyRoutesModel", "runMinute", "I", false)
  | 28 => ("HeavyRoutesModel", "found", "I", false)
  | 29 => ("HeavyRoutesModel", "foundRoads", "[I", true)
  | 30 => ("HeavyRoutesModel", "foundSizes", "[I", true)
  | 31 => ("HeavyRoutesModel", "records", "I", false)
  | 32 => ("HeavyRoutesModel", "recorded", "[I", true)
  | 33 => ("HeavyRoutesModel", "way", "[I", true)
  | 34 => ("HeavyRoutesModel", "size", "I", false)
  | 35 => ("HeavyRoutesModel", "seen", "[Z", true)
  | 36 => ("HeavyRoutesModel", "best", "[I", true)
  | 37 => ("HeavyRoutesModel", "bestSize", "I", false)
  | 38 => ("HeavyRoutesModel", "bestEnd", "I", false)
  | 39 => ("HeavyRoutesModel", "limit", "I", false)
  | 40 => ("HeavyRoutesModel", "ways", "I", false)
  | 41 => ("HeavyRoutesModel", "topHigh", "J", false)
  | 42 => ("HeavyRoutesModel", "topLow", "J", false)
  | 43 => ("HeavyRoutesModel", "underHigh", "J", false)
  | 44 => ("HeavyRoutesModel", "underLow", "J", false)
  | 45 => ("HeavyRoutesModel", "sumHigh", "J", false)
  | 46 => ("HeavyRoutesModel", "sumLow", "J", false)
  | 47 => ("HeavyRoutesModel", "leastBelow", "J", false)
  | 48 => ("HeavyRoutesModel", "leastStep", "J", false)
  | 49 => ("HeavyRoutesModel", "high", "J", false)
  | 50 => ("HeavyRoutesModel", "low", "J", false)
  | 51 => ("HeavyRoutesModel", "bears", "[Z", true)
  | 52 => ("HeavyRoutesModel", "ats", "[I", true)
  | _ => ("HeavyRoutesModel", "tried", "[I", true)
def tyX10 : Nat → FieldType := fun k => match k with
  | 0 => .int
  | 1 => .int
  | 2 => .array .int
  | 3 => .array .int
  | 4 => .array .int
  | 5 => .array .int
  | 6 => .array .int
  | 7 => .array .boolean
  | 8 => .array .int
  | 9 => .array .int
  | 10 => .array .int
  | 11 => .array .int
  | 12 => .array .boolean
  | 13 => .int
  | 14 => .array .boolean
  | 15 => .array .int
  | 16 => .array .int
  | 17 => .array .int
  | 18 => .array .int
  | 19 => .int
  | 20 => .array .int
  | 21 => .array .int
  | 22 => .int
  | 23 => .int
  | 24 => .boolean
  | 25 => .int
  | 26 => .int
  | 27 => .int
  | 28 => .int
  | 29 => .array .int
  | 30 => .array .int
  | 31 => .int
  | 32 => .array .int
  | 33 => .array .int
  | 34 => .int
  | 35 => .array .boolean
  | 36 => .array .int
  | 37 => .int
  | 38 => .int
  | 39 => .int
  | 40 => .int
  | 41 => .long
  | 42 => .long
  | 43 => .long
  | 44 => .long
  | 45 => .long
  | 46 => .long
  | 47 => .long
  | 48 => .long
  | 49 => .long
  | 50 => .long
  | 51 => .array .boolean
  | 52 => .array .int
  | _ => .array .int
abbrev wsX100 : List Cond := u_ws RX10 TX10 54
theorem nmX10 : ∀ a, a < 54 → ∀ b, b < 54 → a ≠ b → (TX10 a).2.1 ≠ (TX10 b).2.1 := by decide +kernel
theorem tyX10_ok : ∀ k, k < 54 → parseFieldDescriptor (TX10 k).2.2.1 = some (tyX10 k) := by decide +kernel
abbrev cX10_init : ByteArray := prog_12_method_1_code
def yX10_init : MethodName := ⟨RX10, "<init>", "()V"⟩
abbrev cX10_in : ByteArray := prog_12_method_3_code
def yX10_in : MethodName := ⟨RX10, "in", "(JJJ)Z"⟩
abbrev cX10_isRoad : ByteArray := prog_12_method_4_code
def yX10_isRoad : MethodName := ⟨RX10, "isRoad", "(I)Z"⟩
abbrev cX10_isBridge : ByteArray := prog_12_method_5_code
def yX10_isBridge : MethodName := ⟨RX10, "isBridge", "(I)Z"⟩
abbrev cX10_forget : ByteArray := prog_12_method_6_code
def yX10_forget : MethodName := ⟨RX10, "forget", "()V"⟩
abbrev cX10_node : ByteArray := prog_12_method_7_code
def yX10_node : MethodName := ⟨RX10, "node", "()I"⟩
abbrev cX10_road : ByteArray := prog_12_method_8_code
def yX10_road : MethodName := ⟨RX10, "road", "(IIIII)I"⟩
abbrev cX10_bridge : ByteArray := prog_12_method_9_code
def yX10_bridge : MethodName := ⟨RX10, "bridge", "(I)I"⟩
abbrev cX10_row : ByteArray := prog_12_method_10_code
def yX10_row : MethodName := ⟨RX10, "row", "(IJJJ)Z"⟩
abbrev cX10_axle : ByteArray := prog_12_method_11_code
def yX10_axle : MethodName := ⟨RX10, "axle", "(JJ)Z"⟩
abbrev cX10_size : ByteArray := prog_12_method_12_code
def yX10_size : MethodName := ⟨RX10, "size", "(III)Z"⟩
abbrev cX10_turn : ByteArray := prog_12_method_13_code
def yX10_turn : MethodName := ⟨RX10, "turn", "(IIZ)Z"⟩
abbrev cX10_hours : ByteArray := prog_12_method_14_code
def yX10_hours : MethodName := ⟨RX10, "hours", "(III)Z"⟩
abbrev cX10_slow : ByteArray := prog_12_method_15_code
def yX10_slow : MethodName := ⟨RX10, "slow", "(IZ)I"⟩
abbrev cX10_change : ByteArray := prog_12_method_16_code
def yX10_change : MethodName := ⟨RX10, "change", "(IZ)I"⟩
abbrev cX10_common : ByteArray := prog_12_method_17_code
def yX10_common : MethodName := ⟨RX10, "common", "(JJ)J"⟩
abbrev cX10_product : ByteArray := prog_12_method_18_code
def yX10_product : MethodName := ⟨RX10, "product", "(JJ)V"⟩
abbrev cX10_add : ByteArray := prog_12_method_19_code
def yX10_add : MethodName := ⟨RX10, "add", "(JJ)V"⟩
abbrev cX10_addAt : ByteArray := prog_12_method_20_code
def yX10_addAt : MethodName := ⟨RX10, "addAt", "(III)V"⟩
abbrev cX10_effect : ByteArray := prog_12_method_21_code
def yX10_effect : MethodName := ⟨RX10, "effect", "(III)V"⟩
abbrev cX10_rate : ByteArray := prog_12_method_22_code
def yX10_rate : MethodName := ⟨RX10, "rate", "(I)V"⟩
abbrev cX10_isAbove : ByteArray := prog_12_method_23_code
def yX10_isAbove : MethodName := ⟨RX10, "isAbove", "(II)Z"⟩
abbrev cX10_restOf : ByteArray := prog_12_method_24_code
def yX10_restOf : MethodName := ⟨RX10, "restOf", "(JJJ)J"⟩
abbrev cX10_divide : ByteArray := prog_12_method_25_code
def yX10_divide : MethodName := ⟨RX10, "divide", "(JJJ)V"⟩
abbrev cX10_rating : ByteArray := prog_12_method_26_code
def yX10_rating : MethodName := ⟨RX10, "rating", "(II)J"⟩
abbrev cX10_kept : ByteArray := prog_12_method_27_code
def yX10_kept : MethodName := ⟨RX10, "kept", "(I)Z"⟩
abbrev cX10_why : ByteArray := prog_12_method_28_code
def yX10_why : MethodName := ⟨RX10, "why", "(I)I"⟩
abbrev cX10_isBarred : ByteArray := prog_12_method_29_code
def yX10_isBarred : MethodName := ⟨RX10, "isBarred", "(II)Z"⟩
abbrev cX10_earliest : ByteArray := prog_12_method_30_code
def yX10_earliest : MethodName := ⟨RX10, "earliest", "(II)I"⟩
abbrev cX10_takes : ByteArray := prog_12_method_31_code
def yX10_takes : MethodName := ⟨RX10, "takes", "(I)I"⟩
abbrev cX10_findBearing : ByteArray := prog_12_method_32_code
def yX10_findBearing : MethodName := ⟨RX10, "findBearing", "()V"⟩
abbrev cX10_endOf : ByteArray := prog_12_method_33_code
def yX10_endOf : MethodName := ⟨RX10, "endOf", "([IIII)I"⟩
abbrev cX10_bridgesOf : ByteArray := prog_12_method_34_code
def yX10_bridgesOf : MethodName := ⟨RX10, "bridgesOf", "([II)I"⟩
abbrev cX10_isBetter : ByteArray := prog_12_method_35_code
def yX10_isBetter : MethodName := ⟨RX10, "isBetter", "(I)Z"⟩
abbrev cX10_mayBe : ByteArray := prog_12_method_36_code
def yX10_mayBe : MethodName := ⟨RX10, "mayBe", "()Z"⟩
abbrev cX10_judge : ByteArray := prog_12_method_37_code
def yX10_judge : MethodName := ⟨RX10, "judge", "()V"⟩
abbrev cX10_otherEnd : ByteArray := prog_12_method_38_code
def yX10_otherEnd : MethodName := ⟨RX10, "otherEnd", "(II)I"⟩
abbrev cX10_mayGo : ByteArray := prog_12_method_39_code
def yX10_mayGo : MethodName := ⟨RX10, "mayGo", "(II)Z"⟩
abbrev cX10_goThrough : ByteArray := prog_12_method_40_code
def yX10_goThrough : MethodName := ⟨RX10, "goThrough", "()V"⟩
abbrev cX10_search : ByteArray := prog_12_method_41_code
def yX10_search : MethodName := ⟨RX10, "search", "(I)V"⟩
abbrev cX10_keep : ByteArray := prog_12_method_42_code
def yX10_keep : MethodName := ⟨RX10, "keep", "()V"⟩
abbrev cX10_run : ByteArray := prog_12_method_43_code
def yX10_run : MethodName := ⟨RX10, "run", "(III)I"⟩
abbrev cX10_alternate : ByteArray := prog_12_method_44_code
def yX10_alternate : MethodName := ⟨RX10, "alternate", "(JJ)I"⟩
abbrev cX10_handSize : ByteArray := prog_12_method_45_code
def yX10_handSize : MethodName := ⟨RX10, "handSize", "()I"⟩
abbrev cX10_hand : ByteArray := prog_12_method_46_code
def yX10_hand : MethodName := ⟨RX10, "hand", "(I)I"⟩
abbrev cX10_road2 : ByteArray := prog_12_method_47_code
def yX10_road2 : MethodName := ⟨RX10, "road2", "(I)I"⟩
abbrev cX10_begun : ByteArray := prog_12_method_48_code
def yX10_begun : MethodName := ⟨RX10, "begun", "(I)I"⟩
abbrev cX10_bars : ByteArray := prog_12_method_49_code
def yX10_bars : MethodName := ⟨RX10, "bars", "(II)I"⟩
abbrev cX10_convoy : ByteArray := prog_12_method_50_code
def yX10_convoy : MethodName := ⟨RX10, "convoy", "(II)I"⟩
abbrev cX10_wantsEscort : ByteArray := prog_12_method_51_code
def yX10_wantsEscort : MethodName := ⟨RX10, "wantsEscort", "(I)Z"⟩
abbrev cX10_escort : ByteArray := prog_12_method_52_code
def yX10_escort : MethodName := ⟨RX10, "escort", "(I)I"⟩
abbrev cX10_notice : ByteArray := prog_12_method_53_code
def yX10_notice : MethodName := ⟨RX10, "notice", "(I)I"⟩
abbrev cX10_record : ByteArray := prog_12_method_54_code
def yX10_record : MethodName := ⟨RX10, "record", "(I)I"⟩
abbrev cX10_count : ByteArray := prog_12_method_55_code
def yX10_count : MethodName := ⟨RX10, "count", "(I)I"⟩
def RJ6 : String := "java/lang/Integer"
def TJ6 : u_T := fun k => match k with
  | _ => ("", "", "", false)
def tyJ6 : Nat → FieldType := fun k => match k with
  | _ => .int
abbrev wsJ60 : List Cond := u_ws RJ6 TJ6 0
theorem nmJ6 : ∀ a, a < 0 → ∀ b, b < 0 → a ≠ b → (TJ6 a).2.1 ≠ (TJ6 b).2.1 := by decide +kernel
theorem tyJ6_ok : ∀ k, k < 0 → parseFieldDescriptor (TJ6 k).2.2.1 = some (tyJ6 k) := by decide +kernel
abbrev cJ6_bitCount_0f7a4 : ByteArray := prog_13_method_49_code
def yJ6_bitCount_0f7a4 : MethodName := ⟨RJ6, "bitCount", "(I)I"⟩
def RJ9 : String := "java/lang/Math"
def TJ9 : u_T := fun k => match k with
  | _ => ("", "", "", false)
def tyJ9 : Nat → FieldType := fun k => match k with
  | _ => .int
abbrev wsJ90 : List Cond := u_ws RJ9 TJ9 0
theorem nmJ9 : ∀ a, a < 0 → ∀ b, b < 0 → a ≠ b → (TJ9 a).2.1 ≠ (TJ9 b).2.1 := by decide +kernel
theorem tyJ9_ok : ∀ k, k < 0 → parseFieldDescriptor (TJ9 k).2.2.1 = some (tyJ9 k) := by decide +kernel
abbrev cJ9_abs_067f4 : ByteArray := prog_14_method_61_code
def yJ9_abs_067f4 : MethodName := ⟨RJ9, "abs", "(J)J"⟩
abbrev cJ9_max_7cf53 : ByteArray := prog_14_method_65_code
def yJ9_max_7cf53 : MethodName := ⟨RJ9, "max", "(II)I"⟩
abbrev cJ9_max_f86c9 : ByteArray := prog_14_method_66_code
def yJ9_max_f86c9 : MethodName := ⟨RJ9, "max", "(JJ)J"⟩
def RL : String := "HeavyRoutesLaw"
abbrev cL_law : ByteArray := code
def yL_law : MethodName := ⟨RL, "law", "([I)Z"⟩
def wsX8_init : List Cond := .code yX8_init cX8_init 1 none :: ([.methodLink RX8 1 objectInit, .instanceMethod objectInit, .code objectInit ⟨#[0xb1]⟩ 1 none, .arrayClass .long, .fieldLink RX8 9 "HeavyRoutes$Wide" "limbs" "[J"] ++ wsX80)
def wsX8_setTo : List Cond := .code yX8_setTo cX8_setTo 4 none :: ([.fieldLink RX8 9 "HeavyRoutes$Wide" "limbs" "[J"] ++ wsX80)
def wsX5_init : List Cond := .code yX5_init cX5_init 1 none :: ([.methodLink RX5 1 objectInit, .instanceMethod objectInit, .code objectInit ⟨#[0xb1]⟩ 1 none, .classLink RX5 7 RX8, .instantiable RX8 1, .initialized RX8, .fieldLink RX5 10 "HeavyRoutes$Rating" "upper" "LHeavyRoutes$Wide;", .fieldLink RX5 16 "HeavyRoutes$Rating" "lower" "LHeavyRoutes$Wide;", .instanceMethod yX8_init, .code yX8_init cX8_init 1 none, .methodLink RX8 1 objectInit, .arrayClass .long, .fieldLink RX8 9 "HeavyRoutes$Wide" "limbs" "[J", .methodLink RX5 19 yX8_setTo, .instanceMethod yX8_setTo, .selects RX8 yX8_setTo yX8_setTo, .code yX8_setTo cX8_setTo 4 none] ++ wsX80 ++ wsX50)
def wsX0_init_r1 : List Cond := [Cond.methodLink RX0 3 objectInit, Cond.instanceMethod objectInit, Cond.code objectInit ⟨#[0xb1]⟩ 1 none, Cond.arrayClass .long, Cond.fieldLink RX0 9 "HeavyRoutes$Bridge" "at" "[J", Cond.fieldLink RX0 15 "HeavyRoutes$Bridge" "above" "[J", Cond.fieldLink RX0 18 "HeavyRoutes$Bridge" "below" "[J", Cond.classLink RX0 21 RX5, Cond.instantiable RX5 2, Cond.initialized RX5, Cond.fieldLink RX0 24 "HeavyRoutes$Bridge" "kept" "LHeavyRoutes$Rating;", Cond.methodLink RX0 23 yX5_init, Cond.instanceMethod yX5_init, Cond.code yX5_init cX5_init 1 none, Cond.methodLink RX5 1 objectInit, Cond.classLink RX5 7 RX8, Cond.instantiable RX8 1, Cond.initialized RX8, Cond.fieldLink RX5 10 "HeavyRoutes$Rating" "upper" "LHeavyRoutes$Wide;", Cond.fieldLink RX5 16 "HeavyRoutes$Rating" "lower" "LHeavyRoutes$Wide;", Cond.instanceMethod yX8_init, Cond.code yX8_init cX8_init 1 none, Cond.methodLink RX8 1 objectInit, Cond.fieldLink RX8 9 "HeavyRoutes$Wide" "limbs" "[J"]
def wsX0_init_r2 : List Cond := [Cond.methodLink RX5 19 yX8_setTo, Cond.instanceMethod yX8_setTo, Cond.selects RX8 yX8_setTo yX8_setTo, Cond.code yX8_setTo cX8_setTo 4 none]
def wsX0_init : List Cond := .code yX0_init cX0_init 1 none :: ((wsX0_init_r1 ++ wsX0_init_r2) ++ wsX00 ++ wsX50 ++ wsX80)
def wsX9_isWithin : List Cond := .code yX9_isWithin cX9_isWithin 6 (some .boolean) :: ([])
def wsX0_canTakeCorner : List Cond := .code yX0_canTakeCorner cX0_canTakeCorner 3 (some .boolean) :: ([.fieldLink RX0 28 "HeavyRoutes$Bridge" "cornerCount" "I", .constantLong RX0 32 (60), .fieldLink RX0 9 "HeavyRoutes$Bridge" "at" "[J", .static yX9_isWithin, .initialized RX9, .code yX9_isWithin cX9_isWithin 6 (some .boolean)] ++ wsX00)
def wsX0_addCorner : List Cond := .code yX0_addCorner cX0_addCorner 7 none :: ([.fieldLink RX0 28 "HeavyRoutes$Bridge" "cornerCount" "I", .fieldLink RX0 9 "HeavyRoutes$Bridge" "at" "[J", .fieldLink RX0 15 "HeavyRoutes$Bridge" "above" "[J", .fieldLink RX0 18 "HeavyRoutes$Bridge" "below" "[J"] ++ wsX00)
def wsX0_gapBehind : List Cond := .code yX0_gapBehind cX0_gapBehind 2 (some .long) :: ([.fieldLink RX0 28 "HeavyRoutes$Bridge" "cornerCount" "I", .fieldLink RX0 9 "HeavyRoutes$Bridge" "at" "[J"] ++ wsX00)
def wsX7_init : List Cond := .code yX7_init cX7_init 1 none :: ([.methodLink RX7 3 objectInit, .instanceMethod objectInit, .code objectInit ⟨#[0xb1]⟩ 1 none, .arrayClass .int, .fieldLink RX7 9 "HeavyRoutes$Way" "roads" "[I", .fieldLink RX7 15 "HeavyRoutes$Way" "starts" "[I"] ++ wsX70)
def wsX1_init : List Cond := .code yX1_init cX1_init 3 none :: ([.methodLink RX1 3 objectInit, .instanceMethod objectInit, .code objectInit ⟨#[0xb1]⟩ 1 none, .classLink RX1 9 RX7, .fieldLink RX1 11 "HeavyRoutes$Finder" "found" "[LHeavyRoutes$Way;", .instantiable RX7 6, .initialized RX7, .fieldLink RX1 18 "HeavyRoutes$Finder" "noWay" "LHeavyRoutes$Way;", .fieldLink RX1 22 "HeavyRoutes$Finder" "trial" "LHeavyRoutes$Way;", .fieldLink RX1 25 "HeavyRoutes$Finder" "best" "LHeavyRoutes$Way;", .fieldLink RX1 28 "HeavyRoutes$Finder" "net" "LHeavyRoutes$Net;", .instanceMethod yX7_init, .code yX7_init cX7_init 1 none, .methodLink RX7 3 objectInit, .arrayClass .int, .fieldLink RX7 9 "HeavyRoutes$Way" "roads" "[I", .fieldLink RX7 15 "HeavyRoutes$Way" "starts" "[I"] ++ wsX10 ++ wsX70)
def wsX1_forget : List Cond := .code yX1_forget cX1_forget 1 none :: ([.fieldLink RX1 32 "HeavyRoutes$Finder" "foundCount" "I"] ++ wsX10)
def wsX1_atHand : List Cond := .code yX1_atHand cX1_atHand 1 (some (.object "HeavyRoutes$Way")) :: ([.fieldLink RX1 32 "HeavyRoutes$Finder" "foundCount" "I", .fieldLink RX1 11 "HeavyRoutes$Finder" "found" "[LHeavyRoutes$Way;", .fieldLink RX1 18 "HeavyRoutes$Finder" "noWay" "LHeavyRoutes$Way;"] ++ wsX10)
def wsX1_begin : List Cond := .code yX1_begin cX1_begin 4 none :: ([.fieldLink RX1 39 "HeavyRoutes$Finder" "hasBegun" "Z", .fieldLink RX1 43 "HeavyRoutes$Finder" "from" "I", .fieldLink RX1 46 "HeavyRoutes$Finder" "to" "I", .fieldLink RX1 49 "HeavyRoutes$Finder" "minute" "I", .methodLink RX1 36 yX1_forget, .instanceMethod yX1_forget, .selects RX1 yX1_forget yX1_forget, .initialized RX1, .code yX1_forget cX1_forget 1 none, .fieldLink RX1 32 "HeavyRoutes$Finder" "foundCount" "I"] ++ wsX10)
def wsX1_limitSharing : List Cond := .code yX1_limitSharing cX1_limitSharing 5 none :: ([.fieldLink RX1 11 "HeavyRoutes$Finder" "found" "[LHeavyRoutes$Way;", .fieldLink RX1 55 "HeavyRoutes$Finder" "mostShared" "I"] ++ wsX10 ++ wsX70)
def wsX7_copyFrom : List Cond := .code yX7_copyFrom cX7_copyFrom 3 none :: ([.fieldLink RX7 9 "HeavyRoutes$Way" "roads" "[I", .fieldLink RX7 15 "HeavyRoutes$Way" "starts" "[I", .fieldLink RX7 18 "HeavyRoutes$Way" "length" "I", .fieldLink RX7 22 "HeavyRoutes$Way" "end" "I", .fieldLink RX7 25 "HeavyRoutes$Way" "bridges" "I", .fieldLink RX7 28 "HeavyRoutes$Way" "roadSet" "I"] ++ wsX70)
def wsX1_keepBest : List Cond := .code yX1_keepBest cX1_keepBest 1 (some .int) :: ([.fieldLink RX1 58 "HeavyRoutes$Finder" "hasBest" "Z", .fieldLink RX1 32 "HeavyRoutes$Finder" "foundCount" "I", .fieldLink RX1 11 "HeavyRoutes$Finder" "found" "[LHeavyRoutes$Way;", .fieldLink RX1 25 "HeavyRoutes$Finder" "best" "LHeavyRoutes$Way;", .fieldLink RX1 49 "HeavyRoutes$Finder" "minute" "I", .methodLink RX1 61 yX7_copyFrom, .instanceMethod yX7_copyFrom, .selects RX7 yX7_copyFrom yX7_copyFrom, .initialized RX7, .code yX7_copyFrom cX7_copyFrom 3 none, .fieldLink RX7 9 "HeavyRoutes$Way" "roads" "[I", .fieldLink RX7 15 "HeavyRoutes$Way" "starts" "[I", .fieldLink RX7 18 "HeavyRoutes$Way" "length" "I", .fieldLink RX7 22 "HeavyRoutes$Way" "end" "I", .fieldLink RX7 25 "HeavyRoutes$Way" "bridges" "I", .fieldLink RX7 28 "HeavyRoutes$Way" "roadSet" "I"] ++ wsX10 ++ wsX70)
def wsX3_hasBridge : List Cond := .code yX3_hasBridge cX3_hasBridge 2 (some .boolean) :: ([.fieldLink RX3 46 "HeavyRoutes$Net" "bridgeCount" "I"] ++ wsX30)
def wsX3_whyNotBearing : List Cond := .code yX3_whyNotBearing cX3_whyNotBearing 3 (some .int) :: ([.fieldLink RX3 11 "HeavyRoutes$Net" "roads" "[LHeavyRoutes$Road;", .fieldLink RX3 26 "HeavyRoutes$Net" "journey" "LHeavyRoutes$Journey;", .fieldLink RX3 19 "HeavyRoutes$Net" "bridges" "[LHeavyRoutes$Bridge;", .methodLink RX3 94 yX3_hasBridge, .instanceMethod yX3_hasBridge, .selects RX3 yX3_hasBridge yX3_hasBridge, .initialized RX3, .code yX3_hasBridge cX3_hasBridge 2 (some .boolean), .fieldLink RX3 46 "HeavyRoutes$Net" "bridgeCount" "I"] ++ wsX30 ++ wsX60 ++ wsX20 ++ wsX00)
def wsX6_waitAt : List Cond := .code yX6_waitAt cX6_waitAt 6 (some .int) :: ([.fieldLink RX6 48 "HeavyRoutes$Road" "barCount" "I", .fieldLink RX6 19 "HeavyRoutes$Road" "barTo" "[I", .fieldLink RX6 15 "HeavyRoutes$Road" "barFrom" "[I", .methodLink RX6 54 Lib.Math.max.name, .static Lib.Math.max.name, .initialized "java/lang/Math", .code Lib.Math.max.name Lib.Math.max.code 2 (some .int)] ++ wsX60)
def wsX6_earliestStart : List Cond := .code yX6_earliestStart cX6_earliestStart 5 (some .int) :: ([.fieldLink RX6 48 "HeavyRoutes$Road" "barCount" "I", .methodLink RX6 51 yX6_waitAt, .instanceMethod yX6_waitAt, .selects RX6 yX6_waitAt yX6_waitAt, .initialized RX6, .code yX6_waitAt cX6_waitAt 6 (some .int), .fieldLink RX6 19 "HeavyRoutes$Road" "barTo" "[I", .fieldLink RX6 15 "HeavyRoutes$Road" "barFrom" "[I", .methodLink RX6 54 Lib.Math.max.name, .static Lib.Math.max.name, .initialized "java/lang/Math", .code Lib.Math.max.name Lib.Math.max.code 2 (some .int)] ++ wsX60)
def wsX3_usableRoads_r1 : List Cond := [Cond.fieldLink RX3 43 "HeavyRoutes$Net" "roadCount" "I", Cond.fieldLink RX3 11 "HeavyRoutes$Net" "roads" "[LHeavyRoutes$Road;", Cond.methodLink RX3 120 yX3_whyNotBearing, Cond.instanceMethod yX3_whyNotBearing, Cond.selects RX3 yX3_whyNotBearing yX3_whyNotBearing, Cond.initialized RX3, Cond.code yX3_whyNotBearing cX3_whyNotBearing 3 (some .int), Cond.fieldLink RX3 26 "HeavyRoutes$Net" "journey" "LHeavyRoutes$Journey;", Cond.fieldLink RX3 19 "HeavyRoutes$Net" "bridges" "[LHeavyRoutes$Bridge;", Cond.methodLink RX3 94 yX3_hasBridge, Cond.instanceMethod yX3_hasBridge, Cond.selects RX3 yX3_hasBridge yX3_hasBridge, Cond.code yX3_hasBridge cX3_hasBridge 2 (some .boolean), Cond.fieldLink RX3 46 "HeavyRoutes$Net" "bridgeCount" "I", Cond.methodLink RX3 112 yX6_earliestStart, Cond.instanceMethod yX6_earliestStart, Cond.selects RX6 yX6_earliestStart yX6_earliestStart, Cond.initialized RX6, Cond.code yX6_earliestStart cX6_earliestStart 5 (some .int), Cond.fieldLink RX6 48 "HeavyRoutes$Road" "barCount" "I", Cond.methodLink RX6 51 yX6_waitAt, Cond.instanceMethod yX6_waitAt, Cond.selects RX6 yX6_waitAt yX6_waitAt, Cond.code yX6_waitAt cX6_waitAt 6 (some .int)]
def wsX3_usableRoads_r2 : List Cond := [Cond.fieldLink RX6 19 "HeavyRoutes$Road" "barTo" "[I", Cond.fieldLink RX6 15 "HeavyRoutes$Road" "barFrom" "[I", Cond.methodLink RX6 54 Lib.Math.max.name, Cond.static Lib.Math.max.name, Cond.initialized "java/lang/Math", Cond.code Lib.Math.max.name Lib.Math.max.code 2 (some .int)]
def wsX3_usableRoads : List Cond := .code yX3_usableRoads cX3_usableRoads 3 (some .int) :: ((wsX3_usableRoads_r1 ++ wsX3_usableRoads_r2) ++ wsX30 ++ wsX60 ++ wsX20 ++ wsX00)
def wsX3_bridgesOn : List Cond := .code yX3_bridgesOn cX3_bridgesOn 4 (some .int) :: ([.fieldLink RX3 11 "HeavyRoutes$Net" "roads" "[LHeavyRoutes$Road;"] ++ wsX70 ++ wsX30 ++ wsX60)
def wsX7_collectRoads : List Cond := .code yX7_collectRoads cX7_collectRoads 2 none :: ([.fieldLink RX7 28 "HeavyRoutes$Way" "roadSet" "I", .fieldLink RX7 18 "HeavyRoutes$Way" "length" "I", .fieldLink RX7 9 "HeavyRoutes$Way" "roads" "[I"] ++ wsX70)
def wsJ6_bitCount_0f7a4 : List Cond := .code yJ6_bitCount_0f7a4 cJ6_bitCount_0f7a4 1 (some .int) :: ([.constant RJ6 265 (1431655765), .constant RJ6 266 (858993459), .constant RJ6 267 (252645135)])
def wsX1_isAllowed : List Cond := .code yX1_isAllowed cX1_isAllowed 2 (some .boolean) :: ([.fieldLink RX1 32 "HeavyRoutes$Finder" "foundCount" "I", .fieldLink RX1 22 "HeavyRoutes$Finder" "trial" "LHeavyRoutes$Way;", .fieldLink RX1 11 "HeavyRoutes$Finder" "found" "[LHeavyRoutes$Way;", .fieldLink RX1 55 "HeavyRoutes$Finder" "mostShared" "I", .methodLink RX1 150 yJ6_bitCount_0f7a4, .static yJ6_bitCount_0f7a4, .initialized RJ6, .code yJ6_bitCount_0f7a4 cJ6_bitCount_0f7a4 1 (some .int), .constant RJ6 265 (1431655765), .constant RJ6 266 (858993459), .constant RJ6 267 (252645135)] ++ wsX10 ++ wsX70)
def wsX7_isBetterThan : List Cond := .code yX7_isBetterThan cX7_isBetterThan 3 (some .boolean) :: ([.fieldLink RX7 22 "HeavyRoutes$Way" "end" "I", .fieldLink RX7 25 "HeavyRoutes$Way" "bridges" "I", .fieldLink RX7 18 "HeavyRoutes$Way" "length" "I", .fieldLink RX7 9 "HeavyRoutes$Way" "roads" "[I"] ++ wsX70)
def wsX1_consider_r1 : List Cond := [Cond.fieldLink RX1 80 "HeavyRoutes$Finder" "wayCount" "I", Cond.fieldLink RX1 22 "HeavyRoutes$Finder" "trial" "LHeavyRoutes$Way;", Cond.fieldLink RX1 28 "HeavyRoutes$Finder" "net" "LHeavyRoutes$Net;", Cond.fieldLink RX1 58 "HeavyRoutes$Finder" "hasBest" "Z", Cond.fieldLink RX1 25 "HeavyRoutes$Finder" "best" "LHeavyRoutes$Way;", Cond.methodLink RX1 129 yX3_bridgesOn, Cond.instanceMethod yX3_bridgesOn, Cond.selects RX3 yX3_bridgesOn yX3_bridgesOn, Cond.initialized RX3, Cond.code yX3_bridgesOn cX3_bridgesOn 4 (some .int), Cond.fieldLink RX3 11 "HeavyRoutes$Net" "roads" "[LHeavyRoutes$Road;", Cond.methodLink RX1 136 yX7_collectRoads, Cond.instanceMethod yX7_collectRoads, Cond.selects RX7 yX7_collectRoads yX7_collectRoads, Cond.initialized RX7, Cond.code yX7_collectRoads cX7_collectRoads 2 none, Cond.fieldLink RX7 28 "HeavyRoutes$Way" "roadSet" "I", Cond.fieldLink RX7 18 "HeavyRoutes$Way" "length" "I", Cond.fieldLink RX7 9 "HeavyRoutes$Way" "roads" "[I", Cond.methodLink RX1 139 yX1_isAllowed, Cond.instanceMethod yX1_isAllowed, Cond.selects RX1 yX1_isAllowed yX1_isAllowed, Cond.initialized RX1, Cond.code yX1_isAllowed cX1_isAllowed 2 (some .boolean)]
def wsX1_consider_r2 : List Cond := [Cond.fieldLink RX1 32 "HeavyRoutes$Finder" "foundCount" "I", Cond.fieldLink RX1 11 "HeavyRoutes$Finder" "found" "[LHeavyRoutes$Way;", Cond.fieldLink RX1 55 "HeavyRoutes$Finder" "mostShared" "I", Cond.methodLink RX1 150 yJ6_bitCount_0f7a4, Cond.static yJ6_bitCount_0f7a4, Cond.initialized RJ6, Cond.code yJ6_bitCount_0f7a4 cJ6_bitCount_0f7a4 1 (some .int), Cond.constant RJ6 265 (1431655765), Cond.constant RJ6 266 (858993459), Cond.constant RJ6 267 (252645135), Cond.methodLink RX1 143 yX7_isBetterThan, Cond.instanceMethod yX7_isBetterThan, Cond.selects RX7 yX7_isBetterThan yX7_isBetterThan, Cond.code yX7_isBetterThan cX7_isBetterThan 3 (some .boolean), Cond.fieldLink RX7 22 "HeavyRoutes$Way" "end" "I", Cond.fieldLink RX7 25 "HeavyRoutes$Way" "bridges" "I", Cond.methodLink RX1 61 yX7_copyFrom, Cond.instanceMethod yX7_copyFrom, Cond.selects RX7 yX7_copyFrom yX7_copyFrom, Cond.code yX7_copyFrom cX7_copyFrom 3 none, Cond.fieldLink RX7 15 "HeavyRoutes$Way" "starts" "[I"]
def wsX1_consider : List Cond := .code yX1_consider cX1_consider 3 none :: ((wsX1_consider_r1 ++ wsX1_consider_r2) ++ wsX10 ++ wsX70 ++ wsX30 ++ wsX60)
def wsX6_nodeAcross : List Cond := .code yX6_nodeAcross cX6_nodeAcross 2 (some .int) :: ([.fieldLink RX6 22 "HeavyRoutes$Road" "endA" "I", .fieldLink RX6 25 "HeavyRoutes$Road" "endB" "I"] ++ wsX60)
def wsX6_isTurnBlocked : List Cond := .code yX6_isTurnBlocked cX6_isTurnBlocked 2 (some .boolean) :: ([.fieldLink RX6 45 "HeavyRoutes$Road" "blockedTurns" "I"] ++ wsX60)
def wsX1_canTake : List Cond := .code yX1_canTake cX1_canTake 5 (some .boolean) :: ([.fieldLink RX1 28 "HeavyRoutes$Finder" "net" "LHeavyRoutes$Net;", .fieldLink RX1 77 "HeavyRoutes$Finder" "visited" "I", .fieldLink RX1 74 "HeavyRoutes$Finder" "usable" "I", .fieldLink RX1 22 "HeavyRoutes$Finder" "trial" "LHeavyRoutes$Way;", .methodLink RX1 106 yX6_nodeAcross, .instanceMethod yX6_nodeAcross, .selects RX6 yX6_nodeAcross yX6_nodeAcross, .initialized RX6, .code yX6_nodeAcross cX6_nodeAcross 2 (some .int), .fieldLink RX6 22 "HeavyRoutes$Road" "endA" "I", .fieldLink RX6 25 "HeavyRoutes$Road" "endB" "I", .methodLink RX1 115 yX6_isTurnBlocked, .instanceMethod yX6_isTurnBlocked, .selects RX6 yX6_isTurnBlocked yX6_isTurnBlocked, .code yX6_isTurnBlocked cX6_isTurnBlocked 2 (some .boolean), .fieldLink RX6 45 "HeavyRoutes$Road" "blockedTurns" "I"] ++ wsX10 ++ wsX30 ++ wsX70 ++ wsX60)
def wsX3_endOfRoad : List Cond := .code yX3_endOfRoad cX3_endOfRoad 5 (some .int) :: ([.fieldLink RX3 11 "HeavyRoutes$Net" "roads" "[LHeavyRoutes$Road;", .fieldLink RX3 19 "HeavyRoutes$Net" "bridges" "[LHeavyRoutes$Bridge;", .methodLink RX3 94 yX3_hasBridge, .instanceMethod yX3_hasBridge, .selects RX3 yX3_hasBridge yX3_hasBridge, .initialized RX3, .code yX3_hasBridge cX3_hasBridge 2 (some .boolean), .fieldLink RX3 46 "HeavyRoutes$Net" "bridgeCount" "I"] ++ wsX30 ++ wsX60 ++ wsX00)
def wsX1_goOn_r1 : List Cond := [Cond.fieldLink RX1 46 "HeavyRoutes$Finder" "to" "I", Cond.fieldLink RX1 28 "HeavyRoutes$Finder" "net" "LHeavyRoutes$Net;", Cond.methodLink RX1 87 yX1_consider, Cond.instanceMethod yX1_consider, Cond.selects RX1 yX1_consider yX1_consider, Cond.initialized RX1, Cond.code yX1_consider cX1_consider 3 none, Cond.fieldLink RX1 80 "HeavyRoutes$Finder" "wayCount" "I", Cond.fieldLink RX1 22 "HeavyRoutes$Finder" "trial" "LHeavyRoutes$Way;", Cond.fieldLink RX1 58 "HeavyRoutes$Finder" "hasBest" "Z", Cond.fieldLink RX1 25 "HeavyRoutes$Finder" "best" "LHeavyRoutes$Way;", Cond.methodLink RX1 129 yX3_bridgesOn, Cond.instanceMethod yX3_bridgesOn, Cond.selects RX3 yX3_bridgesOn yX3_bridgesOn, Cond.initialized RX3, Cond.code yX3_bridgesOn cX3_bridgesOn 4 (some .int), Cond.fieldLink RX3 11 "HeavyRoutes$Net" "roads" "[LHeavyRoutes$Road;", Cond.methodLink RX1 136 yX7_collectRoads, Cond.instanceMethod yX7_collectRoads, Cond.selects RX7 yX7_collectRoads yX7_collectRoads, Cond.initialized RX7, Cond.code yX7_collectRoads cX7_collectRoads 2 none, Cond.fieldLink RX7 28 "HeavyRoutes$Way" "roadSet" "I", Cond.fieldLink RX7 18 "HeavyRoutes$Way" "length" "I"]
def wsX1_goOn_r2 : List Cond := [Cond.fieldLink RX7 9 "HeavyRoutes$Way" "roads" "[I", Cond.methodLink RX1 139 yX1_isAllowed, Cond.instanceMethod yX1_isAllowed, Cond.selects RX1 yX1_isAllowed yX1_isAllowed, Cond.code yX1_isAllowed cX1_isAllowed 2 (some .boolean), Cond.fieldLink RX1 32 "HeavyRoutes$Finder" "foundCount" "I", Cond.fieldLink RX1 11 "HeavyRoutes$Finder" "found" "[LHeavyRoutes$Way;", Cond.fieldLink RX1 55 "HeavyRoutes$Finder" "mostShared" "I", Cond.methodLink RX1 150 yJ6_bitCount_0f7a4, Cond.static yJ6_bitCount_0f7a4, Cond.initialized RJ6, Cond.code yJ6_bitCount_0f7a4 cJ6_bitCount_0f7a4 1 (some .int), Cond.constant RJ6 265 (1431655765), Cond.constant RJ6 266 (858993459), Cond.constant RJ6 267 (252645135), Cond.methodLink RX1 143 yX7_isBetterThan, Cond.instanceMethod yX7_isBetterThan, Cond.selects RX7 yX7_isBetterThan yX7_isBetterThan, Cond.code yX7_isBetterThan cX7_isBetterThan 3 (some .boolean), Cond.fieldLink RX7 22 "HeavyRoutes$Way" "end" "I", Cond.fieldLink RX7 25 "HeavyRoutes$Way" "bridges" "I", Cond.methodLink RX1 61 yX7_copyFrom, Cond.instanceMethod yX7_copyFrom, Cond.selects RX7 yX7_copyFrom yX7_copyFrom]
def wsX1_goOn_r3 : List Cond := [Cond.code yX7_copyFrom cX7_copyFrom 3 none, Cond.fieldLink RX7 15 "HeavyRoutes$Way" "starts" "[I", Cond.methodLink RX1 94 yX1_canTake, Cond.instanceMethod yX1_canTake, Cond.selects RX1 yX1_canTake yX1_canTake, Cond.code yX1_canTake cX1_canTake 5 (some .boolean), Cond.fieldLink RX1 77 "HeavyRoutes$Finder" "visited" "I", Cond.fieldLink RX1 74 "HeavyRoutes$Finder" "usable" "I", Cond.methodLink RX1 106 yX6_nodeAcross, Cond.instanceMethod yX6_nodeAcross, Cond.selects RX6 yX6_nodeAcross yX6_nodeAcross, Cond.initialized RX6, Cond.code yX6_nodeAcross cX6_nodeAcross 2 (some .int), Cond.fieldLink RX6 22 "HeavyRoutes$Road" "endA" "I", Cond.fieldLink RX6 25 "HeavyRoutes$Road" "endB" "I", Cond.methodLink RX1 115 yX6_isTurnBlocked, Cond.instanceMethod yX6_isTurnBlocked, Cond.selects RX6 yX6_isTurnBlocked yX6_isTurnBlocked, Cond.code yX6_isTurnBlocked cX6_isTurnBlocked 2 (some .boolean), Cond.fieldLink RX6 45 "HeavyRoutes$Road" "blockedTurns" "I", Cond.methodLink RX1 98 yX1_take, Cond.instanceMethod yX1_take, Cond.selects RX1 yX1_take yX1_take, Cond.code yX1_take cX1_take 7 none]
def wsX1_goOn_r4 : List Cond := [Cond.methodLink RX1 119 yX6_earliestStart, Cond.instanceMethod yX6_earliestStart, Cond.selects RX6 yX6_earliestStart yX6_earliestStart, Cond.code yX6_earliestStart cX6_earliestStart 5 (some .int), Cond.fieldLink RX6 48 "HeavyRoutes$Road" "barCount" "I", Cond.methodLink RX6 51 yX6_waitAt, Cond.instanceMethod yX6_waitAt, Cond.selects RX6 yX6_waitAt yX6_waitAt, Cond.code yX6_waitAt cX6_waitAt 6 (some .int), Cond.fieldLink RX6 19 "HeavyRoutes$Road" "barTo" "[I", Cond.fieldLink RX6 15 "HeavyRoutes$Road" "barFrom" "[I", Cond.methodLink RX6 54 Lib.Math.max.name, Cond.static Lib.Math.max.name, Cond.initialized "java/lang/Math", Cond.code Lib.Math.max.name Lib.Math.max.code 2 (some .int), Cond.methodLink RX1 125 yX3_endOfRoad, Cond.instanceMethod yX3_endOfRoad, Cond.selects RX3 yX3_endOfRoad yX3_endOfRoad, Cond.code yX3_endOfRoad cX3_endOfRoad 5 (some .int), Cond.fieldLink RX3 19 "HeavyRoutes$Net" "bridges" "[LHeavyRoutes$Bridge;", Cond.methodLink RX3 94 yX3_hasBridge, Cond.instanceMethod yX3_hasBridge, Cond.selects RX3 yX3_hasBridge yX3_hasBridge, Cond.code yX3_hasBridge cX3_hasBridge 2 (some .boolean)]
def wsX1_goOn_r5 : List Cond := [Cond.fieldLink RX3 46 "HeavyRoutes$Net" "bridgeCount" "I", Cond.methodLink RX1 83 yX1_goOn, Cond.instanceMethod yX1_goOn, Cond.selects RX1 yX1_goOn yX1_goOn]
def wsX1_goOn : List Cond := .code yX1_goOn cX1_goOn 5 none :: ((wsX1_goOn_r1 ++ (wsX1_goOn_r2 ++ (wsX1_goOn_r3 ++ (wsX1_goOn_r4 ++ wsX1_goOn_r5)))) ++ wsX10 ++ wsX30 ++ wsX70 ++ wsX60 ++ wsX00)
def wsX1_take_r1 : List Cond := [Cond.fieldLink RX1 28 "HeavyRoutes$Finder" "net" "LHeavyRoutes$Net;", Cond.fieldLink RX1 22 "HeavyRoutes$Finder" "trial" "LHeavyRoutes$Way;", Cond.fieldLink RX1 77 "HeavyRoutes$Finder" "visited" "I", Cond.methodLink RX1 106 yX6_nodeAcross, Cond.instanceMethod yX6_nodeAcross, Cond.selects RX6 yX6_nodeAcross yX6_nodeAcross, Cond.initialized RX6, Cond.code yX6_nodeAcross cX6_nodeAcross 2 (some .int), Cond.fieldLink RX6 22 "HeavyRoutes$Road" "endA" "I", Cond.fieldLink RX6 25 "HeavyRoutes$Road" "endB" "I", Cond.methodLink RX1 119 yX6_earliestStart, Cond.instanceMethod yX6_earliestStart, Cond.selects RX6 yX6_earliestStart yX6_earliestStart, Cond.code yX6_earliestStart cX6_earliestStart 5 (some .int), Cond.fieldLink RX6 48 "HeavyRoutes$Road" "barCount" "I", Cond.methodLink RX6 51 yX6_waitAt, Cond.instanceMethod yX6_waitAt, Cond.selects RX6 yX6_waitAt yX6_waitAt, Cond.code yX6_waitAt cX6_waitAt 6 (some .int), Cond.fieldLink RX6 19 "HeavyRoutes$Road" "barTo" "[I", Cond.fieldLink RX6 15 "HeavyRoutes$Road" "barFrom" "[I", Cond.methodLink RX6 54 Lib.Math.max.name, Cond.static Lib.Math.max.name, Cond.initialized "java/lang/Math"]
def wsX1_take_r2 : List Cond := [Cond.code Lib.Math.max.name Lib.Math.max.code 2 (some .int), Cond.methodLink RX1 125 yX3_endOfRoad, Cond.instanceMethod yX3_endOfRoad, Cond.selects RX3 yX3_endOfRoad yX3_endOfRoad, Cond.initialized RX3, Cond.code yX3_endOfRoad cX3_endOfRoad 5 (some .int), Cond.fieldLink RX3 11 "HeavyRoutes$Net" "roads" "[LHeavyRoutes$Road;", Cond.fieldLink RX3 19 "HeavyRoutes$Net" "bridges" "[LHeavyRoutes$Bridge;", Cond.methodLink RX3 94 yX3_hasBridge, Cond.instanceMethod yX3_hasBridge, Cond.selects RX3 yX3_hasBridge yX3_hasBridge, Cond.code yX3_hasBridge cX3_hasBridge 2 (some .boolean), Cond.fieldLink RX3 46 "HeavyRoutes$Net" "bridgeCount" "I", Cond.methodLink RX1 83 yX1_goOn, Cond.instanceMethod yX1_goOn, Cond.selects RX1 yX1_goOn yX1_goOn, Cond.initialized RX1, Cond.code yX1_goOn cX1_goOn 5 none, Cond.fieldLink RX1 46 "HeavyRoutes$Finder" "to" "I", Cond.methodLink RX1 87 yX1_consider, Cond.instanceMethod yX1_consider, Cond.selects RX1 yX1_consider yX1_consider, Cond.code yX1_consider cX1_consider 3 none, Cond.fieldLink RX1 80 "HeavyRoutes$Finder" "wayCount" "I"]
def wsX1_take_r3 : List Cond := [Cond.fieldLink RX1 58 "HeavyRoutes$Finder" "hasBest" "Z", Cond.fieldLink RX1 25 "HeavyRoutes$Finder" "best" "LHeavyRoutes$Way;", Cond.methodLink RX1 129 yX3_bridgesOn, Cond.instanceMethod yX3_bridgesOn, Cond.selects RX3 yX3_bridgesOn yX3_bridgesOn, Cond.code yX3_bridgesOn cX3_bridgesOn 4 (some .int), Cond.methodLink RX1 136 yX7_collectRoads, Cond.instanceMethod yX7_collectRoads, Cond.selects RX7 yX7_collectRoads yX7_collectRoads, Cond.initialized RX7, Cond.code yX7_collectRoads cX7_collectRoads 2 none, Cond.fieldLink RX7 28 "HeavyRoutes$Way" "roadSet" "I", Cond.fieldLink RX7 18 "HeavyRoutes$Way" "length" "I", Cond.fieldLink RX7 9 "HeavyRoutes$Way" "roads" "[I", Cond.methodLink RX1 139 yX1_isAllowed, Cond.instanceMethod yX1_isAllowed, Cond.selects RX1 yX1_isAllowed yX1_isAllowed, Cond.code yX1_isAllowed cX1_isAllowed 2 (some .boolean), Cond.fieldLink RX1 32 "HeavyRoutes$Finder" "foundCount" "I", Cond.fieldLink RX1 11 "HeavyRoutes$Finder" "found" "[LHeavyRoutes$Way;", Cond.fieldLink RX1 55 "HeavyRoutes$Finder" "mostShared" "I", Cond.methodLink RX1 150 yJ6_bitCount_0f7a4, Cond.static yJ6_bitCount_0f7a4, Cond.initialized RJ6]
def wsX1_take_r4 : List Cond := [Cond.code yJ6_bitCount_0f7a4 cJ6_bitCount_0f7a4 1 (some .int), Cond.constant RJ6 265 (1431655765), Cond.constant RJ6 266 (858993459), Cond.constant RJ6 267 (252645135), Cond.methodLink RX1 143 yX7_isBetterThan, Cond.instanceMethod yX7_isBetterThan, Cond.selects RX7 yX7_isBetterThan yX7_isBetterThan, Cond.code yX7_isBetterThan cX7_isBetterThan 3 (some .boolean), Cond.fieldLink RX7 22 "HeavyRoutes$Way" "end" "I", Cond.fieldLink RX7 25 "HeavyRoutes$Way" "bridges" "I", Cond.methodLink RX1 61 yX7_copyFrom, Cond.instanceMethod yX7_copyFrom, Cond.selects RX7 yX7_copyFrom yX7_copyFrom, Cond.code yX7_copyFrom cX7_copyFrom 3 none, Cond.fieldLink RX7 15 "HeavyRoutes$Way" "starts" "[I", Cond.methodLink RX1 94 yX1_canTake, Cond.instanceMethod yX1_canTake, Cond.selects RX1 yX1_canTake yX1_canTake, Cond.code yX1_canTake cX1_canTake 5 (some .boolean), Cond.fieldLink RX1 74 "HeavyRoutes$Finder" "usable" "I", Cond.methodLink RX1 115 yX6_isTurnBlocked, Cond.instanceMethod yX6_isTurnBlocked, Cond.selects RX6 yX6_isTurnBlocked yX6_isTurnBlocked, Cond.code yX6_isTurnBlocked cX6_isTurnBlocked 2 (some .boolean)]
def wsX1_take_r5 : List Cond := [Cond.fieldLink RX6 45 "HeavyRoutes$Road" "blockedTurns" "I", Cond.methodLink RX1 98 yX1_take, Cond.instanceMethod yX1_take, Cond.selects RX1 yX1_take yX1_take]
def wsX1_take : List Cond := .code yX1_take cX1_take 7 none :: ((wsX1_take_r1 ++ (wsX1_take_r2 ++ (wsX1_take_r3 ++ (wsX1_take_r4 ++ wsX1_take_r5)))) ++ wsX10 ++ wsX30 ++ wsX70 ++ wsX60 ++ wsX00)
def wsX1_lookThrough_r1 : List Cond := [Cond.fieldLink RX1 28 "HeavyRoutes$Finder" "net" "LHeavyRoutes$Net;", Cond.fieldLink RX1 74 "HeavyRoutes$Finder" "usable" "I", Cond.fieldLink RX1 43 "HeavyRoutes$Finder" "from" "I", Cond.fieldLink RX1 77 "HeavyRoutes$Finder" "visited" "I", Cond.fieldLink RX1 80 "HeavyRoutes$Finder" "wayCount" "I", Cond.fieldLink RX1 58 "HeavyRoutes$Finder" "hasBest" "Z", Cond.fieldLink RX1 39 "HeavyRoutes$Finder" "hasBegun" "Z", Cond.fieldLink RX1 49 "HeavyRoutes$Finder" "minute" "I", Cond.methodLink RX1 68 yX3_usableRoads, Cond.instanceMethod yX3_usableRoads, Cond.selects RX3 yX3_usableRoads yX3_usableRoads, Cond.initialized RX3, Cond.code yX3_usableRoads cX3_usableRoads 3 (some .int), Cond.fieldLink RX3 43 "HeavyRoutes$Net" "roadCount" "I", Cond.fieldLink RX3 11 "HeavyRoutes$Net" "roads" "[LHeavyRoutes$Road;", Cond.methodLink RX3 120 yX3_whyNotBearing, Cond.instanceMethod yX3_whyNotBearing, Cond.selects RX3 yX3_whyNotBearing yX3_whyNotBearing, Cond.code yX3_whyNotBearing cX3_whyNotBearing 3 (some .int), Cond.fieldLink RX3 26 "HeavyRoutes$Net" "journey" "LHeavyRoutes$Journey;", Cond.fieldLink RX3 19 "HeavyRoutes$Net" "bridges" "[LHeavyRoutes$Bridge;", Cond.methodLink RX3 94 yX3_hasBridge, Cond.instanceMethod yX3_hasBridge, Cond.selects RX3 yX3_hasBridge yX3_hasBridge]
def wsX1_lookThrough_r2 : List Cond := [Cond.code yX3_hasBridge cX3_hasBridge 2 (some .boolean), Cond.fieldLink RX3 46 "HeavyRoutes$Net" "bridgeCount" "I", Cond.methodLink RX3 112 yX6_earliestStart, Cond.instanceMethod yX6_earliestStart, Cond.selects RX6 yX6_earliestStart yX6_earliestStart, Cond.initialized RX6, Cond.code yX6_earliestStart cX6_earliestStart 5 (some .int), Cond.fieldLink RX6 48 "HeavyRoutes$Road" "barCount" "I", Cond.methodLink RX6 51 yX6_waitAt, Cond.instanceMethod yX6_waitAt, Cond.selects RX6 yX6_waitAt yX6_waitAt, Cond.code yX6_waitAt cX6_waitAt 6 (some .int), Cond.fieldLink RX6 19 "HeavyRoutes$Road" "barTo" "[I", Cond.fieldLink RX6 15 "HeavyRoutes$Road" "barFrom" "[I", Cond.methodLink RX6 54 Lib.Math.max.name, Cond.static Lib.Math.max.name, Cond.initialized "java/lang/Math", Cond.code Lib.Math.max.name Lib.Math.max.code 2 (some .int), Cond.methodLink RX1 83 yX1_goOn, Cond.instanceMethod yX1_goOn, Cond.selects RX1 yX1_goOn yX1_goOn, Cond.initialized RX1, Cond.code yX1_goOn cX1_goOn 5 none, Cond.fieldLink RX1 46 "HeavyRoutes$Finder" "to" "I"]
def wsX1_lookThrough_r3 : List Cond := [Cond.methodLink RX1 87 yX1_consider, Cond.instanceMethod yX1_consider, Cond.selects RX1 yX1_consider yX1_consider, Cond.code yX1_consider cX1_consider 3 none, Cond.fieldLink RX1 22 "HeavyRoutes$Finder" "trial" "LHeavyRoutes$Way;", Cond.fieldLink RX1 25 "HeavyRoutes$Finder" "best" "LHeavyRoutes$Way;", Cond.methodLink RX1 129 yX3_bridgesOn, Cond.instanceMethod yX3_bridgesOn, Cond.selects RX3 yX3_bridgesOn yX3_bridgesOn, Cond.code yX3_bridgesOn cX3_bridgesOn 4 (some .int), Cond.methodLink RX1 136 yX7_collectRoads, Cond.instanceMethod yX7_collectRoads, Cond.selects RX7 yX7_collectRoads yX7_collectRoads, Cond.initialized RX7, Cond.code yX7_collectRoads cX7_collectRoads 2 none, Cond.fieldLink RX7 28 "HeavyRoutes$Way" "roadSet" "I", Cond.fieldLink RX7 18 "HeavyRoutes$Way" "length" "I", Cond.fieldLink RX7 9 "HeavyRoutes$Way" "roads" "[I", Cond.methodLink RX1 139 yX1_isAllowed, Cond.instanceMethod yX1_isAllowed, Cond.selects RX1 yX1_isAllowed yX1_isAllowed, Cond.code yX1_isAllowed cX1_isAllowed 2 (some .boolean), Cond.fieldLink RX1 32 "HeavyRoutes$Finder" "foundCount" "I", Cond.fieldLink RX1 11 "HeavyRoutes$Finder" "found" "[LHeavyRoutes$Way;"]
def wsX1_lookThrough_r4 : List Cond := [Cond.fieldLink RX1 55 "HeavyRoutes$Finder" "mostShared" "I", Cond.methodLink RX1 150 yJ6_bitCount_0f7a4, Cond.static yJ6_bitCount_0f7a4, Cond.initialized RJ6, Cond.code yJ6_bitCount_0f7a4 cJ6_bitCount_0f7a4 1 (some .int), Cond.constant RJ6 265 (1431655765), Cond.constant RJ6 266 (858993459), Cond.constant RJ6 267 (252645135), Cond.methodLink RX1 143 yX7_isBetterThan, Cond.instanceMethod yX7_isBetterThan, Cond.selects RX7 yX7_isBetterThan yX7_isBetterThan, Cond.code yX7_isBetterThan cX7_isBetterThan 3 (some .boolean), Cond.fieldLink RX7 22 "HeavyRoutes$Way" "end" "I", Cond.fieldLink RX7 25 "HeavyRoutes$Way" "bridges" "I", Cond.methodLink RX1 61 yX7_copyFrom, Cond.instanceMethod yX7_copyFrom, Cond.selects RX7 yX7_copyFrom yX7_copyFrom, Cond.code yX7_copyFrom cX7_copyFrom 3 none, Cond.fieldLink RX7 15 "HeavyRoutes$Way" "starts" "[I", Cond.methodLink RX1 94 yX1_canTake, Cond.instanceMethod yX1_canTake, Cond.selects RX1 yX1_canTake yX1_canTake, Cond.code yX1_canTake cX1_canTake 5 (some .boolean), Cond.methodLink RX1 106 yX6_nodeAcross]
def wsX1_lookThrough_r5 : List Cond := [Cond.instanceMethod yX6_nodeAcross, Cond.selects RX6 yX6_nodeAcross yX6_nodeAcross, Cond.code yX6_nodeAcross cX6_nodeAcross 2 (some .int), Cond.fieldLink RX6 22 "HeavyRoutes$Road" "endA" "I", Cond.fieldLink RX6 25 "HeavyRoutes$Road" "endB" "I", Cond.methodLink RX1 115 yX6_isTurnBlocked, Cond.instanceMethod yX6_isTurnBlocked, Cond.selects RX6 yX6_isTurnBlocked yX6_isTurnBlocked, Cond.code yX6_isTurnBlocked cX6_isTurnBlocked 2 (some .boolean), Cond.fieldLink RX6 45 "HeavyRoutes$Road" "blockedTurns" "I", Cond.methodLink RX1 98 yX1_take, Cond.instanceMethod yX1_take, Cond.selects RX1 yX1_take yX1_take, Cond.code yX1_take cX1_take 7 none, Cond.methodLink RX1 119 yX6_earliestStart, Cond.methodLink RX1 125 yX3_endOfRoad, Cond.instanceMethod yX3_endOfRoad, Cond.selects RX3 yX3_endOfRoad yX3_endOfRoad, Cond.code yX3_endOfRoad cX3_endOfRoad 5 (some .int)]
def wsX1_lookThrough : List Cond := .code yX1_lookThrough cX1_lookThrough 1 none :: ((wsX1_lookThrough_r1 ++ (wsX1_lookThrough_r2 ++ (wsX1_lookThrough_r3 ++ (wsX1_lookThrough_r4 ++ wsX1_lookThrough_r5)))) ++ wsX10 ++ wsX30 ++ wsX60 ++ wsX20 ++ wsX00 ++ wsX70)
def wsX2_init : List Cond := .code yX2_init cX2_init 1 none :: ([.methodLink RX2 3 objectInit, .instanceMethod objectInit, .code objectInit ⟨#[0xb1]⟩ 1 none, .fieldLink RX2 9 "HeavyRoutes$Journey" "height" "I", .fieldLink RX2 15 "HeavyRoutes$Journey" "width" "I", .arrayClass .long, .fieldLink RX2 18 "HeavyRoutes$Journey" "offsets" "[J", .fieldLink RX2 22 "HeavyRoutes$Journey" "loads" "[J"] ++ wsX20)
def wsX2_canTakeAxle : List Cond := .code yX2_canTakeAxle cX2_canTakeAxle 3 (some .boolean) :: ([.fieldLink RX2 25 "HeavyRoutes$Journey" "axleCount" "I", .constantLong RX2 28 (30), .static yX9_isWithin, .initialized RX9, .code yX9_isWithin cX9_isWithin 6 (some .boolean)] ++ wsX20)
def wsX2_addAxle : List Cond := .code yX2_addAxle cX2_addAxle 5 none :: ([.fieldLink RX2 25 "HeavyRoutes$Journey" "axleCount" "I", .fieldLink RX2 18 "HeavyRoutes$Journey" "offsets" "[J", .fieldLink RX2 22 "HeavyRoutes$Journey" "loads" "[J"] ++ wsX20)
def wsX4_init_r1 : List Cond := [Cond.methodLink RX4 3 objectInit, Cond.instanceMethod objectInit, Cond.code objectInit ⟨#[0xb1]⟩ 1 none, Cond.classLink RX4 9 RX8, Cond.instantiable RX8 1, Cond.initialized RX8, Cond.fieldLink RX4 12 "HeavyRoutes$Rater" "raising" "LHeavyRoutes$Wide;", Cond.fieldLink RX4 18 "HeavyRoutes$Rater" "lowering" "LHeavyRoutes$Wide;", Cond.classLink RX4 21 RX5, Cond.instantiable RX5 2, Cond.initialized RX5, Cond.fieldLink RX4 24 "HeavyRoutes$Rater" "anew" "LHeavyRoutes$Rating;", Cond.arrayClass .long, Cond.fieldLink RX4 28 "HeavyRoutes$Rater" "shares" "[J", Cond.fieldLink RX4 32 "HeavyRoutes$Rater" "valueFactors" "[J", Cond.fieldLink RX4 35 "HeavyRoutes$Rater" "gapFactors" "[J", Cond.instanceMethod yX8_init, Cond.code yX8_init cX8_init 1 none, Cond.methodLink RX8 1 objectInit, Cond.fieldLink RX8 9 "HeavyRoutes$Wide" "limbs" "[J", Cond.methodLink RX4 23 yX5_init, Cond.instanceMethod yX5_init, Cond.code yX5_init cX5_init 1 none, Cond.methodLink RX5 1 objectInit]
def wsX4_init_r2 : List Cond := [Cond.classLink RX5 7 RX8, Cond.fieldLink RX5 10 "HeavyRoutes$Rating" "upper" "LHeavyRoutes$Wide;", Cond.fieldLink RX5 16 "HeavyRoutes$Rating" "lower" "LHeavyRoutes$Wide;", Cond.methodLink RX5 19 yX8_setTo, Cond.instanceMethod yX8_setTo, Cond.selects RX8 yX8_setTo yX8_setTo, Cond.code yX8_setTo cX8_setTo 4 none]
def wsX4_init : List Cond := .code yX4_init cX4_init 1 none :: ((wsX4_init_r1 ++ wsX4_init_r2) ++ wsX80 ++ wsX40 ++ wsX50)
def wsX6_init : List Cond := .code yX6_init cX6_init 1 none :: ([.methodLink RX6 3 objectInit, .instanceMethod objectInit, .code objectInit ⟨#[0xb1]⟩ 1 none, .fieldLink RX6 9 "HeavyRoutes$Road" "bridge" "I", .arrayClass .int, .fieldLink RX6 15 "HeavyRoutes$Road" "barFrom" "[I", .fieldLink RX6 19 "HeavyRoutes$Road" "barTo" "[I"] ++ wsX60)
def wsX3_init_r1 : List Cond := [Cond.methodLink RX3 3 objectInit, Cond.instanceMethod objectInit, Cond.code objectInit ⟨#[0xb1]⟩ 1 none, Cond.classLink RX3 9 RX6, Cond.fieldLink RX3 11 "HeavyRoutes$Net" "roads" "[LHeavyRoutes$Road;", Cond.classLink RX3 17 RX0, Cond.fieldLink RX3 19 "HeavyRoutes$Net" "bridges" "[LHeavyRoutes$Bridge;", Cond.classLink RX3 23 RX2, Cond.instantiable RX2 5, Cond.initialized RX2, Cond.fieldLink RX3 26 "HeavyRoutes$Net" "journey" "LHeavyRoutes$Journey;", Cond.classLink RX3 30 RX4, Cond.instantiable RX4 8, Cond.initialized RX4, Cond.fieldLink RX3 33 "HeavyRoutes$Net" "rater" "LHeavyRoutes$Rater;", Cond.instantiable RX6 11, Cond.initialized RX6, Cond.instantiable RX0 8, Cond.initialized RX0, Cond.instanceMethod yX2_init, Cond.code yX2_init cX2_init 1 none, Cond.methodLink RX2 3 objectInit, Cond.fieldLink RX2 9 "HeavyRoutes$Journey" "height" "I", Cond.fieldLink RX2 15 "HeavyRoutes$Journey" "width" "I"]
def wsX3_init_r2 : List Cond := [Cond.arrayClass .long, Cond.fieldLink RX2 18 "HeavyRoutes$Journey" "offsets" "[J", Cond.fieldLink RX2 22 "HeavyRoutes$Journey" "loads" "[J", Cond.instanceMethod yX4_init, Cond.code yX4_init cX4_init 1 none, Cond.methodLink RX4 3 objectInit, Cond.classLink RX4 9 RX8, Cond.instantiable RX8 1, Cond.initialized RX8, Cond.fieldLink RX4 12 "HeavyRoutes$Rater" "raising" "LHeavyRoutes$Wide;", Cond.fieldLink RX4 18 "HeavyRoutes$Rater" "lowering" "LHeavyRoutes$Wide;", Cond.classLink RX4 21 RX5, Cond.instantiable RX5 2, Cond.initialized RX5, Cond.fieldLink RX4 24 "HeavyRoutes$Rater" "anew" "LHeavyRoutes$Rating;", Cond.fieldLink RX4 28 "HeavyRoutes$Rater" "shares" "[J", Cond.fieldLink RX4 32 "HeavyRoutes$Rater" "valueFactors" "[J", Cond.fieldLink RX4 35 "HeavyRoutes$Rater" "gapFactors" "[J", Cond.instanceMethod yX8_init, Cond.code yX8_init cX8_init 1 none, Cond.methodLink RX8 1 objectInit, Cond.fieldLink RX8 9 "HeavyRoutes$Wide" "limbs" "[J", Cond.methodLink RX4 23 yX5_init, Cond.instanceMethod yX5_init]
def wsX3_init_r3 : List Cond := [Cond.code yX5_init cX5_init 1 none, Cond.methodLink RX5 1 objectInit, Cond.classLink RX5 7 RX8, Cond.fieldLink RX5 10 "HeavyRoutes$Rating" "upper" "LHeavyRoutes$Wide;", Cond.fieldLink RX5 16 "HeavyRoutes$Rating" "lower" "LHeavyRoutes$Wide;", Cond.methodLink RX5 19 yX8_setTo, Cond.instanceMethod yX8_setTo, Cond.selects RX8 yX8_setTo yX8_setTo, Cond.code yX8_setTo cX8_setTo 4 none, Cond.instanceMethod yX6_init, Cond.code yX6_init cX6_init 1 none, Cond.methodLink RX6 3 objectInit, Cond.fieldLink RX6 9 "HeavyRoutes$Road" "bridge" "I", Cond.arrayClass .int, Cond.fieldLink RX6 15 "HeavyRoutes$Road" "barFrom" "[I", Cond.fieldLink RX6 19 "HeavyRoutes$Road" "barTo" "[I", Cond.instanceMethod yX0_init, Cond.code yX0_init cX0_init 1 none, Cond.methodLink RX0 3 objectInit, Cond.fieldLink RX0 9 "HeavyRoutes$Bridge" "at" "[J", Cond.fieldLink RX0 15 "HeavyRoutes$Bridge" "above" "[J", Cond.fieldLink RX0 18 "HeavyRoutes$Bridge" "below" "[J", Cond.classLink RX0 21 RX5, Cond.fieldLink RX0 24 "HeavyRoutes$Bridge" "kept" "LHeavyRoutes$Rating;"]
def wsX3_init_r4 : List Cond := [Cond.methodLink RX0 23 yX5_init]
def wsX3_init : List Cond := .code yX3_init cX3_init 2 none :: ((wsX3_init_r1 ++ (wsX3_init_r2 ++ (wsX3_init_r3 ++ wsX3_init_r4))) ++ wsX30 ++ wsX20 ++ wsX40 ++ wsX60 ++ wsX00 ++ wsX80 ++ wsX50)
def wsX3_hasNode : List Cond := .code yX3_hasNode cX3_hasNode 2 (some .boolean) :: ([.fieldLink RX3 39 "HeavyRoutes$Net" "nodeCount" "I"] ++ wsX30)
def wsX3_hasRoad : List Cond := .code yX3_hasRoad cX3_hasRoad 2 (some .boolean) :: ([.fieldLink RX3 43 "HeavyRoutes$Net" "roadCount" "I"] ++ wsX30)
def wsX4_commonDivisor : List Cond := .code yX4_commonDivisor cX4_commonDivisor 11 (some .long) :: ([.methodLink RX4 149 Lib.MathLoose.max_long.x, .static Lib.MathLoose.max_long.x, .initialized "java/lang/Math", .code Lib.MathLoose.max_long.x Lib.MathLoose.max_long.code 4 (some .long)])
def wsX4_quotient : List Cond := .code yX4_quotient cX4_quotient 4 (some .long) :: ([])
def wsX4_findScales : List Cond := .code yX4_findScales cX4_findScales 5 none :: ([.fieldLink RX4 77 "HeavyRoutes$Rater" "valueScale" "J", .fieldLink RX4 81 "HeavyRoutes$Rater" "gapScale" "J", .fieldLink RX4 32 "HeavyRoutes$Rater" "valueFactors" "[J", .fieldLink RX4 35 "HeavyRoutes$Rater" "gapFactors" "[J", .methodLink RX4 87 yX4_commonDivisor, .static yX4_commonDivisor, .initialized RX4, .code yX4_commonDivisor cX4_commonDivisor 11 (some .long), .methodLink RX4 149 Lib.MathLoose.max_long.x, .static Lib.MathLoose.max_long.x, .initialized "java/lang/Math", .code Lib.MathLoose.max_long.x Lib.MathLoose.max_long.code 4 (some .long), .methodLink RX4 91 yX4_quotient, .static yX4_quotient, .code yX4_quotient cX4_quotient 4 (some .long), .methodLink RX4 94 yX0_gapBehind, .instanceMethod yX0_gapBehind, .selects RX0 yX0_gapBehind yX0_gapBehind, .initialized RX0, .code yX0_gapBehind cX0_gapBehind 2 (some .long), .fieldLink RX0 28 "HeavyRoutes$Bridge" "cornerCount" "I", .fieldLink RX0 9 "HeavyRoutes$Bridge" "at" "[J"] ++ wsX40 ++ wsX00)
def wsX4_shareOut : List Cond := .code yX4_shareOut cX4_shareOut 13 none :: ([.fieldLink RX4 28 "HeavyRoutes$Rater" "shares" "[J", .fieldLink RX4 81 "HeavyRoutes$Rater" "gapScale" "J", .methodLink RX4 94 yX0_gapBehind, .instanceMethod yX0_gapBehind, .selects RX0 yX0_gapBehind yX0_gapBehind, .initialized RX0, .code yX0_gapBehind cX0_gapBehind 2 (some .long), .fieldLink RX0 28 "HeavyRoutes$Bridge" "cornerCount" "I", .fieldLink RX0 9 "HeavyRoutes$Bridge" "at" "[J", .methodLink RX4 91 yX4_quotient, .static yX4_quotient, .initialized RX4, .code yX4_quotient cX4_quotient 4 (some .long)] ++ wsX00 ++ wsX40)
def wsX8_addShifted : List Cond := .code yX8_addShifted cX8_addShifted 13 none :: ([.fieldLink RX8 9 "HeavyRoutes$Wide" "limbs" "[J", .constantLong RX8 13 (1000000000)] ++ wsX80)
def wsX8_addProduct : List Cond := .code yX8_addProduct cX8_addProduct 8 none :: ([.constantLong RX8 13 (1000000000), .methodLink RX8 15 yX8_addShifted, .instanceMethod yX8_addShifted, .selects RX8 yX8_addShifted yX8_addShifted, .initialized RX8, .code yX8_addShifted cX8_addShifted 13 none, .fieldLink RX8 9 "HeavyRoutes$Wide" "limbs" "[J"] ++ wsX80)
def wsX8_compareWith : List Cond := .code yX8_compareWith cX8_compareWith 3 (some .int) :: ([.fieldLink RX8 9 "HeavyRoutes$Wide" "limbs" "[J"] ++ wsX80)
def wsX8_subtract : List Cond := .code yX8_subtract cX8_subtract 7 none :: ([.fieldLink RX8 9 "HeavyRoutes$Wide" "limbs" "[J", .constantLong RX8 13 (1000000000)] ++ wsX80)
def wsX8_copyFrom : List Cond := .code yX8_copyFrom cX8_copyFrom 3 none :: ([.fieldLink RX8 9 "HeavyRoutes$Wide" "limbs" "[J"] ++ wsX80)
def wsX4_takeGreater_r1 : List Cond := [Cond.fieldLink RX4 28 "HeavyRoutes$Rater" "shares" "[J", Cond.fieldLink RX4 12 "HeavyRoutes$Rater" "raising" "LHeavyRoutes$Wide;", Cond.fieldLink RX4 18 "HeavyRoutes$Rater" "lowering" "LHeavyRoutes$Wide;", Cond.methodLink RX4 108 Lib.MathLoose.abs_long.x, Cond.static Lib.MathLoose.abs_long.x, Cond.initialized "java/lang/Math", Cond.code Lib.MathLoose.abs_long.x Lib.MathLoose.abs_long.code 2 (some .long), Cond.fieldLink RX4 77 "HeavyRoutes$Rater" "valueScale" "J", Cond.methodLink RX4 101 yX4_shareOut, Cond.instanceMethod yX4_shareOut, Cond.selects RX4 yX4_shareOut yX4_shareOut, Cond.initialized RX4, Cond.code yX4_shareOut cX4_shareOut 13 none, Cond.fieldLink RX4 81 "HeavyRoutes$Rater" "gapScale" "J", Cond.methodLink RX4 94 yX0_gapBehind, Cond.instanceMethod yX0_gapBehind, Cond.selects RX0 yX0_gapBehind yX0_gapBehind, Cond.initialized RX0, Cond.code yX0_gapBehind cX0_gapBehind 2 (some .long), Cond.fieldLink RX0 28 "HeavyRoutes$Bridge" "cornerCount" "I", Cond.fieldLink RX0 9 "HeavyRoutes$Bridge" "at" "[J", Cond.methodLink RX4 91 yX4_quotient, Cond.static yX4_quotient, Cond.code yX4_quotient cX4_quotient 4 (some .long)]
def wsX4_takeGreater_r2 : List Cond := [Cond.methodLink RX4 41 yX8_setTo, Cond.instanceMethod yX8_setTo, Cond.selects RX8 yX8_setTo yX8_setTo, Cond.initialized RX8, Cond.code yX8_setTo cX8_setTo 4 none, Cond.fieldLink RX8 9 "HeavyRoutes$Wide" "limbs" "[J", Cond.methodLink RX4 114 yX8_addProduct, Cond.instanceMethod yX8_addProduct, Cond.selects RX8 yX8_addProduct yX8_addProduct, Cond.code yX8_addProduct cX8_addProduct 8 none, Cond.constantLong RX8 13 (1000000000), Cond.methodLink RX8 15 yX8_addShifted, Cond.instanceMethod yX8_addShifted, Cond.selects RX8 yX8_addShifted yX8_addShifted, Cond.code yX8_addShifted cX8_addShifted 13 none, Cond.methodLink RX4 118 yX8_compareWith, Cond.instanceMethod yX8_compareWith, Cond.selects RX8 yX8_compareWith yX8_compareWith, Cond.code yX8_compareWith cX8_compareWith 3 (some .int), Cond.methodLink RX4 122 yX8_subtract, Cond.instanceMethod yX8_subtract, Cond.selects RX8 yX8_subtract yX8_subtract, Cond.code yX8_subtract cX8_subtract 7 none, Cond.methodLink RX4 126 yX8_copyFrom]
def wsX4_takeGreater_r3 : List Cond := [Cond.instanceMethod yX8_copyFrom, Cond.selects RX8 yX8_copyFrom yX8_copyFrom, Cond.code yX8_copyFrom cX8_copyFrom 3 none]
def wsX4_takeGreater : List Cond := .code yX4_takeGreater cX4_takeGreater 9 none :: ((wsX4_takeGreater_r1 ++ (wsX4_takeGreater_r2 ++ wsX4_takeGreater_r3)) ++ wsX40 ++ wsX20 ++ wsX00 ++ wsX80)
def wsX8_remainder : List Cond := .code yX8_remainder cX8_remainder 6 (some .long) :: ([.constantLong RX8 13 (1000000000), .fieldLink RX8 9 "HeavyRoutes$Wide" "limbs" "[J"] ++ wsX80)
def wsX8_divide : List Cond := .code yX8_divide cX8_divide 8 none :: ([.constantLong RX8 13 (1000000000), .fieldLink RX8 9 "HeavyRoutes$Wide" "limbs" "[J"] ++ wsX80)
def wsX8_multiply : List Cond := .code yX8_multiply cX8_multiply 8 none :: ([.fieldLink RX8 9 "HeavyRoutes$Wide" "limbs" "[J", .constantLong RX8 13 (1000000000)] ++ wsX80)
def wsX4_reduce_r1 : List Cond := [Cond.methodLink RX4 129 yX8_remainder, Cond.instanceMethod yX8_remainder, Cond.selects RX8 yX8_remainder yX8_remainder, Cond.initialized RX8, Cond.code yX8_remainder cX8_remainder 6 (some .long), Cond.constantLong RX8 13 (1000000000), Cond.fieldLink RX8 9 "HeavyRoutes$Wide" "limbs" "[J", Cond.methodLink RX4 87 yX4_commonDivisor, Cond.static yX4_commonDivisor, Cond.initialized RX4, Cond.code yX4_commonDivisor cX4_commonDivisor 11 (some .long), Cond.methodLink RX4 149 Lib.MathLoose.max_long.x, Cond.static Lib.MathLoose.max_long.x, Cond.initialized "java/lang/Math", Cond.code Lib.MathLoose.max_long.x Lib.MathLoose.max_long.code 4 (some .long), Cond.methodLink RX4 132 yX8_divide, Cond.instanceMethod yX8_divide, Cond.selects RX8 yX8_divide yX8_divide, Cond.code yX8_divide cX8_divide 8 none, Cond.methodLink RX4 91 yX4_quotient, Cond.static yX4_quotient, Cond.code yX4_quotient cX4_quotient 4 (some .long), Cond.methodLink RX4 135 yX8_multiply, Cond.instanceMethod yX8_multiply]
def wsX4_reduce_r2 : List Cond := [Cond.selects RX8 yX8_multiply yX8_multiply, Cond.code yX8_multiply cX8_multiply 8 none]
def wsX4_reduce : List Cond := .code yX4_reduce cX4_reduce 6 none :: ((wsX4_reduce_r1 ++ wsX4_reduce_r2) ++ wsX50 ++ wsX80)
def wsX4_rate_r1 : List Cond := [Cond.fieldLink RX4 32 "HeavyRoutes$Rater" "valueFactors" "[J", Cond.fieldLink RX4 35 "HeavyRoutes$Rater" "gapFactors" "[J", Cond.methodLink RX4 41 yX8_setTo, Cond.instanceMethod yX8_setTo, Cond.selects RX8 yX8_setTo yX8_setTo, Cond.initialized RX8, Cond.code yX8_setTo cX8_setTo 4 none, Cond.fieldLink RX8 9 "HeavyRoutes$Wide" "limbs" "[J", Cond.methodLink RX4 48 yX4_findScales, Cond.instanceMethod yX4_findScales, Cond.selects RX4 yX4_findScales yX4_findScales, Cond.initialized RX4, Cond.code yX4_findScales cX4_findScales 5 none, Cond.fieldLink RX4 77 "HeavyRoutes$Rater" "valueScale" "J", Cond.fieldLink RX4 81 "HeavyRoutes$Rater" "gapScale" "J", Cond.methodLink RX4 87 yX4_commonDivisor, Cond.static yX4_commonDivisor, Cond.code yX4_commonDivisor cX4_commonDivisor 11 (some .long), Cond.methodLink RX4 149 Lib.MathLoose.max_long.x, Cond.static Lib.MathLoose.max_long.x, Cond.initialized "java/lang/Math", Cond.code Lib.MathLoose.max_long.x Lib.MathLoose.max_long.code 4 (some .long), Cond.methodLink RX4 91 yX4_quotient, Cond.static yX4_quotient]
def wsX4_rate_r2 : List Cond := [Cond.code yX4_quotient cX4_quotient 4 (some .long), Cond.methodLink RX4 94 yX0_gapBehind, Cond.instanceMethod yX0_gapBehind, Cond.selects RX0 yX0_gapBehind yX0_gapBehind, Cond.initialized RX0, Cond.code yX0_gapBehind cX0_gapBehind 2 (some .long), Cond.fieldLink RX0 28 "HeavyRoutes$Bridge" "cornerCount" "I", Cond.fieldLink RX0 9 "HeavyRoutes$Bridge" "at" "[J", Cond.methodLink RX4 69 yX4_takeGreater, Cond.instanceMethod yX4_takeGreater, Cond.selects RX4 yX4_takeGreater yX4_takeGreater, Cond.code yX4_takeGreater cX4_takeGreater 9 none, Cond.fieldLink RX4 28 "HeavyRoutes$Rater" "shares" "[J", Cond.fieldLink RX4 12 "HeavyRoutes$Rater" "raising" "LHeavyRoutes$Wide;", Cond.fieldLink RX4 18 "HeavyRoutes$Rater" "lowering" "LHeavyRoutes$Wide;", Cond.methodLink RX4 108 Lib.MathLoose.abs_long.x, Cond.static Lib.MathLoose.abs_long.x, Cond.code Lib.MathLoose.abs_long.x Lib.MathLoose.abs_long.code 2 (some .long), Cond.methodLink RX4 101 yX4_shareOut, Cond.instanceMethod yX4_shareOut, Cond.selects RX4 yX4_shareOut yX4_shareOut, Cond.code yX4_shareOut cX4_shareOut 13 none, Cond.methodLink RX4 114 yX8_addProduct, Cond.instanceMethod yX8_addProduct]
def wsX4_rate_r3 : List Cond := [Cond.selects RX8 yX8_addProduct yX8_addProduct, Cond.code yX8_addProduct cX8_addProduct 8 none, Cond.constantLong RX8 13 (1000000000), Cond.methodLink RX8 15 yX8_addShifted, Cond.instanceMethod yX8_addShifted, Cond.selects RX8 yX8_addShifted yX8_addShifted, Cond.code yX8_addShifted cX8_addShifted 13 none, Cond.methodLink RX4 118 yX8_compareWith, Cond.instanceMethod yX8_compareWith, Cond.selects RX8 yX8_compareWith yX8_compareWith, Cond.code yX8_compareWith cX8_compareWith 3 (some .int), Cond.methodLink RX4 122 yX8_subtract, Cond.instanceMethod yX8_subtract, Cond.selects RX8 yX8_subtract yX8_subtract, Cond.code yX8_subtract cX8_subtract 7 none, Cond.methodLink RX4 126 yX8_copyFrom, Cond.instanceMethod yX8_copyFrom, Cond.selects RX8 yX8_copyFrom yX8_copyFrom, Cond.code yX8_copyFrom cX8_copyFrom 3 none, Cond.methodLink RX4 73 yX4_reduce, Cond.static yX4_reduce, Cond.code yX4_reduce cX4_reduce 6 none, Cond.methodLink RX4 129 yX8_remainder, Cond.instanceMethod yX8_remainder]
def wsX4_rate_r4 : List Cond := [Cond.selects RX8 yX8_remainder yX8_remainder, Cond.code yX8_remainder cX8_remainder 6 (some .long), Cond.methodLink RX4 132 yX8_divide, Cond.instanceMethod yX8_divide, Cond.selects RX8 yX8_divide yX8_divide, Cond.code yX8_divide cX8_divide 8 none, Cond.methodLink RX4 135 yX8_multiply, Cond.instanceMethod yX8_multiply, Cond.selects RX8 yX8_multiply yX8_multiply, Cond.code yX8_multiply cX8_multiply 8 none]
def wsX4_rate : List Cond := .code yX4_rate cX4_rate 6 none :: ((wsX4_rate_r1 ++ (wsX4_rate_r2 ++ (wsX4_rate_r3 ++ wsX4_rate_r4))) ++ wsX50 ++ wsX20 ++ wsX00 ++ wsX40 ++ wsX80)
def wsX4_isAbove : List Cond := .code yX4_isAbove cX4_isAbove 6 (some .boolean) :: ([.fieldLink RX4 12 "HeavyRoutes$Rater" "raising" "LHeavyRoutes$Wide;", .fieldLink RX4 18 "HeavyRoutes$Rater" "lowering" "LHeavyRoutes$Wide;", .methodLink RX4 126 yX8_copyFrom, .instanceMethod yX8_copyFrom, .selects RX8 yX8_copyFrom yX8_copyFrom, .initialized RX8, .code yX8_copyFrom cX8_copyFrom 3 none, .fieldLink RX8 9 "HeavyRoutes$Wide" "limbs" "[J", .methodLink RX4 135 yX8_multiply, .instanceMethod yX8_multiply, .selects RX8 yX8_multiply yX8_multiply, .code yX8_multiply cX8_multiply 8 none, .constantLong RX8 13 (1000000000), .methodLink RX4 118 yX8_compareWith, .instanceMethod yX8_compareWith, .selects RX8 yX8_compareWith yX8_compareWith, .code yX8_compareWith cX8_compareWith 3 (some .int)] ++ wsX40 ++ wsX50 ++ wsX80)
def wsX3_rateBridge_r1 : List Cond := [Cond.fieldLink RX3 19 "HeavyRoutes$Net" "bridges" "[LHeavyRoutes$Bridge;", Cond.fieldLink RX3 33 "HeavyRoutes$Net" "rater" "LHeavyRoutes$Rater;", Cond.fieldLink RX3 26 "HeavyRoutes$Net" "journey" "LHeavyRoutes$Journey;", Cond.constantLong RX3 65 (3), Cond.constantLong RX3 67 (4), Cond.methodLink RX3 53 yX4_rate, Cond.instanceMethod yX4_rate, Cond.selects RX4 yX4_rate yX4_rate, Cond.initialized RX4, Cond.code yX4_rate cX4_rate 6 none, Cond.fieldLink RX4 32 "HeavyRoutes$Rater" "valueFactors" "[J", Cond.fieldLink RX4 35 "HeavyRoutes$Rater" "gapFactors" "[J", Cond.methodLink RX4 41 yX8_setTo, Cond.instanceMethod yX8_setTo, Cond.selects RX8 yX8_setTo yX8_setTo, Cond.initialized RX8, Cond.code yX8_setTo cX8_setTo 4 none, Cond.fieldLink RX8 9 "HeavyRoutes$Wide" "limbs" "[J", Cond.methodLink RX4 48 yX4_findScales, Cond.instanceMethod yX4_findScales, Cond.selects RX4 yX4_findScales yX4_findScales, Cond.code yX4_findScales cX4_findScales 5 none, Cond.fieldLink RX4 77 "HeavyRoutes$Rater" "valueScale" "J", Cond.fieldLink RX4 81 "HeavyRoutes$Rater" "gapScale" "J"]
def wsX3_rateBridge_r2 : List Cond := [Cond.methodLink RX4 87 yX4_commonDivisor, Cond.static yX4_commonDivisor, Cond.code yX4_commonDivisor cX4_commonDivisor 11 (some .long), Cond.methodLink RX4 149 Lib.MathLoose.max_long.x, Cond.static Lib.MathLoose.max_long.x, Cond.initialized "java/lang/Math", Cond.code Lib.MathLoose.max_long.x Lib.MathLoose.max_long.code 4 (some .long), Cond.methodLink RX4 91 yX4_quotient, Cond.static yX4_quotient, Cond.code yX4_quotient cX4_quotient 4 (some .long), Cond.methodLink RX4 94 yX0_gapBehind, Cond.instanceMethod yX0_gapBehind, Cond.selects RX0 yX0_gapBehind yX0_gapBehind, Cond.initialized RX0, Cond.code yX0_gapBehind cX0_gapBehind 2 (some .long), Cond.fieldLink RX0 28 "HeavyRoutes$Bridge" "cornerCount" "I", Cond.fieldLink RX0 9 "HeavyRoutes$Bridge" "at" "[J", Cond.methodLink RX4 69 yX4_takeGreater, Cond.instanceMethod yX4_takeGreater, Cond.selects RX4 yX4_takeGreater yX4_takeGreater, Cond.code yX4_takeGreater cX4_takeGreater 9 none, Cond.fieldLink RX4 28 "HeavyRoutes$Rater" "shares" "[J", Cond.fieldLink RX4 12 "HeavyRoutes$Rater" "raising" "LHeavyRoutes$Wide;", Cond.fieldLink RX4 18 "HeavyRoutes$Rater" "lowering" "LHeavyRoutes$Wide;"]
def wsX3_rateBridge_r3 : List Cond := [Cond.methodLink RX4 108 Lib.MathLoose.abs_long.x, Cond.static Lib.MathLoose.abs_long.x, Cond.code Lib.MathLoose.abs_long.x Lib.MathLoose.abs_long.code 2 (some .long), Cond.methodLink RX4 101 yX4_shareOut, Cond.instanceMethod yX4_shareOut, Cond.selects RX4 yX4_shareOut yX4_shareOut, Cond.code yX4_shareOut cX4_shareOut 13 none, Cond.methodLink RX4 114 yX8_addProduct, Cond.instanceMethod yX8_addProduct, Cond.selects RX8 yX8_addProduct yX8_addProduct, Cond.code yX8_addProduct cX8_addProduct 8 none, Cond.constantLong RX8 13 (1000000000), Cond.methodLink RX8 15 yX8_addShifted, Cond.instanceMethod yX8_addShifted, Cond.selects RX8 yX8_addShifted yX8_addShifted, Cond.code yX8_addShifted cX8_addShifted 13 none, Cond.methodLink RX4 118 yX8_compareWith, Cond.instanceMethod yX8_compareWith, Cond.selects RX8 yX8_compareWith yX8_compareWith, Cond.code yX8_compareWith cX8_compareWith 3 (some .int), Cond.methodLink RX4 122 yX8_subtract, Cond.instanceMethod yX8_subtract, Cond.selects RX8 yX8_subtract yX8_subtract, Cond.code yX8_subtract cX8_subtract 7 none]
def wsX3_rateBridge_r4 : List Cond := [Cond.methodLink RX4 126 yX8_copyFrom, Cond.instanceMethod yX8_copyFrom, Cond.selects RX8 yX8_copyFrom yX8_copyFrom, Cond.code yX8_copyFrom cX8_copyFrom 3 none, Cond.methodLink RX4 73 yX4_reduce, Cond.static yX4_reduce, Cond.code yX4_reduce cX4_reduce 6 none, Cond.methodLink RX4 129 yX8_remainder, Cond.instanceMethod yX8_remainder, Cond.selects RX8 yX8_remainder yX8_remainder, Cond.code yX8_remainder cX8_remainder 6 (some .long), Cond.methodLink RX4 132 yX8_divide, Cond.instanceMethod yX8_divide, Cond.selects RX8 yX8_divide yX8_divide, Cond.code yX8_divide cX8_divide 8 none, Cond.methodLink RX4 135 yX8_multiply, Cond.instanceMethod yX8_multiply, Cond.selects RX8 yX8_multiply yX8_multiply, Cond.code yX8_multiply cX8_multiply 8 none, Cond.methodLink RX3 57 yX4_isAbove, Cond.instanceMethod yX4_isAbove, Cond.selects RX4 yX4_isAbove yX4_isAbove, Cond.code yX4_isAbove cX4_isAbove 6 (some .boolean)]
def wsX3_rateBridge : List Cond := .code yX3_rateBridge cX3_rateBridge 3 none :: ((wsX3_rateBridge_r1 ++ (wsX3_rateBridge_r2 ++ (wsX3_rateBridge_r3 ++ wsX3_rateBridge_r4))) ++ wsX30 ++ wsX00 ++ wsX50 ++ wsX20 ++ wsX40 ++ wsX80)
def wsX3_rateAllBridges_r1 : List Cond := [Cond.fieldLink RX3 46 "HeavyRoutes$Net" "bridgeCount" "I", Cond.methodLink RX3 72 yX3_rateBridge, Cond.instanceMethod yX3_rateBridge, Cond.selects RX3 yX3_rateBridge yX3_rateBridge, Cond.initialized RX3, Cond.code yX3_rateBridge cX3_rateBridge 3 none, Cond.fieldLink RX3 19 "HeavyRoutes$Net" "bridges" "[LHeavyRoutes$Bridge;", Cond.fieldLink RX3 33 "HeavyRoutes$Net" "rater" "LHeavyRoutes$Rater;", Cond.fieldLink RX3 26 "HeavyRoutes$Net" "journey" "LHeavyRoutes$Journey;", Cond.constantLong RX3 65 (3), Cond.constantLong RX3 67 (4), Cond.methodLink RX3 53 yX4_rate, Cond.instanceMethod yX4_rate, Cond.selects RX4 yX4_rate yX4_rate, Cond.initialized RX4, Cond.code yX4_rate cX4_rate 6 none, Cond.fieldLink RX4 32 "HeavyRoutes$Rater" "valueFactors" "[J", Cond.fieldLink RX4 35 "HeavyRoutes$Rater" "gapFactors" "[J", Cond.methodLink RX4 41 yX8_setTo, Cond.instanceMethod yX8_setTo, Cond.selects RX8 yX8_setTo yX8_setTo, Cond.initialized RX8, Cond.code yX8_setTo cX8_setTo 4 none, Cond.fieldLink RX8 9 "HeavyRoutes$Wide" "limbs" "[J"]
def wsX3_rateAllBridges_r2 : List Cond := [Cond.methodLink RX4 48 yX4_findScales, Cond.instanceMethod yX4_findScales, Cond.selects RX4 yX4_findScales yX4_findScales, Cond.code yX4_findScales cX4_findScales 5 none, Cond.fieldLink RX4 77 "HeavyRoutes$Rater" "valueScale" "J", Cond.fieldLink RX4 81 "HeavyRoutes$Rater" "gapScale" "J", Cond.methodLink RX4 87 yX4_commonDivisor, Cond.static yX4_commonDivisor, Cond.code yX4_commonDivisor cX4_commonDivisor 11 (some .long), Cond.methodLink RX4 149 Lib.MathLoose.max_long.x, Cond.static Lib.MathLoose.max_long.x, Cond.initialized "java/lang/Math", Cond.code Lib.MathLoose.max_long.x Lib.MathLoose.max_long.code 4 (some .long), Cond.methodLink RX4 91 yX4_quotient, Cond.static yX4_quotient, Cond.code yX4_quotient cX4_quotient 4 (some .long), Cond.methodLink RX4 94 yX0_gapBehind, Cond.instanceMethod yX0_gapBehind, Cond.selects RX0 yX0_gapBehind yX0_gapBehind, Cond.initialized RX0, Cond.code yX0_gapBehind cX0_gapBehind 2 (some .long), Cond.fieldLink RX0 28 "HeavyRoutes$Bridge" "cornerCount" "I", Cond.fieldLink RX0 9 "HeavyRoutes$Bridge" "at" "[J", Cond.methodLink RX4 69 yX4_takeGreater]
def wsX3_rateAllBridges_r3 : List Cond := [Cond.instanceMethod yX4_takeGreater, Cond.selects RX4 yX4_takeGreater yX4_takeGreater, Cond.code yX4_takeGreater cX4_takeGreater 9 none, Cond.fieldLink RX4 28 "HeavyRoutes$Rater" "shares" "[J", Cond.fieldLink RX4 12 "HeavyRoutes$Rater" "raising" "LHeavyRoutes$Wide;", Cond.fieldLink RX4 18 "HeavyRoutes$Rater" "lowering" "LHeavyRoutes$Wide;", Cond.methodLink RX4 108 Lib.MathLoose.abs_long.x, Cond.static Lib.MathLoose.abs_long.x, Cond.code Lib.MathLoose.abs_long.x Lib.MathLoose.abs_long.code 2 (some .long), Cond.methodLink RX4 101 yX4_shareOut, Cond.instanceMethod yX4_shareOut, Cond.selects RX4 yX4_shareOut yX4_shareOut, Cond.code yX4_shareOut cX4_shareOut 13 none, Cond.methodLink RX4 114 yX8_addProduct, Cond.instanceMethod yX8_addProduct, Cond.selects RX8 yX8_addProduct yX8_addProduct, Cond.code yX8_addProduct cX8_addProduct 8 none, Cond.constantLong RX8 13 (1000000000), Cond.methodLink RX8 15 yX8_addShifted, Cond.instanceMethod yX8_addShifted, Cond.selects RX8 yX8_addShifted yX8_addShifted, Cond.code yX8_addShifted cX8_addShifted 13 none, Cond.methodLink RX4 118 yX8_compareWith, Cond.instanceMethod yX8_compareWith]
def wsX3_rateAllBridges_r4 : List Cond := [Cond.selects RX8 yX8_compareWith yX8_compareWith, Cond.code yX8_compareWith cX8_compareWith 3 (some .int), Cond.methodLink RX4 122 yX8_subtract, Cond.instanceMethod yX8_subtract, Cond.selects RX8 yX8_subtract yX8_subtract, Cond.code yX8_subtract cX8_subtract 7 none, Cond.methodLink RX4 126 yX8_copyFrom, Cond.instanceMethod yX8_copyFrom, Cond.selects RX8 yX8_copyFrom yX8_copyFrom, Cond.code yX8_copyFrom cX8_copyFrom 3 none, Cond.methodLink RX4 73 yX4_reduce, Cond.static yX4_reduce, Cond.code yX4_reduce cX4_reduce 6 none, Cond.methodLink RX4 129 yX8_remainder, Cond.instanceMethod yX8_remainder, Cond.selects RX8 yX8_remainder yX8_remainder, Cond.code yX8_remainder cX8_remainder 6 (some .long), Cond.methodLink RX4 132 yX8_divide, Cond.instanceMethod yX8_divide, Cond.selects RX8 yX8_divide yX8_divide, Cond.code yX8_divide cX8_divide 8 none, Cond.methodLink RX4 135 yX8_multiply, Cond.instanceMethod yX8_multiply, Cond.selects RX8 yX8_multiply yX8_multiply]
def wsX3_rateAllBridges_r5 : List Cond := [Cond.code yX8_multiply cX8_multiply 8 none, Cond.methodLink RX3 57 yX4_isAbove, Cond.instanceMethod yX4_isAbove, Cond.selects RX4 yX4_isAbove yX4_isAbove, Cond.code yX4_isAbove cX4_isAbove 6 (some .boolean)]
def wsX3_rateAllBridges : List Cond := .code yX3_rateAllBridges cX3_rateAllBridges 2 none :: ((wsX3_rateAllBridges_r1 ++ (wsX3_rateAllBridges_r2 ++ (wsX3_rateAllBridges_r3 ++ (wsX3_rateAllBridges_r4 ++ wsX3_rateAllBridges_r5)))) ++ wsX30 ++ wsX00 ++ wsX50 ++ wsX20 ++ wsX40 ++ wsX80)
def wsX5_isSameAs : List Cond := .code yX5_isSameAs cX5_isSameAs 2 (some .boolean) :: ([.fieldLink RX5 10 "HeavyRoutes$Rating" "upper" "LHeavyRoutes$Wide;", .fieldLink RX5 16 "HeavyRoutes$Rating" "lower" "LHeavyRoutes$Wide;", .methodLink RX5 23 yX8_compareWith, .instanceMethod yX8_compareWith, .selects RX8 yX8_compareWith yX8_compareWith, .initialized RX8, .code yX8_compareWith cX8_compareWith 3 (some .int), .fieldLink RX8 9 "HeavyRoutes$Wide" "limbs" "[J"] ++ wsX50 ++ wsX80)
def wsX4_isStillRight_r1 : List Cond := [Cond.fieldLink RX4 24 "HeavyRoutes$Rater" "anew" "LHeavyRoutes$Rating;", Cond.methodLink RX4 138 yX4_rate, Cond.instanceMethod yX4_rate, Cond.selects RX4 yX4_rate yX4_rate, Cond.initialized RX4, Cond.code yX4_rate cX4_rate 6 none, Cond.fieldLink RX4 32 "HeavyRoutes$Rater" "valueFactors" "[J", Cond.fieldLink RX4 35 "HeavyRoutes$Rater" "gapFactors" "[J", Cond.methodLink RX4 41 yX8_setTo, Cond.instanceMethod yX8_setTo, Cond.selects RX8 yX8_setTo yX8_setTo, Cond.initialized RX8, Cond.code yX8_setTo cX8_setTo 4 none, Cond.fieldLink RX8 9 "HeavyRoutes$Wide" "limbs" "[J", Cond.methodLink RX4 48 yX4_findScales, Cond.instanceMethod yX4_findScales, Cond.selects RX4 yX4_findScales yX4_findScales, Cond.code yX4_findScales cX4_findScales 5 none, Cond.fieldLink RX4 77 "HeavyRoutes$Rater" "valueScale" "J", Cond.fieldLink RX4 81 "HeavyRoutes$Rater" "gapScale" "J", Cond.methodLink RX4 87 yX4_commonDivisor, Cond.static yX4_commonDivisor, Cond.code yX4_commonDivisor cX4_commonDivisor 11 (some .long), Cond.methodLink RX4 149 Lib.MathLoose.max_long.x]
def wsX4_isStillRight_r2 : List Cond := [Cond.static Lib.MathLoose.max_long.x, Cond.initialized "java/lang/Math", Cond.code Lib.MathLoose.max_long.x Lib.MathLoose.max_long.code 4 (some .long), Cond.methodLink RX4 91 yX4_quotient, Cond.static yX4_quotient, Cond.code yX4_quotient cX4_quotient 4 (some .long), Cond.methodLink RX4 94 yX0_gapBehind, Cond.instanceMethod yX0_gapBehind, Cond.selects RX0 yX0_gapBehind yX0_gapBehind, Cond.initialized RX0, Cond.code yX0_gapBehind cX0_gapBehind 2 (some .long), Cond.fieldLink RX0 28 "HeavyRoutes$Bridge" "cornerCount" "I", Cond.fieldLink RX0 9 "HeavyRoutes$Bridge" "at" "[J", Cond.methodLink RX4 69 yX4_takeGreater, Cond.instanceMethod yX4_takeGreater, Cond.selects RX4 yX4_takeGreater yX4_takeGreater, Cond.code yX4_takeGreater cX4_takeGreater 9 none, Cond.fieldLink RX4 28 "HeavyRoutes$Rater" "shares" "[J", Cond.fieldLink RX4 12 "HeavyRoutes$Rater" "raising" "LHeavyRoutes$Wide;", Cond.fieldLink RX4 18 "HeavyRoutes$Rater" "lowering" "LHeavyRoutes$Wide;", Cond.methodLink RX4 108 Lib.MathLoose.abs_long.x, Cond.static Lib.MathLoose.abs_long.x, Cond.code Lib.MathLoose.abs_long.x Lib.MathLoose.abs_long.code 2 (some .long), Cond.methodLink RX4 101 yX4_shareOut]
def wsX4_isStillRight_r3 : List Cond := [Cond.instanceMethod yX4_shareOut, Cond.selects RX4 yX4_shareOut yX4_shareOut, Cond.code yX4_shareOut cX4_shareOut 13 none, Cond.methodLink RX4 114 yX8_addProduct, Cond.instanceMethod yX8_addProduct, Cond.selects RX8 yX8_addProduct yX8_addProduct, Cond.code yX8_addProduct cX8_addProduct 8 none, Cond.constantLong RX8 13 (1000000000), Cond.methodLink RX8 15 yX8_addShifted, Cond.instanceMethod yX8_addShifted, Cond.selects RX8 yX8_addShifted yX8_addShifted, Cond.code yX8_addShifted cX8_addShifted 13 none, Cond.methodLink RX4 118 yX8_compareWith, Cond.instanceMethod yX8_compareWith, Cond.selects RX8 yX8_compareWith yX8_compareWith, Cond.code yX8_compareWith cX8_compareWith 3 (some .int), Cond.methodLink RX4 122 yX8_subtract, Cond.instanceMethod yX8_subtract, Cond.selects RX8 yX8_subtract yX8_subtract, Cond.code yX8_subtract cX8_subtract 7 none, Cond.methodLink RX4 126 yX8_copyFrom, Cond.instanceMethod yX8_copyFrom, Cond.selects RX8 yX8_copyFrom yX8_copyFrom, Cond.code yX8_copyFrom cX8_copyFrom 3 none]
def wsX4_isStillRight_r4 : List Cond := [Cond.methodLink RX4 73 yX4_reduce, Cond.static yX4_reduce, Cond.code yX4_reduce cX4_reduce 6 none, Cond.methodLink RX4 129 yX8_remainder, Cond.instanceMethod yX8_remainder, Cond.selects RX8 yX8_remainder yX8_remainder, Cond.code yX8_remainder cX8_remainder 6 (some .long), Cond.methodLink RX4 132 yX8_divide, Cond.instanceMethod yX8_divide, Cond.selects RX8 yX8_divide yX8_divide, Cond.code yX8_divide cX8_divide 8 none, Cond.methodLink RX4 135 yX8_multiply, Cond.instanceMethod yX8_multiply, Cond.selects RX8 yX8_multiply yX8_multiply, Cond.code yX8_multiply cX8_multiply 8 none, Cond.methodLink RX4 145 yX5_isSameAs, Cond.instanceMethod yX5_isSameAs, Cond.selects RX5 yX5_isSameAs yX5_isSameAs, Cond.initialized RX5, Cond.code yX5_isSameAs cX5_isSameAs 2 (some .boolean), Cond.fieldLink RX5 10 "HeavyRoutes$Rating" "upper" "LHeavyRoutes$Wide;", Cond.fieldLink RX5 16 "HeavyRoutes$Rating" "lower" "LHeavyRoutes$Wide;", Cond.methodLink RX5 23 yX8_compareWith]
def wsX4_isStillRight : List Cond := .code yX4_isStillRight cX4_isStillRight 3 (some .boolean) :: ((wsX4_isStillRight_r1 ++ (wsX4_isStillRight_r2 ++ (wsX4_isStillRight_r3 ++ wsX4_isStillRight_r4))) ++ wsX40 ++ wsX00 ++ wsX50 ++ wsX20 ++ wsX80)
def wsX3_isKeptRatingTrue_r1 : List Cond := [Cond.fieldLink RX3 33 "HeavyRoutes$Net" "rater" "LHeavyRoutes$Rater;", Cond.fieldLink RX3 19 "HeavyRoutes$Net" "bridges" "[LHeavyRoutes$Bridge;", Cond.fieldLink RX3 26 "HeavyRoutes$Net" "journey" "LHeavyRoutes$Journey;", Cond.methodLink RX3 76 yX4_isStillRight, Cond.instanceMethod yX4_isStillRight, Cond.selects RX4 yX4_isStillRight yX4_isStillRight, Cond.initialized RX4, Cond.code yX4_isStillRight cX4_isStillRight 3 (some .boolean), Cond.fieldLink RX4 24 "HeavyRoutes$Rater" "anew" "LHeavyRoutes$Rating;", Cond.methodLink RX4 138 yX4_rate, Cond.instanceMethod yX4_rate, Cond.selects RX4 yX4_rate yX4_rate, Cond.code yX4_rate cX4_rate 6 none, Cond.fieldLink RX4 32 "HeavyRoutes$Rater" "valueFactors" "[J", Cond.fieldLink RX4 35 "HeavyRoutes$Rater" "gapFactors" "[J", Cond.methodLink RX4 41 yX8_setTo, Cond.instanceMethod yX8_setTo, Cond.selects RX8 yX8_setTo yX8_setTo, Cond.initialized RX8, Cond.code yX8_setTo cX8_setTo 4 none, Cond.fieldLink RX8 9 "HeavyRoutes$Wide" "limbs" "[J", Cond.methodLink RX4 48 yX4_findScales, Cond.instanceMethod yX4_findScales, Cond.selects RX4 yX4_findScales yX4_findScales]
def wsX3_isKeptRatingTrue_r2 : List Cond := [Cond.code yX4_findScales cX4_findScales 5 none, Cond.fieldLink RX4 77 "HeavyRoutes$Rater" "valueScale" "J", Cond.fieldLink RX4 81 "HeavyRoutes$Rater" "gapScale" "J", Cond.methodLink RX4 87 yX4_commonDivisor, Cond.static yX4_commonDivisor, Cond.code yX4_commonDivisor cX4_commonDivisor 11 (some .long), Cond.methodLink RX4 149 Lib.MathLoose.max_long.x, Cond.static Lib.MathLoose.max_long.x, Cond.initialized "java/lang/Math", Cond.code Lib.MathLoose.max_long.x Lib.MathLoose.max_long.code 4 (some .long), Cond.methodLink RX4 91 yX4_quotient, Cond.static yX4_quotient, Cond.code yX4_quotient cX4_quotient 4 (some .long), Cond.methodLink RX4 94 yX0_gapBehind, Cond.instanceMethod yX0_gapBehind, Cond.selects RX0 yX0_gapBehind yX0_gapBehind, Cond.initialized RX0, Cond.code yX0_gapBehind cX0_gapBehind 2 (some .long), Cond.fieldLink RX0 28 "HeavyRoutes$Bridge" "cornerCount" "I", Cond.fieldLink RX0 9 "HeavyRoutes$Bridge" "at" "[J", Cond.methodLink RX4 69 yX4_takeGreater, Cond.instanceMethod yX4_takeGreater, Cond.selects RX4 yX4_takeGreater yX4_takeGreater, Cond.code yX4_takeGreater cX4_takeGreater 9 none]
def wsX3_isKeptRatingTrue_r3 : List Cond := [Cond.fieldLink RX4 28 "HeavyRoutes$Rater" "shares" "[J", Cond.fieldLink RX4 12 "HeavyRoutes$Rater" "raising" "LHeavyRoutes$Wide;", Cond.fieldLink RX4 18 "HeavyRoutes$Rater" "lowering" "LHeavyRoutes$Wide;", Cond.methodLink RX4 108 Lib.MathLoose.abs_long.x, Cond.static Lib.MathLoose.abs_long.x, Cond.code Lib.MathLoose.abs_long.x Lib.MathLoose.abs_long.code 2 (some .long), Cond.methodLink RX4 101 yX4_shareOut, Cond.instanceMethod yX4_shareOut, Cond.selects RX4 yX4_shareOut yX4_shareOut, Cond.code yX4_shareOut cX4_shareOut 13 none, Cond.methodLink RX4 114 yX8_addProduct, Cond.instanceMethod yX8_addProduct, Cond.selects RX8 yX8_addProduct yX8_addProduct, Cond.code yX8_addProduct cX8_addProduct 8 none, Cond.constantLong RX8 13 (1000000000), Cond.methodLink RX8 15 yX8_addShifted, Cond.instanceMethod yX8_addShifted, Cond.selects RX8 yX8_addShifted yX8_addShifted, Cond.code yX8_addShifted cX8_addShifted 13 none, Cond.methodLink RX4 118 yX8_compareWith, Cond.instanceMethod yX8_compareWith, Cond.selects RX8 yX8_compareWith yX8_compareWith, Cond.code yX8_compareWith cX8_compareWith 3 (some .int), Cond.methodLink RX4 122 yX8_subtract]
def wsX3_isKeptRatingTrue_r4 : List Cond := [Cond.instanceMethod yX8_subtract, Cond.selects RX8 yX8_subtract yX8_subtract, Cond.code yX8_subtract cX8_subtract 7 none, Cond.methodLink RX4 126 yX8_copyFrom, Cond.instanceMethod yX8_copyFrom, Cond.selects RX8 yX8_copyFrom yX8_copyFrom, Cond.code yX8_copyFrom cX8_copyFrom 3 none, Cond.methodLink RX4 73 yX4_reduce, Cond.static yX4_reduce, Cond.code yX4_reduce cX4_reduce 6 none, Cond.methodLink RX4 129 yX8_remainder, Cond.instanceMethod yX8_remainder, Cond.selects RX8 yX8_remainder yX8_remainder, Cond.code yX8_remainder cX8_remainder 6 (some .long), Cond.methodLink RX4 132 yX8_divide, Cond.instanceMethod yX8_divide, Cond.selects RX8 yX8_divide yX8_divide, Cond.code yX8_divide cX8_divide 8 none, Cond.methodLink RX4 135 yX8_multiply, Cond.instanceMethod yX8_multiply, Cond.selects RX8 yX8_multiply yX8_multiply, Cond.code yX8_multiply cX8_multiply 8 none, Cond.methodLink RX4 145 yX5_isSameAs, Cond.instanceMethod yX5_isSameAs]
def wsX3_isKeptRatingTrue_r5 : List Cond := [Cond.selects RX5 yX5_isSameAs yX5_isSameAs, Cond.initialized RX5, Cond.code yX5_isSameAs cX5_isSameAs 2 (some .boolean), Cond.fieldLink RX5 10 "HeavyRoutes$Rating" "upper" "LHeavyRoutes$Wide;", Cond.fieldLink RX5 16 "HeavyRoutes$Rating" "lower" "LHeavyRoutes$Wide;", Cond.methodLink RX5 23 yX8_compareWith]
def wsX3_isKeptRatingTrue : List Cond := .code yX3_isKeptRatingTrue cX3_isKeptRatingTrue 2 (some .boolean) :: ((wsX3_isKeptRatingTrue_r1 ++ (wsX3_isKeptRatingTrue_r2 ++ (wsX3_isKeptRatingTrue_r3 ++ (wsX3_isKeptRatingTrue_r4 ++ wsX3_isKeptRatingTrue_r5)))) ++ wsX30 ++ wsX40 ++ wsX00 ++ wsX50 ++ wsX20 ++ wsX80)
def wsX3_wantsEscort : List Cond := .code yX3_wantsEscort cX3_wantsEscort 3 (some .boolean) :: ([.fieldLink RX3 11 "HeavyRoutes$Net" "roads" "[LHeavyRoutes$Road;", .fieldLink RX3 26 "HeavyRoutes$Net" "journey" "LHeavyRoutes$Journey;", .fieldLink RX3 19 "HeavyRoutes$Net" "bridges" "[LHeavyRoutes$Bridge;", .methodLink RX3 94 yX3_hasBridge, .instanceMethod yX3_hasBridge, .selects RX3 yX3_hasBridge yX3_hasBridge, .initialized RX3, .code yX3_hasBridge cX3_hasBridge 2 (some .boolean), .fieldLink RX3 46 "HeavyRoutes$Net" "bridgeCount" "I"] ++ wsX30 ++ wsX60 ++ wsX20 ++ wsX00)
def wsX3_endOfDrive_r1 : List Cond := [Cond.fieldLink RX3 11 "HeavyRoutes$Net" "roads" "[LHeavyRoutes$Road;", Cond.methodLink RX3 112 yX6_earliestStart, Cond.instanceMethod yX6_earliestStart, Cond.selects RX6 yX6_earliestStart yX6_earliestStart, Cond.initialized RX6, Cond.code yX6_earliestStart cX6_earliestStart 5 (some .int), Cond.fieldLink RX6 48 "HeavyRoutes$Road" "barCount" "I", Cond.methodLink RX6 51 yX6_waitAt, Cond.instanceMethod yX6_waitAt, Cond.selects RX6 yX6_waitAt yX6_waitAt, Cond.code yX6_waitAt cX6_waitAt 6 (some .int), Cond.fieldLink RX6 19 "HeavyRoutes$Road" "barTo" "[I", Cond.fieldLink RX6 15 "HeavyRoutes$Road" "barFrom" "[I", Cond.methodLink RX6 54 Lib.Math.max.name, Cond.static Lib.Math.max.name, Cond.initialized "java/lang/Math", Cond.code Lib.Math.max.name Lib.Math.max.code 2 (some .int), Cond.methodLink RX3 116 yX3_endOfRoad, Cond.instanceMethod yX3_endOfRoad, Cond.selects RX3 yX3_endOfRoad yX3_endOfRoad, Cond.initialized RX3, Cond.code yX3_endOfRoad cX3_endOfRoad 5 (some .int), Cond.fieldLink RX3 19 "HeavyRoutes$Net" "bridges" "[LHeavyRoutes$Bridge;", Cond.methodLink RX3 94 yX3_hasBridge]
def wsX3_endOfDrive_r2 : List Cond := [Cond.instanceMethod yX3_hasBridge, Cond.selects RX3 yX3_hasBridge yX3_hasBridge, Cond.code yX3_hasBridge cX3_hasBridge 2 (some .boolean), Cond.fieldLink RX3 46 "HeavyRoutes$Net" "bridgeCount" "I"]
def wsX3_endOfDrive : List Cond := .code yX3_endOfDrive cX3_endOfDrive 5 (some .int) :: ((wsX3_endOfDrive_r1 ++ wsX3_endOfDrive_r2) ++ wsX70 ++ wsX30 ++ wsX60 ++ wsX00)
def wsX6_lay : List Cond := .code yX6_lay cX6_lay 6 none :: ([.fieldLink RX6 22 "HeavyRoutes$Road" "endA" "I", .fieldLink RX6 25 "HeavyRoutes$Road" "endB" "I", .fieldLink RX6 28 "HeavyRoutes$Road" "minutes" "I", .fieldLink RX6 31 "HeavyRoutes$Road" "height" "I", .fieldLink RX6 34 "HeavyRoutes$Road" "width" "I", .fieldLink RX6 37 "HeavyRoutes$Road" "open" "Z"] ++ wsX60)
def wsX6_meets : List Cond := .code yX6_meets cX6_meets 2 (some .boolean) :: ([.fieldLink RX6 22 "HeavyRoutes$Road" "endA" "I", .fieldLink RX6 25 "HeavyRoutes$Road" "endB" "I", .methodLink RX6 41 yX6_nodeAcross, .instanceMethod yX6_nodeAcross, .selects RX6 yX6_nodeAcross yX6_nodeAcross, .initialized RX6, .code yX6_nodeAcross cX6_nodeAcross 2 (some .int)] ++ wsX60)
def wsX6_setTurn : List Cond := .code yX6_setTurn cX6_setTurn 4 none :: ([.fieldLink RX6 45 "HeavyRoutes$Road" "blockedTurns" "I"] ++ wsX60)
def wsX6_addBar : List Cond := .code yX6_addBar cX6_addBar 3 none :: ([.fieldLink RX6 48 "HeavyRoutes$Road" "barCount" "I", .fieldLink RX6 15 "HeavyRoutes$Road" "barFrom" "[I", .fieldLink RX6 19 "HeavyRoutes$Road" "barTo" "[I"] ++ wsX60)
def wsX7_hasPlace : List Cond := .code yX7_hasPlace cX7_hasPlace 2 (some .boolean) :: ([.fieldLink RX7 18 "HeavyRoutes$Way" "length" "I"] ++ wsX70)
def wsX8_lowestEighteenDigits : List Cond := .code yX8_lowestEighteenDigits cX8_lowestEighteenDigits 1 (some .long) :: ([.fieldLink RX8 9 "HeavyRoutes$Wide" "limbs" "[J", .constantLong RX8 13 (1000000000)] ++ wsX80)
def wsX9_init_r1 : List Cond := [Cond.methodLink RX9 3 objectInit, Cond.instanceMethod objectInit, Cond.code objectInit ⟨#[0xb1]⟩ 1 none, Cond.classLink RX9 9 RX3, Cond.instantiable RX3 7, Cond.initialized RX3, Cond.fieldLink RX9 12 "HeavyRoutes" "net" "LHeavyRoutes$Net;", Cond.classLink RX9 16 RX1, Cond.instantiable RX1 15, Cond.initialized RX1, Cond.fieldLink RX9 21 "HeavyRoutes" "finder" "LHeavyRoutes$Finder;", Cond.arrayClass .int, Cond.fieldLink RX9 25 "HeavyRoutes" "records" "[I", Cond.methodLink RX9 11 yX3_init, Cond.instanceMethod yX3_init, Cond.code yX3_init cX3_init 2 none, Cond.methodLink RX3 3 objectInit, Cond.classLink RX3 9 RX6, Cond.fieldLink RX3 11 "HeavyRoutes$Net" "roads" "[LHeavyRoutes$Road;", Cond.classLink RX3 17 RX0, Cond.fieldLink RX3 19 "HeavyRoutes$Net" "bridges" "[LHeavyRoutes$Bridge;", Cond.classLink RX3 23 RX2, Cond.instantiable RX2 5, Cond.initialized RX2]
def wsX9_init_r2 : List Cond := [Cond.fieldLink RX3 26 "HeavyRoutes$Net" "journey" "LHeavyRoutes$Journey;", Cond.classLink RX3 30 RX4, Cond.instantiable RX4 8, Cond.initialized RX4, Cond.fieldLink RX3 33 "HeavyRoutes$Net" "rater" "LHeavyRoutes$Rater;", Cond.instantiable RX6 11, Cond.initialized RX6, Cond.instantiable RX0 8, Cond.initialized RX0, Cond.instanceMethod yX2_init, Cond.code yX2_init cX2_init 1 none, Cond.methodLink RX2 3 objectInit, Cond.fieldLink RX2 9 "HeavyRoutes$Journey" "height" "I", Cond.fieldLink RX2 15 "HeavyRoutes$Journey" "width" "I", Cond.arrayClass .long, Cond.fieldLink RX2 18 "HeavyRoutes$Journey" "offsets" "[J", Cond.fieldLink RX2 22 "HeavyRoutes$Journey" "loads" "[J", Cond.instanceMethod yX4_init, Cond.code yX4_init cX4_init 1 none, Cond.methodLink RX4 3 objectInit, Cond.classLink RX4 9 RX8, Cond.instantiable RX8 1, Cond.initialized RX8, Cond.fieldLink RX4 12 "HeavyRoutes$Rater" "raising" "LHeavyRoutes$Wide;"]
def wsX9_init_r3 : List Cond := [Cond.fieldLink RX4 18 "HeavyRoutes$Rater" "lowering" "LHeavyRoutes$Wide;", Cond.classLink RX4 21 RX5, Cond.instantiable RX5 2, Cond.initialized RX5, Cond.fieldLink RX4 24 "HeavyRoutes$Rater" "anew" "LHeavyRoutes$Rating;", Cond.fieldLink RX4 28 "HeavyRoutes$Rater" "shares" "[J", Cond.fieldLink RX4 32 "HeavyRoutes$Rater" "valueFactors" "[J", Cond.fieldLink RX4 35 "HeavyRoutes$Rater" "gapFactors" "[J", Cond.instanceMethod yX8_init, Cond.code yX8_init cX8_init 1 none, Cond.methodLink RX8 1 objectInit, Cond.fieldLink RX8 9 "HeavyRoutes$Wide" "limbs" "[J", Cond.methodLink RX4 23 yX5_init, Cond.instanceMethod yX5_init, Cond.code yX5_init cX5_init 1 none, Cond.methodLink RX5 1 objectInit, Cond.classLink RX5 7 RX8, Cond.fieldLink RX5 10 "HeavyRoutes$Rating" "upper" "LHeavyRoutes$Wide;", Cond.fieldLink RX5 16 "HeavyRoutes$Rating" "lower" "LHeavyRoutes$Wide;", Cond.methodLink RX5 19 yX8_setTo, Cond.instanceMethod yX8_setTo, Cond.selects RX8 yX8_setTo yX8_setTo, Cond.code yX8_setTo cX8_setTo 4 none, Cond.instanceMethod yX6_init]
def wsX9_init_r4 : List Cond := [Cond.code yX6_init cX6_init 1 none, Cond.methodLink RX6 3 objectInit, Cond.fieldLink RX6 9 "HeavyRoutes$Road" "bridge" "I", Cond.fieldLink RX6 15 "HeavyRoutes$Road" "barFrom" "[I", Cond.fieldLink RX6 19 "HeavyRoutes$Road" "barTo" "[I", Cond.instanceMethod yX0_init, Cond.code yX0_init cX0_init 1 none, Cond.methodLink RX0 3 objectInit, Cond.fieldLink RX0 9 "HeavyRoutes$Bridge" "at" "[J", Cond.fieldLink RX0 15 "HeavyRoutes$Bridge" "above" "[J", Cond.fieldLink RX0 18 "HeavyRoutes$Bridge" "below" "[J", Cond.classLink RX0 21 RX5, Cond.fieldLink RX0 24 "HeavyRoutes$Bridge" "kept" "LHeavyRoutes$Rating;", Cond.methodLink RX0 23 yX5_init, Cond.methodLink RX9 18 yX1_init, Cond.instanceMethod yX1_init, Cond.code yX1_init cX1_init 3 none, Cond.methodLink RX1 3 objectInit, Cond.classLink RX1 9 RX7, Cond.fieldLink RX1 11 "HeavyRoutes$Finder" "found" "[LHeavyRoutes$Way;", Cond.instantiable RX7 6, Cond.initialized RX7, Cond.fieldLink RX1 18 "HeavyRoutes$Finder" "noWay" "LHeavyRoutes$Way;", Cond.fieldLink RX1 22 "HeavyRoutes$Finder" "trial" "LHeavyRoutes$Way;"]
def wsX9_init_r5 : List Cond := [Cond.fieldLink RX1 25 "HeavyRoutes$Finder" "best" "LHeavyRoutes$Way;", Cond.fieldLink RX1 28 "HeavyRoutes$Finder" "net" "LHeavyRoutes$Net;", Cond.instanceMethod yX7_init, Cond.code yX7_init cX7_init 1 none, Cond.methodLink RX7 3 objectInit, Cond.fieldLink RX7 9 "HeavyRoutes$Way" "roads" "[I", Cond.fieldLink RX7 15 "HeavyRoutes$Way" "starts" "[I"]
def wsX9_init : List Cond := .code yX9_init cX9_init 1 none :: ((wsX9_init_r1 ++ (wsX9_init_r2 ++ (wsX9_init_r3 ++ (wsX9_init_r4 ++ wsX9_init_r5)))) ++ wsX30 ++ wsX90 ++ wsX10 ++ wsX20 ++ wsX40 ++ wsX60 ++ wsX00 ++ wsX80 ++ wsX50 ++ wsX70)
def wsX9_node : List Cond := .code yX9_node cX9_node 1 (some .int) :: ([.fieldLink RX9 12 "HeavyRoutes" "net" "LHeavyRoutes$Net;"] ++ wsX90 ++ wsX30)
def wsX9_isSize : List Cond := .code yX9_isSize cX9_isSize 1 (some .boolean) :: ([.constantLong RX9 237 (9999), .methodLink RX9 42 yX9_isWithin, .static yX9_isWithin, .initialized RX9, .code yX9_isWithin cX9_isWithin 6 (some .boolean)])
def wsX9_road_r1 : List Cond := [Cond.fieldLink RX9 12 "HeavyRoutes" "net" "LHeavyRoutes$Net;", Cond.constantLong RX9 40 (600), Cond.fieldLink RX9 21 "HeavyRoutes" "finder" "LHeavyRoutes$Finder;", Cond.methodLink RX9 36 yX3_hasNode, Cond.instanceMethod yX3_hasNode, Cond.selects RX3 yX3_hasNode yX3_hasNode, Cond.initialized RX3, Cond.code yX3_hasNode cX3_hasNode 2 (some .boolean), Cond.fieldLink RX3 39 "HeavyRoutes$Net" "nodeCount" "I", Cond.methodLink RX9 42 yX9_isWithin, Cond.static yX9_isWithin, Cond.initialized RX9, Cond.code yX9_isWithin cX9_isWithin 6 (some .boolean), Cond.methodLink RX9 46 yX9_isSize, Cond.static yX9_isSize, Cond.code yX9_isSize cX9_isSize 1 (some .boolean), Cond.constantLong RX9 237 (9999), Cond.methodLink RX9 49 yX1_forget, Cond.instanceMethod yX1_forget, Cond.selects RX1 yX1_forget yX1_forget, Cond.initialized RX1, Cond.code yX1_forget cX1_forget 1 none, Cond.fieldLink RX1 32 "HeavyRoutes$Finder" "foundCount" "I", Cond.methodLink RX9 56 yX6_lay]
def wsX9_road_r2 : List Cond := [Cond.instanceMethod yX6_lay, Cond.selects RX6 yX6_lay yX6_lay, Cond.initialized RX6, Cond.code yX6_lay cX6_lay 6 none, Cond.fieldLink RX6 22 "HeavyRoutes$Road" "endA" "I", Cond.fieldLink RX6 25 "HeavyRoutes$Road" "endB" "I", Cond.fieldLink RX6 28 "HeavyRoutes$Road" "minutes" "I", Cond.fieldLink RX6 31 "HeavyRoutes$Road" "height" "I", Cond.fieldLink RX6 34 "HeavyRoutes$Road" "width" "I", Cond.fieldLink RX6 37 "HeavyRoutes$Road" "open" "Z"]
def wsX9_road : List Cond := .code yX9_road cX9_road 6 (some .int) :: ((wsX9_road_r1 ++ wsX9_road_r2) ++ wsX90 ++ wsX30 ++ wsX10 ++ wsX60)
def wsX9_bridge : List Cond := .code yX9_bridge cX9_bridge 2 (some .int) :: ([.fieldLink RX9 12 "HeavyRoutes" "net" "LHeavyRoutes$Net;", .fieldLink RX9 21 "HeavyRoutes" "finder" "LHeavyRoutes$Finder;", .methodLink RX9 62 yX3_hasRoad, .instanceMethod yX3_hasRoad, .selects RX3 yX3_hasRoad yX3_hasRoad, .initialized RX3, .code yX3_hasRoad cX3_hasRoad 2 (some .boolean), .fieldLink RX3 43 "HeavyRoutes$Net" "roadCount" "I", .methodLink RX9 49 yX1_forget, .instanceMethod yX1_forget, .selects RX1 yX1_forget yX1_forget, .initialized RX1, .code yX1_forget cX1_forget 1 none, .fieldLink RX1 32 "HeavyRoutes$Finder" "foundCount" "I"] ++ wsX90 ++ wsX30 ++ wsX60 ++ wsX10)
def wsX9_row_r1 : List Cond := [Cond.fieldLink RX9 12 "HeavyRoutes" "net" "LHeavyRoutes$Net;", Cond.constantLong RX9 84 (-1000), Cond.constantLong RX9 86 (1000), Cond.fieldLink RX9 21 "HeavyRoutes" "finder" "LHeavyRoutes$Finder;", Cond.methodLink RX9 71 yX3_hasBridge, Cond.instanceMethod yX3_hasBridge, Cond.selects RX3 yX3_hasBridge yX3_hasBridge, Cond.initialized RX3, Cond.code yX3_hasBridge cX3_hasBridge 2 (some .boolean), Cond.fieldLink RX3 46 "HeavyRoutes$Net" "bridgeCount" "I", Cond.methodLink RX9 78 yX0_canTakeCorner, Cond.instanceMethod yX0_canTakeCorner, Cond.selects RX0 yX0_canTakeCorner yX0_canTakeCorner, Cond.initialized RX0, Cond.code yX0_canTakeCorner cX0_canTakeCorner 3 (some .boolean), Cond.fieldLink RX0 28 "HeavyRoutes$Bridge" "cornerCount" "I", Cond.constantLong RX0 32 (60), Cond.fieldLink RX0 9 "HeavyRoutes$Bridge" "at" "[J", Cond.static yX9_isWithin, Cond.initialized RX9, Cond.code yX9_isWithin cX9_isWithin 6 (some .boolean), Cond.methodLink RX9 42 yX9_isWithin, Cond.methodLink RX9 49 yX1_forget, Cond.instanceMethod yX1_forget]
def wsX9_row_r2 : List Cond := [Cond.selects RX1 yX1_forget yX1_forget, Cond.initialized RX1, Cond.code yX1_forget cX1_forget 1 none, Cond.fieldLink RX1 32 "HeavyRoutes$Finder" "foundCount" "I", Cond.methodLink RX9 88 yX0_addCorner, Cond.instanceMethod yX0_addCorner, Cond.selects RX0 yX0_addCorner yX0_addCorner, Cond.code yX0_addCorner cX0_addCorner 7 none, Cond.fieldLink RX0 15 "HeavyRoutes$Bridge" "above" "[J", Cond.fieldLink RX0 18 "HeavyRoutes$Bridge" "below" "[J", Cond.methodLink RX9 92 yX3_rateBridge, Cond.instanceMethod yX3_rateBridge, Cond.selects RX3 yX3_rateBridge yX3_rateBridge, Cond.code yX3_rateBridge cX3_rateBridge 3 none, Cond.fieldLink RX3 19 "HeavyRoutes$Net" "bridges" "[LHeavyRoutes$Bridge;", Cond.fieldLink RX3 33 "HeavyRoutes$Net" "rater" "LHeavyRoutes$Rater;", Cond.fieldLink RX3 26 "HeavyRoutes$Net" "journey" "LHeavyRoutes$Journey;", Cond.constantLong RX3 65 (3), Cond.constantLong RX3 67 (4), Cond.methodLink RX3 53 yX4_rate, Cond.instanceMethod yX4_rate, Cond.selects RX4 yX4_rate yX4_rate, Cond.initialized RX4, Cond.code yX4_rate cX4_rate 6 none]
def wsX9_row_r3 : List Cond := [Cond.fieldLink RX4 32 "HeavyRoutes$Rater" "valueFactors" "[J", Cond.fieldLink RX4 35 "HeavyRoutes$Rater" "gapFactors" "[J", Cond.methodLink RX4 41 yX8_setTo, Cond.instanceMethod yX8_setTo, Cond.selects RX8 yX8_setTo yX8_setTo, Cond.initialized RX8, Cond.code yX8_setTo cX8_setTo 4 none, Cond.fieldLink RX8 9 "HeavyRoutes$Wide" "limbs" "[J", Cond.methodLink RX4 48 yX4_findScales, Cond.instanceMethod yX4_findScales, Cond.selects RX4 yX4_findScales yX4_findScales, Cond.code yX4_findScales cX4_findScales 5 none, Cond.fieldLink RX4 77 "HeavyRoutes$Rater" "valueScale" "J", Cond.fieldLink RX4 81 "HeavyRoutes$Rater" "gapScale" "J", Cond.methodLink RX4 87 yX4_commonDivisor, Cond.static yX4_commonDivisor, Cond.code yX4_commonDivisor cX4_commonDivisor 11 (some .long), Cond.methodLink RX4 149 Lib.MathLoose.max_long.x, Cond.static Lib.MathLoose.max_long.x, Cond.initialized "java/lang/Math", Cond.code Lib.MathLoose.max_long.x Lib.MathLoose.max_long.code 4 (some .long), Cond.methodLink RX4 91 yX4_quotient, Cond.static yX4_quotient, Cond.code yX4_quotient cX4_quotient 4 (some .long)]
def wsX9_row_r4 : List Cond := [Cond.methodLink RX4 94 yX0_gapBehind, Cond.instanceMethod yX0_gapBehind, Cond.selects RX0 yX0_gapBehind yX0_gapBehind, Cond.code yX0_gapBehind cX0_gapBehind 2 (some .long), Cond.methodLink RX4 69 yX4_takeGreater, Cond.instanceMethod yX4_takeGreater, Cond.selects RX4 yX4_takeGreater yX4_takeGreater, Cond.code yX4_takeGreater cX4_takeGreater 9 none, Cond.fieldLink RX4 28 "HeavyRoutes$Rater" "shares" "[J", Cond.fieldLink RX4 12 "HeavyRoutes$Rater" "raising" "LHeavyRoutes$Wide;", Cond.fieldLink RX4 18 "HeavyRoutes$Rater" "lowering" "LHeavyRoutes$Wide;", Cond.methodLink RX4 108 Lib.MathLoose.abs_long.x, Cond.static Lib.MathLoose.abs_long.x, Cond.code Lib.MathLoose.abs_long.x Lib.MathLoose.abs_long.code 2 (some .long), Cond.methodLink RX4 101 yX4_shareOut, Cond.instanceMethod yX4_shareOut, Cond.selects RX4 yX4_shareOut yX4_shareOut, Cond.code yX4_shareOut cX4_shareOut 13 none, Cond.methodLink RX4 114 yX8_addProduct, Cond.instanceMethod yX8_addProduct, Cond.selects RX8 yX8_addProduct yX8_addProduct, Cond.code yX8_addProduct cX8_addProduct 8 none, Cond.constantLong RX8 13 (1000000000), Cond.methodLink RX8 15 yX8_addShifted]
def wsX9_row_r5 : List Cond := [Cond.instanceMethod yX8_addShifted, Cond.selects RX8 yX8_addShifted yX8_addShifted, Cond.code yX8_addShifted cX8_addShifted 13 none, Cond.methodLink RX4 118 yX8_compareWith, Cond.instanceMethod yX8_compareWith, Cond.selects RX8 yX8_compareWith yX8_compareWith, Cond.code yX8_compareWith cX8_compareWith 3 (some .int), Cond.methodLink RX4 122 yX8_subtract, Cond.instanceMethod yX8_subtract, Cond.selects RX8 yX8_subtract yX8_subtract, Cond.code yX8_subtract cX8_subtract 7 none, Cond.methodLink RX4 126 yX8_copyFrom, Cond.instanceMethod yX8_copyFrom, Cond.selects RX8 yX8_copyFrom yX8_copyFrom, Cond.code yX8_copyFrom cX8_copyFrom 3 none, Cond.methodLink RX4 73 yX4_reduce, Cond.static yX4_reduce, Cond.code yX4_reduce cX4_reduce 6 none, Cond.methodLink RX4 129 yX8_remainder, Cond.instanceMethod yX8_remainder, Cond.selects RX8 yX8_remainder yX8_remainder, Cond.code yX8_remainder cX8_remainder 6 (some .long), Cond.methodLink RX4 132 yX8_divide, Cond.instanceMethod yX8_divide]
def wsX9_row_r6 : List Cond := [Cond.selects RX8 yX8_divide yX8_divide, Cond.code yX8_divide cX8_divide 8 none, Cond.methodLink RX4 135 yX8_multiply, Cond.instanceMethod yX8_multiply, Cond.selects RX8 yX8_multiply yX8_multiply, Cond.code yX8_multiply cX8_multiply 8 none, Cond.methodLink RX3 57 yX4_isAbove, Cond.instanceMethod yX4_isAbove, Cond.selects RX4 yX4_isAbove yX4_isAbove, Cond.code yX4_isAbove cX4_isAbove 6 (some .boolean)]
def wsX9_row : List Cond := .code yX9_row cX9_row 8 (some .boolean) :: ((wsX9_row_r1 ++ (wsX9_row_r2 ++ (wsX9_row_r3 ++ (wsX9_row_r4 ++ (wsX9_row_r5 ++ wsX9_row_r6))))) ++ wsX90 ++ wsX30 ++ wsX00 ++ wsX10 ++ wsX50 ++ wsX20 ++ wsX40 ++ wsX80)
def wsX9_axle_r1 : List Cond := [Cond.fieldLink RX9 12 "HeavyRoutes" "net" "LHeavyRoutes$Net;", Cond.constantLong RX9 86 (1000), Cond.fieldLink RX9 21 "HeavyRoutes" "finder" "LHeavyRoutes$Finder;", Cond.methodLink RX9 100 yX2_canTakeAxle, Cond.instanceMethod yX2_canTakeAxle, Cond.selects RX2 yX2_canTakeAxle yX2_canTakeAxle, Cond.initialized RX2, Cond.code yX2_canTakeAxle cX2_canTakeAxle 3 (some .boolean), Cond.fieldLink RX2 25 "HeavyRoutes$Journey" "axleCount" "I", Cond.constantLong RX2 28 (30), Cond.static yX9_isWithin, Cond.initialized RX9, Cond.code yX9_isWithin cX9_isWithin 6 (some .boolean), Cond.methodLink RX9 42 yX9_isWithin, Cond.methodLink RX9 49 yX1_forget, Cond.instanceMethod yX1_forget, Cond.selects RX1 yX1_forget yX1_forget, Cond.initialized RX1, Cond.code yX1_forget cX1_forget 1 none, Cond.fieldLink RX1 32 "HeavyRoutes$Finder" "foundCount" "I", Cond.methodLink RX9 105 yX2_addAxle, Cond.instanceMethod yX2_addAxle, Cond.selects RX2 yX2_addAxle yX2_addAxle, Cond.code yX2_addAxle cX2_addAxle 5 none]
def wsX9_axle_r2 : List Cond := [Cond.fieldLink RX2 18 "HeavyRoutes$Journey" "offsets" "[J", Cond.fieldLink RX2 22 "HeavyRoutes$Journey" "loads" "[J", Cond.methodLink RX9 109 yX3_rateAllBridges, Cond.instanceMethod yX3_rateAllBridges, Cond.selects RX3 yX3_rateAllBridges yX3_rateAllBridges, Cond.initialized RX3, Cond.code yX3_rateAllBridges cX3_rateAllBridges 2 none, Cond.fieldLink RX3 46 "HeavyRoutes$Net" "bridgeCount" "I", Cond.methodLink RX3 72 yX3_rateBridge, Cond.instanceMethod yX3_rateBridge, Cond.selects RX3 yX3_rateBridge yX3_rateBridge, Cond.code yX3_rateBridge cX3_rateBridge 3 none, Cond.fieldLink RX3 19 "HeavyRoutes$Net" "bridges" "[LHeavyRoutes$Bridge;", Cond.fieldLink RX3 33 "HeavyRoutes$Net" "rater" "LHeavyRoutes$Rater;", Cond.fieldLink RX3 26 "HeavyRoutes$Net" "journey" "LHeavyRoutes$Journey;", Cond.constantLong RX3 65 (3), Cond.constantLong RX3 67 (4), Cond.methodLink RX3 53 yX4_rate, Cond.instanceMethod yX4_rate, Cond.selects RX4 yX4_rate yX4_rate, Cond.initialized RX4, Cond.code yX4_rate cX4_rate 6 none, Cond.fieldLink RX4 32 "HeavyRoutes$Rater" "valueFactors" "[J", Cond.fieldLink RX4 35 "HeavyRoutes$Rater" "gapFactors" "[J"]
def wsX9_axle_r3 : List Cond := [Cond.methodLink RX4 41 yX8_setTo, Cond.instanceMethod yX8_setTo, Cond.selects RX8 yX8_setTo yX8_setTo, Cond.initialized RX8, Cond.code yX8_setTo cX8_setTo 4 none, Cond.fieldLink RX8 9 "HeavyRoutes$Wide" "limbs" "[J", Cond.methodLink RX4 48 yX4_findScales, Cond.instanceMethod yX4_findScales, Cond.selects RX4 yX4_findScales yX4_findScales, Cond.code yX4_findScales cX4_findScales 5 none, Cond.fieldLink RX4 77 "HeavyRoutes$Rater" "valueScale" "J", Cond.fieldLink RX4 81 "HeavyRoutes$Rater" "gapScale" "J", Cond.methodLink RX4 87 yX4_commonDivisor, Cond.static yX4_commonDivisor, Cond.code yX4_commonDivisor cX4_commonDivisor 11 (some .long), Cond.methodLink RX4 149 Lib.MathLoose.max_long.x, Cond.static Lib.MathLoose.max_long.x, Cond.initialized "java/lang/Math", Cond.code Lib.MathLoose.max_long.x Lib.MathLoose.max_long.code 4 (some .long), Cond.methodLink RX4 91 yX4_quotient, Cond.static yX4_quotient, Cond.code yX4_quotient cX4_quotient 4 (some .long), Cond.methodLink RX4 94 yX0_gapBehind, Cond.instanceMethod yX0_gapBehind]
def wsX9_axle_r4 : List Cond := [Cond.selects RX0 yX0_gapBehind yX0_gapBehind, Cond.initialized RX0, Cond.code yX0_gapBehind cX0_gapBehind 2 (some .long), Cond.fieldLink RX0 28 "HeavyRoutes$Bridge" "cornerCount" "I", Cond.fieldLink RX0 9 "HeavyRoutes$Bridge" "at" "[J", Cond.methodLink RX4 69 yX4_takeGreater, Cond.instanceMethod yX4_takeGreater, Cond.selects RX4 yX4_takeGreater yX4_takeGreater, Cond.code yX4_takeGreater cX4_takeGreater 9 none, Cond.fieldLink RX4 28 "HeavyRoutes$Rater" "shares" "[J", Cond.fieldLink RX4 12 "HeavyRoutes$Rater" "raising" "LHeavyRoutes$Wide;", Cond.fieldLink RX4 18 "HeavyRoutes$Rater" "lowering" "LHeavyRoutes$Wide;", Cond.methodLink RX4 108 Lib.MathLoose.abs_long.x, Cond.static Lib.MathLoose.abs_long.x, Cond.code Lib.MathLoose.abs_long.x Lib.MathLoose.abs_long.code 2 (some .long), Cond.methodLink RX4 101 yX4_shareOut, Cond.instanceMethod yX4_shareOut, Cond.selects RX4 yX4_shareOut yX4_shareOut, Cond.code yX4_shareOut cX4_shareOut 13 none, Cond.methodLink RX4 114 yX8_addProduct, Cond.instanceMethod yX8_addProduct, Cond.selects RX8 yX8_addProduct yX8_addProduct, Cond.code yX8_addProduct cX8_addProduct 8 none, Cond.constantLong RX8 13 (1000000000)]
def wsX9_axle_r5 : List Cond := [Cond.methodLink RX8 15 yX8_addShifted, Cond.instanceMethod yX8_addShifted, Cond.selects RX8 yX8_addShifted yX8_addShifted, Cond.code yX8_addShifted cX8_addShifted 13 none, Cond.methodLink RX4 118 yX8_compareWith, Cond.instanceMethod yX8_compareWith, Cond.selects RX8 yX8_compareWith yX8_compareWith, Cond.code yX8_compareWith cX8_compareWith 3 (some .int), Cond.methodLink RX4 122 yX8_subtract, Cond.instanceMethod yX8_subtract, Cond.selects RX8 yX8_subtract yX8_subtract, Cond.code yX8_subtract cX8_subtract 7 none, Cond.methodLink RX4 126 yX8_copyFrom, Cond.instanceMethod yX8_copyFrom, Cond.selects RX8 yX8_copyFrom yX8_copyFrom, Cond.code yX8_copyFrom cX8_copyFrom 3 none, Cond.methodLink RX4 73 yX4_reduce, Cond.static yX4_reduce, Cond.code yX4_reduce cX4_reduce 6 none, Cond.methodLink RX4 129 yX8_remainder, Cond.instanceMethod yX8_remainder, Cond.selects RX8 yX8_remainder yX8_remainder, Cond.code yX8_remainder cX8_remainder 6 (some .long), Cond.methodLink RX4 132 yX8_divide]
def wsX9_axle_r6 : List Cond := [Cond.instanceMethod yX8_divide, Cond.selects RX8 yX8_divide yX8_divide, Cond.code yX8_divide cX8_divide 8 none, Cond.methodLink RX4 135 yX8_multiply, Cond.instanceMethod yX8_multiply, Cond.selects RX8 yX8_multiply yX8_multiply, Cond.code yX8_multiply cX8_multiply 8 none, Cond.methodLink RX3 57 yX4_isAbove, Cond.instanceMethod yX4_isAbove, Cond.selects RX4 yX4_isAbove yX4_isAbove, Cond.code yX4_isAbove cX4_isAbove 6 (some .boolean)]
def wsX9_axle : List Cond := .code yX9_axle cX9_axle 5 (some .boolean) :: ((wsX9_axle_r1 ++ (wsX9_axle_r2 ++ (wsX9_axle_r3 ++ (wsX9_axle_r4 ++ (wsX9_axle_r5 ++ wsX9_axle_r6))))) ++ wsX90 ++ wsX30 ++ wsX20 ++ wsX10 ++ wsX00 ++ wsX50 ++ wsX40 ++ wsX80)
def wsX9_size : List Cond := .code yX9_size cX9_size 4 (some .boolean) :: ([.constantLong RX9 112 (200), .fieldLink RX9 21 "HeavyRoutes" "finder" "LHeavyRoutes$Finder;", .fieldLink RX9 12 "HeavyRoutes" "net" "LHeavyRoutes$Net;", .methodLink RX9 46 yX9_isSize, .static yX9_isSize, .initialized RX9, .code yX9_isSize cX9_isSize 1 (some .boolean), .constantLong RX9 237 (9999), .methodLink RX9 42 yX9_isWithin, .static yX9_isWithin, .code yX9_isWithin cX9_isWithin 6 (some .boolean), .methodLink RX9 49 yX1_forget, .instanceMethod yX1_forget, .selects RX1 yX1_forget yX1_forget, .initialized RX1, .code yX1_forget cX1_forget 1 none, .fieldLink RX1 32 "HeavyRoutes$Finder" "foundCount" "I"] ++ wsX90 ++ wsX30 ++ wsX20 ++ wsX10)
def wsX9_turn_r1 : List Cond := [Cond.fieldLink RX9 12 "HeavyRoutes" "net" "LHeavyRoutes$Net;", Cond.fieldLink RX9 21 "HeavyRoutes" "finder" "LHeavyRoutes$Finder;", Cond.methodLink RX9 62 yX3_hasRoad, Cond.instanceMethod yX3_hasRoad, Cond.selects RX3 yX3_hasRoad yX3_hasRoad, Cond.initialized RX3, Cond.code yX3_hasRoad cX3_hasRoad 2 (some .boolean), Cond.fieldLink RX3 43 "HeavyRoutes$Net" "roadCount" "I", Cond.methodLink RX9 120 yX6_meets, Cond.instanceMethod yX6_meets, Cond.selects RX6 yX6_meets yX6_meets, Cond.initialized RX6, Cond.code yX6_meets cX6_meets 2 (some .boolean), Cond.fieldLink RX6 22 "HeavyRoutes$Road" "endA" "I", Cond.fieldLink RX6 25 "HeavyRoutes$Road" "endB" "I", Cond.methodLink RX6 41 yX6_nodeAcross, Cond.instanceMethod yX6_nodeAcross, Cond.selects RX6 yX6_nodeAcross yX6_nodeAcross, Cond.code yX6_nodeAcross cX6_nodeAcross 2 (some .int), Cond.methodLink RX9 49 yX1_forget, Cond.instanceMethod yX1_forget, Cond.selects RX1 yX1_forget yX1_forget, Cond.initialized RX1, Cond.code yX1_forget cX1_forget 1 none]
def wsX9_turn_r2 : List Cond := [Cond.fieldLink RX1 32 "HeavyRoutes$Finder" "foundCount" "I", Cond.methodLink RX9 124 yX6_setTurn, Cond.instanceMethod yX6_setTurn, Cond.selects RX6 yX6_setTurn yX6_setTurn, Cond.code yX6_setTurn cX6_setTurn 4 none, Cond.fieldLink RX6 45 "HeavyRoutes$Road" "blockedTurns" "I"]
def wsX9_turn : List Cond := .code yX9_turn cX9_turn 4 (some .boolean) :: ((wsX9_turn_r1 ++ wsX9_turn_r2) ++ wsX90 ++ wsX30 ++ wsX60 ++ wsX10)
def wsX9_hours_r1 : List Cond := [Cond.fieldLink RX9 12 "HeavyRoutes" "net" "LHeavyRoutes$Net;", Cond.constantLong RX9 131 (1439), Cond.fieldLink RX9 21 "HeavyRoutes" "finder" "LHeavyRoutes$Finder;", Cond.methodLink RX9 62 yX3_hasRoad, Cond.instanceMethod yX3_hasRoad, Cond.selects RX3 yX3_hasRoad yX3_hasRoad, Cond.initialized RX3, Cond.code yX3_hasRoad cX3_hasRoad 2 (some .boolean), Cond.fieldLink RX3 43 "HeavyRoutes$Net" "roadCount" "I", Cond.methodLink RX9 42 yX9_isWithin, Cond.static yX9_isWithin, Cond.initialized RX9, Cond.code yX9_isWithin cX9_isWithin 6 (some .boolean), Cond.methodLink RX9 49 yX1_forget, Cond.instanceMethod yX1_forget, Cond.selects RX1 yX1_forget yX1_forget, Cond.initialized RX1, Cond.code yX1_forget cX1_forget 1 none, Cond.fieldLink RX1 32 "HeavyRoutes$Finder" "foundCount" "I", Cond.methodLink RX9 133 yX6_addBar, Cond.instanceMethod yX6_addBar, Cond.selects RX6 yX6_addBar yX6_addBar, Cond.initialized RX6, Cond.code yX6_addBar cX6_addBar 3 none]
def wsX9_hours_r2 : List Cond := [Cond.fieldLink RX6 48 "HeavyRoutes$Road" "barCount" "I", Cond.fieldLink RX6 15 "HeavyRoutes$Road" "barFrom" "[I", Cond.fieldLink RX6 19 "HeavyRoutes$Road" "barTo" "[I"]
def wsX9_hours : List Cond := .code yX9_hours cX9_hours 4 (some .boolean) :: ((wsX9_hours_r1 ++ wsX9_hours_r2) ++ wsX90 ++ wsX30 ++ wsX60 ++ wsX10)
def wsX9_rating : List Cond := .code yX9_rating cX9_rating 4 (some .long) :: ([.fieldLink RX9 12 "HeavyRoutes" "net" "LHeavyRoutes$Net;", .constantLong RX9 137 (-1), .methodLink RX9 71 yX3_hasBridge, .instanceMethod yX3_hasBridge, .selects RX3 yX3_hasBridge yX3_hasBridge, .initialized RX3, .code yX3_hasBridge cX3_hasBridge 2 (some .boolean), .fieldLink RX3 46 "HeavyRoutes$Net" "bridgeCount" "I", .methodLink RX9 42 yX9_isWithin, .static yX9_isWithin, .initialized RX9, .code yX9_isWithin cX9_isWithin 6 (some .boolean), .methodLink RX9 149 yX8_lowestEighteenDigits, .instanceMethod yX8_lowestEighteenDigits, .selects RX8 yX8_lowestEighteenDigits yX8_lowestEighteenDigits, .initialized RX8, .code yX8_lowestEighteenDigits cX8_lowestEighteenDigits 1 (some .long), .fieldLink RX8 9 "HeavyRoutes$Wide" "limbs" "[J", .constantLong RX8 13 (1000000000)] ++ wsX90 ++ wsX30 ++ wsX00 ++ wsX50 ++ wsX80)
def wsX9_kept_r1 : List Cond := [Cond.fieldLink RX9 12 "HeavyRoutes" "net" "LHeavyRoutes$Net;", Cond.methodLink RX9 71 yX3_hasBridge, Cond.instanceMethod yX3_hasBridge, Cond.selects RX3 yX3_hasBridge yX3_hasBridge, Cond.initialized RX3, Cond.code yX3_hasBridge cX3_hasBridge 2 (some .boolean), Cond.fieldLink RX3 46 "HeavyRoutes$Net" "bridgeCount" "I", Cond.methodLink RX9 158 yX3_isKeptRatingTrue, Cond.instanceMethod yX3_isKeptRatingTrue, Cond.selects RX3 yX3_isKeptRatingTrue yX3_isKeptRatingTrue, Cond.code yX3_isKeptRatingTrue cX3_isKeptRatingTrue 2 (some .boolean), Cond.fieldLink RX3 33 "HeavyRoutes$Net" "rater" "LHeavyRoutes$Rater;", Cond.fieldLink RX3 19 "HeavyRoutes$Net" "bridges" "[LHeavyRoutes$Bridge;", Cond.fieldLink RX3 26 "HeavyRoutes$Net" "journey" "LHeavyRoutes$Journey;", Cond.methodLink RX3 76 yX4_isStillRight, Cond.instanceMethod yX4_isStillRight, Cond.selects RX4 yX4_isStillRight yX4_isStillRight, Cond.initialized RX4, Cond.code yX4_isStillRight cX4_isStillRight 3 (some .boolean), Cond.fieldLink RX4 24 "HeavyRoutes$Rater" "anew" "LHeavyRoutes$Rating;", Cond.methodLink RX4 138 yX4_rate, Cond.instanceMethod yX4_rate, Cond.selects RX4 yX4_rate yX4_rate, Cond.code yX4_rate cX4_rate 6 none]
def wsX9_kept_r2 : List Cond := [Cond.fieldLink RX4 32 "HeavyRoutes$Rater" "valueFactors" "[J", Cond.fieldLink RX4 35 "HeavyRoutes$Rater" "gapFactors" "[J", Cond.methodLink RX4 41 yX8_setTo, Cond.instanceMethod yX8_setTo, Cond.selects RX8 yX8_setTo yX8_setTo, Cond.initialized RX8, Cond.code yX8_setTo cX8_setTo 4 none, Cond.fieldLink RX8 9 "HeavyRoutes$Wide" "limbs" "[J", Cond.methodLink RX4 48 yX4_findScales, Cond.instanceMethod yX4_findScales, Cond.selects RX4 yX4_findScales yX4_findScales, Cond.code yX4_findScales cX4_findScales 5 none, Cond.fieldLink RX4 77 "HeavyRoutes$Rater" "valueScale" "J", Cond.fieldLink RX4 81 "HeavyRoutes$Rater" "gapScale" "J", Cond.methodLink RX4 87 yX4_commonDivisor, Cond.static yX4_commonDivisor, Cond.code yX4_commonDivisor cX4_commonDivisor 11 (some .long), Cond.methodLink RX4 149 Lib.MathLoose.max_long.x, Cond.static Lib.MathLoose.max_long.x, Cond.initialized "java/lang/Math", Cond.code Lib.MathLoose.max_long.x Lib.MathLoose.max_long.code 4 (some .long), Cond.methodLink RX4 91 yX4_quotient, Cond.static yX4_quotient, Cond.code yX4_quotient cX4_quotient 4 (some .long)]
def wsX9_kept_r3 : List Cond := [Cond.methodLink RX4 94 yX0_gapBehind, Cond.instanceMethod yX0_gapBehind, Cond.selects RX0 yX0_gapBehind yX0_gapBehind, Cond.initialized RX0, Cond.code yX0_gapBehind cX0_gapBehind 2 (some .long), Cond.fieldLink RX0 28 "HeavyRoutes$Bridge" "cornerCount" "I", Cond.fieldLink RX0 9 "HeavyRoutes$Bridge" "at" "[J", Cond.methodLink RX4 69 yX4_takeGreater, Cond.instanceMethod yX4_takeGreater, Cond.selects RX4 yX4_takeGreater yX4_takeGreater, Cond.code yX4_takeGreater cX4_takeGreater 9 none, Cond.fieldLink RX4 28 "HeavyRoutes$Rater" "shares" "[J", Cond.fieldLink RX4 12 "HeavyRoutes$Rater" "raising" "LHeavyRoutes$Wide;", Cond.fieldLink RX4 18 "HeavyRoutes$Rater" "lowering" "LHeavyRoutes$Wide;", Cond.methodLink RX4 108 Lib.MathLoose.abs_long.x, Cond.static Lib.MathLoose.abs_long.x, Cond.code Lib.MathLoose.abs_long.x Lib.MathLoose.abs_long.code 2 (some .long), Cond.methodLink RX4 101 yX4_shareOut, Cond.instanceMethod yX4_shareOut, Cond.selects RX4 yX4_shareOut yX4_shareOut, Cond.code yX4_shareOut cX4_shareOut 13 none, Cond.methodLink RX4 114 yX8_addProduct, Cond.instanceMethod yX8_addProduct, Cond.selects RX8 yX8_addProduct yX8_addProduct]
def wsX9_kept_r4 : List Cond := [Cond.code yX8_addProduct cX8_addProduct 8 none, Cond.constantLong RX8 13 (1000000000), Cond.methodLink RX8 15 yX8_addShifted, Cond.instanceMethod yX8_addShifted, Cond.selects RX8 yX8_addShifted yX8_addShifted, Cond.code yX8_addShifted cX8_addShifted 13 none, Cond.methodLink RX4 118 yX8_compareWith, Cond.instanceMethod yX8_compareWith, Cond.selects RX8 yX8_compareWith yX8_compareWith, Cond.code yX8_compareWith cX8_compareWith 3 (some .int), Cond.methodLink RX4 122 yX8_subtract, Cond.instanceMethod yX8_subtract, Cond.selects RX8 yX8_subtract yX8_subtract, Cond.code yX8_subtract cX8_subtract 7 none, Cond.methodLink RX4 126 yX8_copyFrom, Cond.instanceMethod yX8_copyFrom, Cond.selects RX8 yX8_copyFrom yX8_copyFrom, Cond.code yX8_copyFrom cX8_copyFrom 3 none, Cond.methodLink RX4 73 yX4_reduce, Cond.static yX4_reduce, Cond.code yX4_reduce cX4_reduce 6 none, Cond.methodLink RX4 129 yX8_remainder, Cond.instanceMethod yX8_remainder, Cond.selects RX8 yX8_remainder yX8_remainder]
def wsX9_kept_r5 : List Cond := [Cond.code yX8_remainder cX8_remainder 6 (some .long), Cond.methodLink RX4 132 yX8_divide, Cond.instanceMethod yX8_divide, Cond.selects RX8 yX8_divide yX8_divide, Cond.code yX8_divide cX8_divide 8 none, Cond.methodLink RX4 135 yX8_multiply, Cond.instanceMethod yX8_multiply, Cond.selects RX8 yX8_multiply yX8_multiply, Cond.code yX8_multiply cX8_multiply 8 none, Cond.methodLink RX4 145 yX5_isSameAs, Cond.instanceMethod yX5_isSameAs, Cond.selects RX5 yX5_isSameAs yX5_isSameAs, Cond.initialized RX5, Cond.code yX5_isSameAs cX5_isSameAs 2 (some .boolean), Cond.fieldLink RX5 10 "HeavyRoutes$Rating" "upper" "LHeavyRoutes$Wide;", Cond.fieldLink RX5 16 "HeavyRoutes$Rating" "lower" "LHeavyRoutes$Wide;", Cond.methodLink RX5 23 yX8_compareWith]
def wsX9_kept : List Cond := .code yX9_kept cX9_kept 2 (some .boolean) :: ((wsX9_kept_r1 ++ (wsX9_kept_r2 ++ (wsX9_kept_r3 ++ (wsX9_kept_r4 ++ wsX9_kept_r5)))) ++ wsX90 ++ wsX30 ++ wsX40 ++ wsX00 ++ wsX50 ++ wsX20 ++ wsX80)
def wsX9_run_r1 : List Cond := [Cond.fieldLink RX9 12 "HeavyRoutes" "net" "LHeavyRoutes$Net;", Cond.constantLong RX9 161 (10000), Cond.fieldLink RX9 21 "HeavyRoutes" "finder" "LHeavyRoutes$Finder;", Cond.fieldLink RX9 174 "HeavyRoutes" "recordCount" "I", Cond.fieldLink RX9 25 "HeavyRoutes" "records" "[I", Cond.methodLink RX9 36 yX3_hasNode, Cond.instanceMethod yX3_hasNode, Cond.selects RX3 yX3_hasNode yX3_hasNode, Cond.initialized RX3, Cond.code yX3_hasNode cX3_hasNode 2 (some .boolean), Cond.fieldLink RX3 39 "HeavyRoutes$Net" "nodeCount" "I", Cond.methodLink RX9 42 yX9_isWithin, Cond.static yX9_isWithin, Cond.initialized RX9, Cond.code yX9_isWithin cX9_isWithin 6 (some .boolean), Cond.methodLink RX9 163 yX1_begin, Cond.instanceMethod yX1_begin, Cond.selects RX1 yX1_begin yX1_begin, Cond.initialized RX1, Cond.code yX1_begin cX1_begin 4 none, Cond.fieldLink RX1 39 "HeavyRoutes$Finder" "hasBegun" "Z", Cond.fieldLink RX1 43 "HeavyRoutes$Finder" "from" "I", Cond.fieldLink RX1 46 "HeavyRoutes$Finder" "to" "I", Cond.fieldLink RX1 49 "HeavyRoutes$Finder" "minute" "I"]
def wsX9_run_r2 : List Cond := [Cond.methodLink RX1 36 yX1_forget, Cond.instanceMethod yX1_forget, Cond.selects RX1 yX1_forget yX1_forget, Cond.code yX1_forget cX1_forget 1 none, Cond.fieldLink RX1 32 "HeavyRoutes$Finder" "foundCount" "I", Cond.methodLink RX9 167 yX1_lookThrough, Cond.instanceMethod yX1_lookThrough, Cond.selects RX1 yX1_lookThrough yX1_lookThrough, Cond.code yX1_lookThrough cX1_lookThrough 1 none, Cond.fieldLink RX1 28 "HeavyRoutes$Finder" "net" "LHeavyRoutes$Net;", Cond.fieldLink RX1 74 "HeavyRoutes$Finder" "usable" "I", Cond.fieldLink RX1 77 "HeavyRoutes$Finder" "visited" "I", Cond.fieldLink RX1 80 "HeavyRoutes$Finder" "wayCount" "I", Cond.fieldLink RX1 58 "HeavyRoutes$Finder" "hasBest" "Z", Cond.methodLink RX1 68 yX3_usableRoads, Cond.instanceMethod yX3_usableRoads, Cond.selects RX3 yX3_usableRoads yX3_usableRoads, Cond.code yX3_usableRoads cX3_usableRoads 3 (some .int), Cond.fieldLink RX3 43 "HeavyRoutes$Net" "roadCount" "I", Cond.fieldLink RX3 11 "HeavyRoutes$Net" "roads" "[LHeavyRoutes$Road;", Cond.methodLink RX3 120 yX3_whyNotBearing, Cond.instanceMethod yX3_whyNotBearing, Cond.selects RX3 yX3_whyNotBearing yX3_whyNotBearing, Cond.code yX3_whyNotBearing cX3_whyNotBearing 3 (some .int)]
def wsX9_run_r3 : List Cond := [Cond.fieldLink RX3 26 "HeavyRoutes$Net" "journey" "LHeavyRoutes$Journey;", Cond.fieldLink RX3 19 "HeavyRoutes$Net" "bridges" "[LHeavyRoutes$Bridge;", Cond.methodLink RX3 94 yX3_hasBridge, Cond.instanceMethod yX3_hasBridge, Cond.selects RX3 yX3_hasBridge yX3_hasBridge, Cond.code yX3_hasBridge cX3_hasBridge 2 (some .boolean), Cond.fieldLink RX3 46 "HeavyRoutes$Net" "bridgeCount" "I", Cond.methodLink RX3 112 yX6_earliestStart, Cond.instanceMethod yX6_earliestStart, Cond.selects RX6 yX6_earliestStart yX6_earliestStart, Cond.initialized RX6, Cond.code yX6_earliestStart cX6_earliestStart 5 (some .int), Cond.fieldLink RX6 48 "HeavyRoutes$Road" "barCount" "I", Cond.methodLink RX6 51 yX6_waitAt, Cond.instanceMethod yX6_waitAt, Cond.selects RX6 yX6_waitAt yX6_waitAt, Cond.code yX6_waitAt cX6_waitAt 6 (some .int), Cond.fieldLink RX6 19 "HeavyRoutes$Road" "barTo" "[I", Cond.fieldLink RX6 15 "HeavyRoutes$Road" "barFrom" "[I", Cond.methodLink RX6 54 Lib.Math.max.name, Cond.static Lib.Math.max.name, Cond.initialized "java/lang/Math", Cond.code Lib.Math.max.name Lib.Math.max.code 2 (some .int), Cond.methodLink RX1 83 yX1_goOn]
def wsX9_run_r4 : List Cond := [Cond.instanceMethod yX1_goOn, Cond.selects RX1 yX1_goOn yX1_goOn, Cond.code yX1_goOn cX1_goOn 5 none, Cond.methodLink RX1 87 yX1_consider, Cond.instanceMethod yX1_consider, Cond.selects RX1 yX1_consider yX1_consider, Cond.code yX1_consider cX1_consider 3 none, Cond.fieldLink RX1 22 "HeavyRoutes$Finder" "trial" "LHeavyRoutes$Way;", Cond.fieldLink RX1 25 "HeavyRoutes$Finder" "best" "LHeavyRoutes$Way;", Cond.methodLink RX1 129 yX3_bridgesOn, Cond.instanceMethod yX3_bridgesOn, Cond.selects RX3 yX3_bridgesOn yX3_bridgesOn, Cond.code yX3_bridgesOn cX3_bridgesOn 4 (some .int), Cond.methodLink RX1 136 yX7_collectRoads, Cond.instanceMethod yX7_collectRoads, Cond.selects RX7 yX7_collectRoads yX7_collectRoads, Cond.initialized RX7, Cond.code yX7_collectRoads cX7_collectRoads 2 none, Cond.fieldLink RX7 28 "HeavyRoutes$Way" "roadSet" "I", Cond.fieldLink RX7 18 "HeavyRoutes$Way" "length" "I", Cond.fieldLink RX7 9 "HeavyRoutes$Way" "roads" "[I", Cond.methodLink RX1 139 yX1_isAllowed, Cond.instanceMethod yX1_isAllowed, Cond.selects RX1 yX1_isAllowed yX1_isAllowed]
def wsX9_run_r5 : List Cond := [Cond.code yX1_isAllowed cX1_isAllowed 2 (some .boolean), Cond.fieldLink RX1 11 "HeavyRoutes$Finder" "found" "[LHeavyRoutes$Way;", Cond.fieldLink RX1 55 "HeavyRoutes$Finder" "mostShared" "I", Cond.methodLink RX1 150 yJ6_bitCount_0f7a4, Cond.static yJ6_bitCount_0f7a4, Cond.initialized RJ6, Cond.code yJ6_bitCount_0f7a4 cJ6_bitCount_0f7a4 1 (some .int), Cond.constant RJ6 265 (1431655765), Cond.constant RJ6 266 (858993459), Cond.constant RJ6 267 (252645135), Cond.methodLink RX1 143 yX7_isBetterThan, Cond.instanceMethod yX7_isBetterThan, Cond.selects RX7 yX7_isBetterThan yX7_isBetterThan, Cond.code yX7_isBetterThan cX7_isBetterThan 3 (some .boolean), Cond.fieldLink RX7 22 "HeavyRoutes$Way" "end" "I", Cond.fieldLink RX7 25 "HeavyRoutes$Way" "bridges" "I", Cond.methodLink RX1 61 yX7_copyFrom, Cond.instanceMethod yX7_copyFrom, Cond.selects RX7 yX7_copyFrom yX7_copyFrom, Cond.code yX7_copyFrom cX7_copyFrom 3 none, Cond.fieldLink RX7 15 "HeavyRoutes$Way" "starts" "[I", Cond.methodLink RX1 94 yX1_canTake, Cond.instanceMethod yX1_canTake, Cond.selects RX1 yX1_canTake yX1_canTake]
def wsX9_run_r6 : List Cond := [Cond.code yX1_canTake cX1_canTake 5 (some .boolean), Cond.methodLink RX1 106 yX6_nodeAcross, Cond.instanceMethod yX6_nodeAcross, Cond.selects RX6 yX6_nodeAcross yX6_nodeAcross, Cond.code yX6_nodeAcross cX6_nodeAcross 2 (some .int), Cond.fieldLink RX6 22 "HeavyRoutes$Road" "endA" "I", Cond.fieldLink RX6 25 "HeavyRoutes$Road" "endB" "I", Cond.methodLink RX1 115 yX6_isTurnBlocked, Cond.instanceMethod yX6_isTurnBlocked, Cond.selects RX6 yX6_isTurnBlocked yX6_isTurnBlocked, Cond.code yX6_isTurnBlocked cX6_isTurnBlocked 2 (some .boolean), Cond.fieldLink RX6 45 "HeavyRoutes$Road" "blockedTurns" "I", Cond.methodLink RX1 98 yX1_take, Cond.instanceMethod yX1_take, Cond.selects RX1 yX1_take yX1_take, Cond.code yX1_take cX1_take 7 none, Cond.methodLink RX1 119 yX6_earliestStart, Cond.methodLink RX1 125 yX3_endOfRoad, Cond.instanceMethod yX3_endOfRoad, Cond.selects RX3 yX3_endOfRoad yX3_endOfRoad, Cond.code yX3_endOfRoad cX3_endOfRoad 5 (some .int), Cond.methodLink RX9 170 yX1_keepBest, Cond.instanceMethod yX1_keepBest, Cond.selects RX1 yX1_keepBest yX1_keepBest]
def wsX9_run_r7 : List Cond := [Cond.code yX1_keepBest cX1_keepBest 1 (some .int)]
def wsX9_run : List Cond := .code yX9_run cX9_run 5 (some .int) :: ((wsX9_run_r1 ++ (wsX9_run_r2 ++ (wsX9_run_r3 ++ (wsX9_run_r4 ++ (wsX9_run_r5 ++ (wsX9_run_r6 ++ wsX9_run_r7)))))) ++ wsX90 ++ wsX30 ++ wsX10 ++ wsX60 ++ wsX20 ++ wsX00 ++ wsX70)
def wsX9_road2 : List Cond := .code yX9_road2 cX9_road2 3 (some .int) :: ([.fieldLink RX9 21 "HeavyRoutes" "finder" "LHeavyRoutes$Finder;", .methodLink RX9 177 yX1_atHand, .instanceMethod yX1_atHand, .selects RX1 yX1_atHand yX1_atHand, .initialized RX1, .code yX1_atHand cX1_atHand 1 (some (.object "HeavyRoutes$Way")), .fieldLink RX1 32 "HeavyRoutes$Finder" "foundCount" "I", .fieldLink RX1 11 "HeavyRoutes$Finder" "found" "[LHeavyRoutes$Way;", .fieldLink RX1 18 "HeavyRoutes$Finder" "noWay" "LHeavyRoutes$Way;", .methodLink RX9 181 yX7_hasPlace, .instanceMethod yX7_hasPlace, .selects RX7 yX7_hasPlace yX7_hasPlace, .initialized RX7, .code yX7_hasPlace cX7_hasPlace 2 (some .boolean), .fieldLink RX7 18 "HeavyRoutes$Way" "length" "I"] ++ wsX90 ++ wsX70 ++ wsX10)
def wsX9_begun : List Cond := .code yX9_begun cX9_begun 3 (some .int) :: ([.fieldLink RX9 21 "HeavyRoutes" "finder" "LHeavyRoutes$Finder;", .methodLink RX9 177 yX1_atHand, .instanceMethod yX1_atHand, .selects RX1 yX1_atHand yX1_atHand, .initialized RX1, .code yX1_atHand cX1_atHand 1 (some (.object "HeavyRoutes$Way")), .fieldLink RX1 32 "HeavyRoutes$Finder" "foundCount" "I", .fieldLink RX1 11 "HeavyRoutes$Finder" "found" "[LHeavyRoutes$Way;", .fieldLink RX1 18 "HeavyRoutes$Finder" "noWay" "LHeavyRoutes$Way;", .methodLink RX9 181 yX7_hasPlace, .instanceMethod yX7_hasPlace, .selects RX7 yX7_hasPlace yX7_hasPlace, .initialized RX7, .code yX7_hasPlace cX7_hasPlace 2 (some .boolean), .fieldLink RX7 18 "HeavyRoutes$Way" "length" "I"] ++ wsX90 ++ wsX70 ++ wsX10)
def wsX9_bars : List Cond := .code yX9_bars cX9_bars 6 (some .int) :: ([.fieldLink RX9 12 "HeavyRoutes" "net" "LHeavyRoutes$Net;", .methodLink RX9 42 yX9_isWithin, .static yX9_isWithin, .initialized RX9, .code yX9_isWithin cX9_isWithin 6 (some .boolean), .methodLink RX9 191 yX3_whyNotBearing, .instanceMethod yX3_whyNotBearing, .selects RX3 yX3_whyNotBearing yX3_whyNotBearing, .initialized RX3, .code yX3_whyNotBearing cX3_whyNotBearing 3 (some .int), .fieldLink RX3 11 "HeavyRoutes$Net" "roads" "[LHeavyRoutes$Road;", .fieldLink RX3 26 "HeavyRoutes$Net" "journey" "LHeavyRoutes$Journey;", .fieldLink RX3 19 "HeavyRoutes$Net" "bridges" "[LHeavyRoutes$Bridge;", .methodLink RX3 94 yX3_hasBridge, .instanceMethod yX3_hasBridge, .selects RX3 yX3_hasBridge yX3_hasBridge, .code yX3_hasBridge cX3_hasBridge 2 (some .boolean), .fieldLink RX3 46 "HeavyRoutes$Net" "bridgeCount" "I"] ++ wsX90 ++ wsX30 ++ wsX60 ++ wsX20 ++ wsX00)
def wsX9_alternate_r1 : List Cond := [Cond.constantLong RX9 195 (100), Cond.fieldLink RX9 21 "HeavyRoutes" "finder" "LHeavyRoutes$Finder;", Cond.methodLink RX9 42 yX9_isWithin, Cond.static yX9_isWithin, Cond.initialized RX9, Cond.code yX9_isWithin cX9_isWithin 6 (some .boolean), Cond.methodLink RX9 200 yX1_limitSharing, Cond.instanceMethod yX1_limitSharing, Cond.selects RX1 yX1_limitSharing yX1_limitSharing, Cond.initialized RX1, Cond.code yX1_limitSharing cX1_limitSharing 5 none, Cond.fieldLink RX1 11 "HeavyRoutes$Finder" "found" "[LHeavyRoutes$Way;", Cond.fieldLink RX1 55 "HeavyRoutes$Finder" "mostShared" "I", Cond.methodLink RX9 167 yX1_lookThrough, Cond.instanceMethod yX1_lookThrough, Cond.selects RX1 yX1_lookThrough yX1_lookThrough, Cond.code yX1_lookThrough cX1_lookThrough 1 none, Cond.fieldLink RX1 28 "HeavyRoutes$Finder" "net" "LHeavyRoutes$Net;", Cond.fieldLink RX1 74 "HeavyRoutes$Finder" "usable" "I", Cond.fieldLink RX1 43 "HeavyRoutes$Finder" "from" "I", Cond.fieldLink RX1 77 "HeavyRoutes$Finder" "visited" "I", Cond.fieldLink RX1 80 "HeavyRoutes$Finder" "wayCount" "I", Cond.fieldLink RX1 58 "HeavyRoutes$Finder" "hasBest" "Z", Cond.fieldLink RX1 39 "HeavyRoutes$Finder" "hasBegun" "Z"]
def wsX9_alternate_r2 : List Cond := [Cond.fieldLink RX1 49 "HeavyRoutes$Finder" "minute" "I", Cond.methodLink RX1 68 yX3_usableRoads, Cond.instanceMethod yX3_usableRoads, Cond.selects RX3 yX3_usableRoads yX3_usableRoads, Cond.initialized RX3, Cond.code yX3_usableRoads cX3_usableRoads 3 (some .int), Cond.fieldLink RX3 43 "HeavyRoutes$Net" "roadCount" "I", Cond.fieldLink RX3 11 "HeavyRoutes$Net" "roads" "[LHeavyRoutes$Road;", Cond.methodLink RX3 120 yX3_whyNotBearing, Cond.instanceMethod yX3_whyNotBearing, Cond.selects RX3 yX3_whyNotBearing yX3_whyNotBearing, Cond.code yX3_whyNotBearing cX3_whyNotBearing 3 (some .int), Cond.fieldLink RX3 26 "HeavyRoutes$Net" "journey" "LHeavyRoutes$Journey;", Cond.fieldLink RX3 19 "HeavyRoutes$Net" "bridges" "[LHeavyRoutes$Bridge;", Cond.methodLink RX3 94 yX3_hasBridge, Cond.instanceMethod yX3_hasBridge, Cond.selects RX3 yX3_hasBridge yX3_hasBridge, Cond.code yX3_hasBridge cX3_hasBridge 2 (some .boolean), Cond.fieldLink RX3 46 "HeavyRoutes$Net" "bridgeCount" "I", Cond.methodLink RX3 112 yX6_earliestStart, Cond.instanceMethod yX6_earliestStart, Cond.selects RX6 yX6_earliestStart yX6_earliestStart, Cond.initialized RX6, Cond.code yX6_earliestStart cX6_earliestStart 5 (some .int)]
def wsX9_alternate_r3 : List Cond := [Cond.fieldLink RX6 48 "HeavyRoutes$Road" "barCount" "I", Cond.methodLink RX6 51 yX6_waitAt, Cond.instanceMethod yX6_waitAt, Cond.selects RX6 yX6_waitAt yX6_waitAt, Cond.code yX6_waitAt cX6_waitAt 6 (some .int), Cond.fieldLink RX6 19 "HeavyRoutes$Road" "barTo" "[I", Cond.fieldLink RX6 15 "HeavyRoutes$Road" "barFrom" "[I", Cond.methodLink RX6 54 Lib.Math.max.name, Cond.static Lib.Math.max.name, Cond.initialized "java/lang/Math", Cond.code Lib.Math.max.name Lib.Math.max.code 2 (some .int), Cond.methodLink RX1 83 yX1_goOn, Cond.instanceMethod yX1_goOn, Cond.selects RX1 yX1_goOn yX1_goOn, Cond.code yX1_goOn cX1_goOn 5 none, Cond.fieldLink RX1 46 "HeavyRoutes$Finder" "to" "I", Cond.methodLink RX1 87 yX1_consider, Cond.instanceMethod yX1_consider, Cond.selects RX1 yX1_consider yX1_consider, Cond.code yX1_consider cX1_consider 3 none, Cond.fieldLink RX1 22 "HeavyRoutes$Finder" "trial" "LHeavyRoutes$Way;", Cond.fieldLink RX1 25 "HeavyRoutes$Finder" "best" "LHeavyRoutes$Way;", Cond.methodLink RX1 129 yX3_bridgesOn, Cond.instanceMethod yX3_bridgesOn]
def wsX9_alternate_r4 : List Cond := [Cond.selects RX3 yX3_bridgesOn yX3_bridgesOn, Cond.code yX3_bridgesOn cX3_bridgesOn 4 (some .int), Cond.methodLink RX1 136 yX7_collectRoads, Cond.instanceMethod yX7_collectRoads, Cond.selects RX7 yX7_collectRoads yX7_collectRoads, Cond.initialized RX7, Cond.code yX7_collectRoads cX7_collectRoads 2 none, Cond.fieldLink RX7 28 "HeavyRoutes$Way" "roadSet" "I", Cond.fieldLink RX7 18 "HeavyRoutes$Way" "length" "I", Cond.fieldLink RX7 9 "HeavyRoutes$Way" "roads" "[I", Cond.methodLink RX1 139 yX1_isAllowed, Cond.instanceMethod yX1_isAllowed, Cond.selects RX1 yX1_isAllowed yX1_isAllowed, Cond.code yX1_isAllowed cX1_isAllowed 2 (some .boolean), Cond.fieldLink RX1 32 "HeavyRoutes$Finder" "foundCount" "I", Cond.methodLink RX1 150 yJ6_bitCount_0f7a4, Cond.static yJ6_bitCount_0f7a4, Cond.initialized RJ6, Cond.code yJ6_bitCount_0f7a4 cJ6_bitCount_0f7a4 1 (some .int), Cond.constant RJ6 265 (1431655765), Cond.constant RJ6 266 (858993459), Cond.constant RJ6 267 (252645135), Cond.methodLink RX1 143 yX7_isBetterThan, Cond.instanceMethod yX7_isBetterThan]
def wsX9_alternate_r5 : List Cond := [Cond.selects RX7 yX7_isBetterThan yX7_isBetterThan, Cond.code yX7_isBetterThan cX7_isBetterThan 3 (some .boolean), Cond.fieldLink RX7 22 "HeavyRoutes$Way" "end" "I", Cond.fieldLink RX7 25 "HeavyRoutes$Way" "bridges" "I", Cond.methodLink RX1 61 yX7_copyFrom, Cond.instanceMethod yX7_copyFrom, Cond.selects RX7 yX7_copyFrom yX7_copyFrom, Cond.code yX7_copyFrom cX7_copyFrom 3 none, Cond.fieldLink RX7 15 "HeavyRoutes$Way" "starts" "[I", Cond.methodLink RX1 94 yX1_canTake, Cond.instanceMethod yX1_canTake, Cond.selects RX1 yX1_canTake yX1_canTake, Cond.code yX1_canTake cX1_canTake 5 (some .boolean), Cond.methodLink RX1 106 yX6_nodeAcross, Cond.instanceMethod yX6_nodeAcross, Cond.selects RX6 yX6_nodeAcross yX6_nodeAcross, Cond.code yX6_nodeAcross cX6_nodeAcross 2 (some .int), Cond.fieldLink RX6 22 "HeavyRoutes$Road" "endA" "I", Cond.fieldLink RX6 25 "HeavyRoutes$Road" "endB" "I", Cond.methodLink RX1 115 yX6_isTurnBlocked, Cond.instanceMethod yX6_isTurnBlocked, Cond.selects RX6 yX6_isTurnBlocked yX6_isTurnBlocked, Cond.code yX6_isTurnBlocked cX6_isTurnBlocked 2 (some .boolean), Cond.fieldLink RX6 45 "HeavyRoutes$Road" "blockedTurns" "I"]
def wsX9_alternate_r6 : List Cond := [Cond.methodLink RX1 98 yX1_take, Cond.instanceMethod yX1_take, Cond.selects RX1 yX1_take yX1_take, Cond.code yX1_take cX1_take 7 none, Cond.methodLink RX1 119 yX6_earliestStart, Cond.methodLink RX1 125 yX3_endOfRoad, Cond.instanceMethod yX3_endOfRoad, Cond.selects RX3 yX3_endOfRoad yX3_endOfRoad, Cond.code yX3_endOfRoad cX3_endOfRoad 5 (some .int), Cond.methodLink RX9 170 yX1_keepBest, Cond.instanceMethod yX1_keepBest, Cond.selects RX1 yX1_keepBest yX1_keepBest, Cond.code yX1_keepBest cX1_keepBest 1 (some .int)]
def wsX9_alternate : List Cond := .code yX9_alternate cX9_alternate 5 (some .int) :: ((wsX9_alternate_r1 ++ (wsX9_alternate_r2 ++ (wsX9_alternate_r3 ++ (wsX9_alternate_r4 ++ (wsX9_alternate_r5 ++ wsX9_alternate_r6))))) ++ wsX90 ++ wsX10 ++ wsX70 ++ wsX30 ++ wsX60 ++ wsX20 ++ wsX00)
def wsX9_slow : List Cond := .code yX9_slow cX9_slow 4 (some .int) :: ([.fieldLink RX9 12 "HeavyRoutes" "net" "LHeavyRoutes$Net;", .fieldLink RX9 21 "HeavyRoutes" "finder" "LHeavyRoutes$Finder;", .methodLink RX9 71 yX3_hasBridge, .instanceMethod yX3_hasBridge, .selects RX3 yX3_hasBridge yX3_hasBridge, .initialized RX3, .code yX3_hasBridge cX3_hasBridge 2 (some .boolean), .fieldLink RX3 46 "HeavyRoutes$Net" "bridgeCount" "I", .methodLink RX9 49 yX1_forget, .instanceMethod yX1_forget, .selects RX1 yX1_forget yX1_forget, .initialized RX1, .code yX1_forget cX1_forget 1 none, .fieldLink RX1 32 "HeavyRoutes$Finder" "foundCount" "I"] ++ wsX90 ++ wsX30 ++ wsX00 ++ wsX10)
def wsX9_convoy_r1 : List Cond := [Cond.fieldLink RX9 21 "HeavyRoutes" "finder" "LHeavyRoutes$Finder;", Cond.constantLong RX9 207 (20), Cond.constantLong RX9 40 (600), Cond.fieldLink RX9 12 "HeavyRoutes" "net" "LHeavyRoutes$Net;", Cond.methodLink RX9 216 Lib.Math.max.name, Cond.static Lib.Math.max.name, Cond.initialized "java/lang/Math", Cond.code Lib.Math.max.name Lib.Math.max.code 2 (some .int), Cond.methodLink RX9 42 yX9_isWithin, Cond.static yX9_isWithin, Cond.initialized RX9, Cond.code yX9_isWithin cX9_isWithin 6 (some .boolean), Cond.methodLink RX9 177 yX1_atHand, Cond.instanceMethod yX1_atHand, Cond.selects RX1 yX1_atHand yX1_atHand, Cond.initialized RX1, Cond.code yX1_atHand cX1_atHand 1 (some (.object "HeavyRoutes$Way")), Cond.fieldLink RX1 32 "HeavyRoutes$Finder" "foundCount" "I", Cond.fieldLink RX1 11 "HeavyRoutes$Finder" "found" "[LHeavyRoutes$Way;", Cond.fieldLink RX1 18 "HeavyRoutes$Finder" "noWay" "LHeavyRoutes$Way;", Cond.methodLink RX9 212 yX3_endOfDrive, Cond.instanceMethod yX3_endOfDrive, Cond.selects RX3 yX3_endOfDrive yX3_endOfDrive, Cond.initialized RX3]
def wsX9_convoy_r2 : List Cond := [Cond.code yX3_endOfDrive cX3_endOfDrive 5 (some .int), Cond.fieldLink RX3 11 "HeavyRoutes$Net" "roads" "[LHeavyRoutes$Road;", Cond.methodLink RX3 112 yX6_earliestStart, Cond.instanceMethod yX6_earliestStart, Cond.selects RX6 yX6_earliestStart yX6_earliestStart, Cond.initialized RX6, Cond.code yX6_earliestStart cX6_earliestStart 5 (some .int), Cond.fieldLink RX6 48 "HeavyRoutes$Road" "barCount" "I", Cond.methodLink RX6 51 yX6_waitAt, Cond.instanceMethod yX6_waitAt, Cond.selects RX6 yX6_waitAt yX6_waitAt, Cond.code yX6_waitAt cX6_waitAt 6 (some .int), Cond.fieldLink RX6 19 "HeavyRoutes$Road" "barTo" "[I", Cond.fieldLink RX6 15 "HeavyRoutes$Road" "barFrom" "[I", Cond.methodLink RX6 54 Lib.Math.max.name, Cond.methodLink RX3 116 yX3_endOfRoad, Cond.instanceMethod yX3_endOfRoad, Cond.selects RX3 yX3_endOfRoad yX3_endOfRoad, Cond.code yX3_endOfRoad cX3_endOfRoad 5 (some .int), Cond.fieldLink RX3 19 "HeavyRoutes$Net" "bridges" "[LHeavyRoutes$Bridge;", Cond.methodLink RX3 94 yX3_hasBridge, Cond.instanceMethod yX3_hasBridge, Cond.selects RX3 yX3_hasBridge yX3_hasBridge, Cond.code yX3_hasBridge cX3_hasBridge 2 (some .boolean)]
def wsX9_convoy_r3 : List Cond := [Cond.fieldLink RX3 46 "HeavyRoutes$Net" "bridgeCount" "I"]
def wsX9_convoy : List Cond := .code yX9_convoy cX9_convoy 5 (some .int) :: ((wsX9_convoy_r1 ++ (wsX9_convoy_r2 ++ wsX9_convoy_r3)) ++ wsX90 ++ wsX10 ++ wsX70 ++ wsX30 ++ wsX60 ++ wsX00)
def wsX9_escort : List Cond := .code yX9_escort cX9_escort 5 (some .int) :: ([.fieldLink RX9 21 "HeavyRoutes" "finder" "LHeavyRoutes$Finder;", .fieldLink RX9 12 "HeavyRoutes" "net" "LHeavyRoutes$Net;", .methodLink RX9 177 yX1_atHand, .instanceMethod yX1_atHand, .selects RX1 yX1_atHand yX1_atHand, .initialized RX1, .code yX1_atHand cX1_atHand 1 (some (.object "HeavyRoutes$Way")), .fieldLink RX1 32 "HeavyRoutes$Finder" "foundCount" "I", .fieldLink RX1 11 "HeavyRoutes$Finder" "found" "[LHeavyRoutes$Way;", .fieldLink RX1 18 "HeavyRoutes$Finder" "noWay" "LHeavyRoutes$Way;", .methodLink RX9 225 yX3_wantsEscort, .instanceMethod yX3_wantsEscort, .selects RX3 yX3_wantsEscort yX3_wantsEscort, .initialized RX3, .code yX3_wantsEscort cX3_wantsEscort 3 (some .boolean), .fieldLink RX3 11 "HeavyRoutes$Net" "roads" "[LHeavyRoutes$Road;", .fieldLink RX3 26 "HeavyRoutes$Net" "journey" "LHeavyRoutes$Journey;", .fieldLink RX3 19 "HeavyRoutes$Net" "bridges" "[LHeavyRoutes$Bridge;", .methodLink RX3 94 yX3_hasBridge, .instanceMethod yX3_hasBridge, .selects RX3 yX3_hasBridge yX3_hasBridge, .code yX3_hasBridge cX3_hasBridge 2 (some .boolean), .fieldLink RX3 46 "HeavyRoutes$Net" "bridgeCount" "I"] ++ wsX90 ++ wsX70 ++ wsX10 ++ wsX30 ++ wsX60 ++ wsX20 ++ wsX00)
def wsX9_notice : List Cond := .code yX9_notice cX9_notice 6 (some .int) :: ([.fieldLink RX9 21 "HeavyRoutes" "finder" "LHeavyRoutes$Finder;", .fieldLink RX9 12 "HeavyRoutes" "net" "LHeavyRoutes$Net;", .methodLink RX9 177 yX1_atHand, .instanceMethod yX1_atHand, .selects RX1 yX1_atHand yX1_atHand, .initialized RX1, .code yX1_atHand cX1_atHand 1 (some (.object "HeavyRoutes$Way")), .fieldLink RX1 32 "HeavyRoutes$Finder" "foundCount" "I", .fieldLink RX1 11 "HeavyRoutes$Finder" "found" "[LHeavyRoutes$Way;", .fieldLink RX1 18 "HeavyRoutes$Finder" "noWay" "LHeavyRoutes$Way;"] ++ wsX90 ++ wsX70 ++ wsX30 ++ wsX60 ++ wsX10)
def wsX9_record : List Cond := .code yX9_record cX9_record 2 (some .int) :: ([.fieldLink RX9 174 "HeavyRoutes" "recordCount" "I", .fieldLink RX9 25 "HeavyRoutes" "records" "[I"] ++ wsX90)
def wsX9_change : List Cond := .code yX9_change cX9_change 4 (some .int) :: ([.fieldLink RX9 12 "HeavyRoutes" "net" "LHeavyRoutes$Net;", .fieldLink RX9 21 "HeavyRoutes" "finder" "LHeavyRoutes$Finder;", .methodLink RX9 62 yX3_hasRoad, .instanceMethod yX3_hasRoad, .selects RX3 yX3_hasRoad yX3_hasRoad, .initialized RX3, .code yX3_hasRoad cX3_hasRoad 2 (some .boolean), .fieldLink RX3 43 "HeavyRoutes$Net" "roadCount" "I", .methodLink RX9 49 yX1_forget, .instanceMethod yX1_forget, .selects RX1 yX1_forget yX1_forget, .initialized RX1, .code yX1_forget cX1_forget 1 none, .fieldLink RX1 32 "HeavyRoutes$Finder" "foundCount" "I"] ++ wsX90 ++ wsX30 ++ wsX60 ++ wsX10)
def wsX9_count_r1 : List Cond := [Cond.fieldLink RX9 12 "HeavyRoutes" "net" "LHeavyRoutes$Net;", Cond.fieldLink RX9 21 "HeavyRoutes" "finder" "LHeavyRoutes$Finder;", Cond.methodLink RX9 177 yX1_atHand, Cond.instanceMethod yX1_atHand, Cond.selects RX1 yX1_atHand yX1_atHand, Cond.initialized RX1, Cond.code yX1_atHand cX1_atHand 1 (some (.object "HeavyRoutes$Way")), Cond.fieldLink RX1 32 "HeavyRoutes$Finder" "foundCount" "I", Cond.fieldLink RX1 11 "HeavyRoutes$Finder" "found" "[LHeavyRoutes$Way;", Cond.fieldLink RX1 18 "HeavyRoutes$Finder" "noWay" "LHeavyRoutes$Way;", Cond.methodLink RX9 167 yX1_lookThrough, Cond.instanceMethod yX1_lookThrough, Cond.selects RX1 yX1_lookThrough yX1_lookThrough, Cond.code yX1_lookThrough cX1_lookThrough 1 none, Cond.fieldLink RX1 28 "HeavyRoutes$Finder" "net" "LHeavyRoutes$Net;", Cond.fieldLink RX1 74 "HeavyRoutes$Finder" "usable" "I", Cond.fieldLink RX1 43 "HeavyRoutes$Finder" "from" "I", Cond.fieldLink RX1 77 "HeavyRoutes$Finder" "visited" "I", Cond.fieldLink RX1 80 "HeavyRoutes$Finder" "wayCount" "I", Cond.fieldLink RX1 58 "HeavyRoutes$Finder" "hasBest" "Z", Cond.fieldLink RX1 39 "HeavyRoutes$Finder" "hasBegun" "Z", Cond.fieldLink RX1 49 "HeavyRoutes$Finder" "minute" "I", Cond.methodLink RX1 68 yX3_usableRoads, Cond.instanceMethod yX3_usableRoads]
def wsX9_count_r2 : List Cond := [Cond.selects RX3 yX3_usableRoads yX3_usableRoads, Cond.initialized RX3, Cond.code yX3_usableRoads cX3_usableRoads 3 (some .int), Cond.fieldLink RX3 43 "HeavyRoutes$Net" "roadCount" "I", Cond.fieldLink RX3 11 "HeavyRoutes$Net" "roads" "[LHeavyRoutes$Road;", Cond.methodLink RX3 120 yX3_whyNotBearing, Cond.instanceMethod yX3_whyNotBearing, Cond.selects RX3 yX3_whyNotBearing yX3_whyNotBearing, Cond.code yX3_whyNotBearing cX3_whyNotBearing 3 (some .int), Cond.fieldLink RX3 26 "HeavyRoutes$Net" "journey" "LHeavyRoutes$Journey;", Cond.fieldLink RX3 19 "HeavyRoutes$Net" "bridges" "[LHeavyRoutes$Bridge;", Cond.methodLink RX3 94 yX3_hasBridge, Cond.instanceMethod yX3_hasBridge, Cond.selects RX3 yX3_hasBridge yX3_hasBridge, Cond.code yX3_hasBridge cX3_hasBridge 2 (some .boolean), Cond.fieldLink RX3 46 "HeavyRoutes$Net" "bridgeCount" "I", Cond.methodLink RX3 112 yX6_earliestStart, Cond.instanceMethod yX6_earliestStart, Cond.selects RX6 yX6_earliestStart yX6_earliestStart, Cond.initialized RX6, Cond.code yX6_earliestStart cX6_earliestStart 5 (some .int), Cond.fieldLink RX6 48 "HeavyRoutes$Road" "barCount" "I", Cond.methodLink RX6 51 yX6_waitAt, Cond.instanceMethod yX6_waitAt]
def wsX9_count_r3 : List Cond := [Cond.selects RX6 yX6_waitAt yX6_waitAt, Cond.code yX6_waitAt cX6_waitAt 6 (some .int), Cond.fieldLink RX6 19 "HeavyRoutes$Road" "barTo" "[I", Cond.fieldLink RX6 15 "HeavyRoutes$Road" "barFrom" "[I", Cond.methodLink RX6 54 Lib.Math.max.name, Cond.static Lib.Math.max.name, Cond.initialized "java/lang/Math", Cond.code Lib.Math.max.name Lib.Math.max.code 2 (some .int), Cond.methodLink RX1 83 yX1_goOn, Cond.instanceMethod yX1_goOn, Cond.selects RX1 yX1_goOn yX1_goOn, Cond.code yX1_goOn cX1_goOn 5 none, Cond.fieldLink RX1 46 "HeavyRoutes$Finder" "to" "I", Cond.methodLink RX1 87 yX1_consider, Cond.instanceMethod yX1_consider, Cond.selects RX1 yX1_consider yX1_consider, Cond.code yX1_consider cX1_consider 3 none, Cond.fieldLink RX1 22 "HeavyRoutes$Finder" "trial" "LHeavyRoutes$Way;", Cond.fieldLink RX1 25 "HeavyRoutes$Finder" "best" "LHeavyRoutes$Way;", Cond.methodLink RX1 129 yX3_bridgesOn, Cond.instanceMethod yX3_bridgesOn, Cond.selects RX3 yX3_bridgesOn yX3_bridgesOn, Cond.code yX3_bridgesOn cX3_bridgesOn 4 (some .int), Cond.methodLink RX1 136 yX7_collectRoads]
def wsX9_count_r4 : List Cond := [Cond.instanceMethod yX7_collectRoads, Cond.selects RX7 yX7_collectRoads yX7_collectRoads, Cond.initialized RX7, Cond.code yX7_collectRoads cX7_collectRoads 2 none, Cond.fieldLink RX7 28 "HeavyRoutes$Way" "roadSet" "I", Cond.fieldLink RX7 18 "HeavyRoutes$Way" "length" "I", Cond.fieldLink RX7 9 "HeavyRoutes$Way" "roads" "[I", Cond.methodLink RX1 139 yX1_isAllowed, Cond.instanceMethod yX1_isAllowed, Cond.selects RX1 yX1_isAllowed yX1_isAllowed, Cond.code yX1_isAllowed cX1_isAllowed 2 (some .boolean), Cond.fieldLink RX1 55 "HeavyRoutes$Finder" "mostShared" "I", Cond.methodLink RX1 150 yJ6_bitCount_0f7a4, Cond.static yJ6_bitCount_0f7a4, Cond.initialized RJ6, Cond.code yJ6_bitCount_0f7a4 cJ6_bitCount_0f7a4 1 (some .int), Cond.constant RJ6 265 (1431655765), Cond.constant RJ6 266 (858993459), Cond.constant RJ6 267 (252645135), Cond.methodLink RX1 143 yX7_isBetterThan, Cond.instanceMethod yX7_isBetterThan, Cond.selects RX7 yX7_isBetterThan yX7_isBetterThan, Cond.code yX7_isBetterThan cX7_isBetterThan 3 (some .boolean), Cond.fieldLink RX7 22 "HeavyRoutes$Way" "end" "I"]
def wsX9_count_r5 : List Cond := [Cond.fieldLink RX7 25 "HeavyRoutes$Way" "bridges" "I", Cond.methodLink RX1 61 yX7_copyFrom, Cond.instanceMethod yX7_copyFrom, Cond.selects RX7 yX7_copyFrom yX7_copyFrom, Cond.code yX7_copyFrom cX7_copyFrom 3 none, Cond.fieldLink RX7 15 "HeavyRoutes$Way" "starts" "[I", Cond.methodLink RX1 94 yX1_canTake, Cond.instanceMethod yX1_canTake, Cond.selects RX1 yX1_canTake yX1_canTake, Cond.code yX1_canTake cX1_canTake 5 (some .boolean), Cond.methodLink RX1 106 yX6_nodeAcross, Cond.instanceMethod yX6_nodeAcross, Cond.selects RX6 yX6_nodeAcross yX6_nodeAcross, Cond.code yX6_nodeAcross cX6_nodeAcross 2 (some .int), Cond.fieldLink RX6 22 "HeavyRoutes$Road" "endA" "I", Cond.fieldLink RX6 25 "HeavyRoutes$Road" "endB" "I", Cond.methodLink RX1 115 yX6_isTurnBlocked, Cond.instanceMethod yX6_isTurnBlocked, Cond.selects RX6 yX6_isTurnBlocked yX6_isTurnBlocked, Cond.code yX6_isTurnBlocked cX6_isTurnBlocked 2 (some .boolean), Cond.fieldLink RX6 45 "HeavyRoutes$Road" "blockedTurns" "I", Cond.methodLink RX1 98 yX1_take, Cond.instanceMethod yX1_take, Cond.selects RX1 yX1_take yX1_take]
def wsX9_count_r6 : List Cond := [Cond.code yX1_take cX1_take 7 none, Cond.methodLink RX1 119 yX6_earliestStart, Cond.methodLink RX1 125 yX3_endOfRoad, Cond.instanceMethod yX3_endOfRoad, Cond.selects RX3 yX3_endOfRoad yX3_endOfRoad, Cond.code yX3_endOfRoad cX3_endOfRoad 5 (some .int)]
def wsX9_count : List Cond := .code yX9_count cX9_count 2 (some .int) :: ((wsX9_count_r1 ++ (wsX9_count_r2 ++ (wsX9_count_r3 ++ (wsX9_count_r4 ++ (wsX9_count_r5 ++ wsX9_count_r6))))) ++ wsX90 ++ wsX30 ++ wsX20 ++ wsX70 ++ wsX10 ++ wsX60 ++ wsX00)
def wsX10_init_r1 : List Cond := [Cond.methodLink RX10 1 objectInit, Cond.instanceMethod objectInit, Cond.code objectInit ⟨#[0xb1]⟩ 1 none, Cond.arrayClass .int, Cond.fieldLink RX10 7 "HeavyRoutesModel" "as" "[I", Cond.fieldLink RX10 13 "HeavyRoutesModel" "bs" "[I", Cond.fieldLink RX10 16 "HeavyRoutesModel" "minutes" "[I", Cond.fieldLink RX10 19 "HeavyRoutesModel" "heights" "[I", Cond.fieldLink RX10 22 "HeavyRoutesModel" "widths" "[I", Cond.arrayClass .boolean, Cond.fieldLink RX10 25 "HeavyRoutesModel" "open" "[Z", Cond.fieldLink RX10 29 "HeavyRoutesModel" "bridgeOf" "[I", Cond.fieldLink RX10 32 "HeavyRoutesModel" "hourCounts" "[I", Cond.fieldLink RX10 35 "HeavyRoutesModel" "hourFroms" "[I", Cond.fieldLink RX10 38 "HeavyRoutesModel" "hourTos" "[I", Cond.fieldLink RX10 41 "HeavyRoutesModel" "noTurn" "[Z", Cond.fieldLink RX10 44 "HeavyRoutesModel" "isSlow" "[Z", Cond.fieldLink RX10 47 "HeavyRoutesModel" "cornerCounts" "[I", Cond.fieldLink RX10 50 "HeavyRoutesModel" "places" "[I", Cond.fieldLink RX10 53 "HeavyRoutesModel" "aboves" "[I", Cond.fieldLink RX10 56 "HeavyRoutesModel" "belows" "[I", Cond.fieldLink RX10 59 "HeavyRoutesModel" "offsets" "[I", Cond.fieldLink RX10 62 "HeavyRoutesModel" "loads" "[I", Cond.fieldLink RX10 65 "HeavyRoutesModel" "height" "I"]
def wsX10_init_r2 : List Cond := [Cond.fieldLink RX10 69 "HeavyRoutesModel" "width" "I", Cond.fieldLink RX10 72 "HeavyRoutesModel" "foundRoads" "[I", Cond.fieldLink RX10 75 "HeavyRoutesModel" "foundSizes" "[I", Cond.fieldLink RX10 78 "HeavyRoutesModel" "recorded" "[I", Cond.fieldLink RX10 81 "HeavyRoutesModel" "way" "[I", Cond.fieldLink RX10 84 "HeavyRoutesModel" "seen" "[Z", Cond.fieldLink RX10 87 "HeavyRoutesModel" "best" "[I", Cond.fieldLink RX10 90 "HeavyRoutesModel" "bears" "[Z", Cond.fieldLink RX10 93 "HeavyRoutesModel" "ats" "[I", Cond.fieldLink RX10 96 "HeavyRoutesModel" "tried" "[I"]
def wsX10_init : List Cond := .code yX10_init cX10_init 1 none :: ((wsX10_init_r1 ++ wsX10_init_r2) ++ wsX100)
def wsX10_in : List Cond := .code yX10_in cX10_in 6 (some .boolean) :: ([])
def wsX10_isRoad : List Cond := .code yX10_isRoad cX10_isRoad 2 (some .boolean) :: ([.fieldLink RX10 99 "HeavyRoutesModel" "roads" "I", .methodLink RX10 102 yX10_in, .static yX10_in, .initialized RX10, .code yX10_in cX10_in 6 (some .boolean)] ++ wsX100)
def wsX10_isBridge : List Cond := .code yX10_isBridge cX10_isBridge 2 (some .boolean) :: ([.fieldLink RX10 106 "HeavyRoutesModel" "bridges" "I", .methodLink RX10 102 yX10_in, .static yX10_in, .initialized RX10, .code yX10_in cX10_in 6 (some .boolean)] ++ wsX100)
def wsX10_forget : List Cond := .code yX10_forget cX10_forget 1 none :: ([.fieldLink RX10 109 "HeavyRoutesModel" "found" "I"] ++ wsX100)
def wsX10_node : List Cond := .code yX10_node cX10_node 1 (some .int) :: ([.fieldLink RX10 112 "HeavyRoutesModel" "nodes" "I"] ++ wsX100)
def wsX10_road : List Cond := .code yX10_road cX10_road 6 (some .int) :: ([.fieldLink RX10 112 "HeavyRoutesModel" "nodes" "I", .constantLong RX10 115 (600), .constantLong RX10 117 (9999), .fieldLink RX10 99 "HeavyRoutesModel" "roads" "I", .fieldLink RX10 7 "HeavyRoutesModel" "as" "[I", .fieldLink RX10 13 "HeavyRoutesModel" "bs" "[I", .fieldLink RX10 16 "HeavyRoutesModel" "minutes" "[I", .fieldLink RX10 19 "HeavyRoutesModel" "heights" "[I", .fieldLink RX10 22 "HeavyRoutesModel" "widths" "[I", .fieldLink RX10 25 "HeavyRoutesModel" "open" "[Z", .fieldLink RX10 29 "HeavyRoutesModel" "bridgeOf" "[I", .methodLink RX10 102 yX10_in, .static yX10_in, .initialized RX10, .code yX10_in cX10_in 6 (some .boolean), .methodLink RX10 119 yX10_forget, .instanceMethod yX10_forget, .selects RX10 yX10_forget yX10_forget, .code yX10_forget cX10_forget 1 none, .fieldLink RX10 109 "HeavyRoutesModel" "found" "I"] ++ wsX100)
def wsX10_bridge : List Cond := .code yX10_bridge cX10_bridge 2 (some .int) :: ([.fieldLink RX10 29 "HeavyRoutesModel" "bridgeOf" "[I", .fieldLink RX10 106 "HeavyRoutesModel" "bridges" "I", .methodLink RX10 122 yX10_isRoad, .instanceMethod yX10_isRoad, .selects RX10 yX10_isRoad yX10_isRoad, .initialized RX10, .code yX10_isRoad cX10_isRoad 2 (some .boolean), .fieldLink RX10 99 "HeavyRoutesModel" "roads" "I", .methodLink RX10 102 yX10_in, .static yX10_in, .code yX10_in cX10_in 6 (some .boolean), .methodLink RX10 119 yX10_forget, .instanceMethod yX10_forget, .selects RX10 yX10_forget yX10_forget, .code yX10_forget cX10_forget 1 none, .fieldLink RX10 109 "HeavyRoutesModel" "found" "I"] ++ wsX100)
def wsX10_row : List Cond := .code yX10_row cX10_row 9 (some .boolean) :: ([.constantLong RX10 129 (60), .constantLong RX10 131 (-1000), .constantLong RX10 133 (1000), .fieldLink RX10 47 "HeavyRoutesModel" "cornerCounts" "[I", .fieldLink RX10 50 "HeavyRoutesModel" "places" "[I", .fieldLink RX10 53 "HeavyRoutesModel" "aboves" "[I", .fieldLink RX10 56 "HeavyRoutesModel" "belows" "[I", .methodLink RX10 126 yX10_isBridge, .instanceMethod yX10_isBridge, .selects RX10 yX10_isBridge yX10_isBridge, .initialized RX10, .code yX10_isBridge cX10_isBridge 2 (some .boolean), .fieldLink RX10 106 "HeavyRoutesModel" "bridges" "I", .methodLink RX10 102 yX10_in, .static yX10_in, .code yX10_in cX10_in 6 (some .boolean), .methodLink RX10 119 yX10_forget, .instanceMethod yX10_forget, .selects RX10 yX10_forget yX10_forget, .code yX10_forget cX10_forget 1 none, .fieldLink RX10 109 "HeavyRoutesModel" "found" "I"] ++ wsX100)
def wsX10_axle : List Cond := .code yX10_axle cX10_axle 5 (some .boolean) :: ([.fieldLink RX10 135 "HeavyRoutesModel" "axles" "I", .constantLong RX10 133 (1000), .constantLong RX10 138 (30), .fieldLink RX10 59 "HeavyRoutesModel" "offsets" "[I", .fieldLink RX10 62 "HeavyRoutesModel" "loads" "[I", .methodLink RX10 102 yX10_in, .static yX10_in, .initialized RX10, .code yX10_in cX10_in 6 (some .boolean), .methodLink RX10 119 yX10_forget, .instanceMethod yX10_forget, .selects RX10 yX10_forget yX10_forget, .code yX10_forget cX10_forget 1 none, .fieldLink RX10 109 "HeavyRoutesModel" "found" "I"] ++ wsX100)
def wsX10_size : List Cond := .code yX10_size cX10_size 4 (some .boolean) :: ([.constantLong RX10 117 (9999), .constantLong RX10 140 (200), .fieldLink RX10 65 "HeavyRoutesModel" "height" "I", .fieldLink RX10 69 "HeavyRoutesModel" "width" "I", .methodLink RX10 102 yX10_in, .static yX10_in, .initialized RX10, .code yX10_in cX10_in 6 (some .boolean), .methodLink RX10 119 yX10_forget, .instanceMethod yX10_forget, .selects RX10 yX10_forget yX10_forget, .code yX10_forget cX10_forget 1 none, .fieldLink RX10 109 "HeavyRoutesModel" "found" "I"] ++ wsX100)
def wsX10_turn : List Cond := .code yX10_turn cX10_turn 4 (some .boolean) :: ([.fieldLink RX10 7 "HeavyRoutesModel" "as" "[I", .fieldLink RX10 13 "HeavyRoutesModel" "bs" "[I", .fieldLink RX10 41 "HeavyRoutesModel" "noTurn" "[Z", .methodLink RX10 122 yX10_isRoad, .instanceMethod yX10_isRoad, .selects RX10 yX10_isRoad yX10_isRoad, .initialized RX10, .code yX10_isRoad cX10_isRoad 2 (some .boolean), .fieldLink RX10 99 "HeavyRoutesModel" "roads" "I", .methodLink RX10 102 yX10_in, .static yX10_in, .code yX10_in cX10_in 6 (some .boolean), .methodLink RX10 119 yX10_forget, .instanceMethod yX10_forget, .selects RX10 yX10_forget yX10_forget, .code yX10_forget cX10_forget 1 none, .fieldLink RX10 109 "HeavyRoutesModel" "found" "I"] ++ wsX100)
def wsX10_hours : List Cond := .code yX10_hours cX10_hours 4 (some .boolean) :: ([.constantLong RX10 142 (1439), .fieldLink RX10 32 "HeavyRoutesModel" "hourCounts" "[I", .fieldLink RX10 35 "HeavyRoutesModel" "hourFroms" "[I", .fieldLink RX10 38 "HeavyRoutesModel" "hourTos" "[I", .methodLink RX10 122 yX10_isRoad, .instanceMethod yX10_isRoad, .selects RX10 yX10_isRoad yX10_isRoad, .initialized RX10, .code yX10_isRoad cX10_isRoad 2 (some .boolean), .fieldLink RX10 99 "HeavyRoutesModel" "roads" "I", .methodLink RX10 102 yX10_in, .static yX10_in, .code yX10_in cX10_in 6 (some .boolean), .methodLink RX10 119 yX10_forget, .instanceMethod yX10_forget, .selects RX10 yX10_forget yX10_forget, .code yX10_forget cX10_forget 1 none, .fieldLink RX10 109 "HeavyRoutesModel" "found" "I"] ++ wsX100)
def wsX10_slow : List Cond := .code yX10_slow cX10_slow 4 (some .int) :: ([.fieldLink RX10 44 "HeavyRoutesModel" "isSlow" "[Z", .methodLink RX10 126 yX10_isBridge, .instanceMethod yX10_isBridge, .selects RX10 yX10_isBridge yX10_isBridge, .initialized RX10, .code yX10_isBridge cX10_isBridge 2 (some .boolean), .fieldLink RX10 106 "HeavyRoutesModel" "bridges" "I", .methodLink RX10 102 yX10_in, .static yX10_in, .code yX10_in cX10_in 6 (some .boolean), .methodLink RX10 119 yX10_forget, .instanceMethod yX10_forget, .selects RX10 yX10_forget yX10_forget, .code yX10_forget cX10_forget 1 none, .fieldLink RX10 109 "HeavyRoutesModel" "found" "I"] ++ wsX100)
def wsX10_change : List Cond := .code yX10_change cX10_change 4 (some .int) :: ([.fieldLink RX10 25 "HeavyRoutesModel" "open" "[Z", .methodLink RX10 122 yX10_isRoad, .instanceMethod yX10_isRoad, .selects RX10 yX10_isRoad yX10_isRoad, .initialized RX10, .code yX10_isRoad cX10_isRoad 2 (some .boolean), .fieldLink RX10 99 "HeavyRoutesModel" "roads" "I", .methodLink RX10 102 yX10_in, .static yX10_in, .code yX10_in cX10_in 6 (some .boolean), .methodLink RX10 119 yX10_forget, .instanceMethod yX10_forget, .selects RX10 yX10_forget yX10_forget, .code yX10_forget cX10_forget 1 none, .fieldLink RX10 109 "HeavyRoutesModel" "found" "I"] ++ wsX100)
def wsX10_common : List Cond := .code yX10_common cX10_common 10 (some .long) :: ([])
def wsX10_product : List Cond := .code yX10_product cX10_product 15 none :: ([.constantLong RX10 144 (1000000000), .fieldLink RX10 146 "HeavyRoutesModel" "low" "J", .constantLong RX10 150 (1000000000000000000), .fieldLink RX10 152 "HeavyRoutesModel" "high" "J"] ++ wsX100)
def wsX10_add : List Cond := .code yX10_add cX10_add 5 none :: ([.fieldLink RX10 159 "HeavyRoutesModel" "sumHigh" "J", .fieldLink RX10 152 "HeavyRoutesModel" "high" "J", .fieldLink RX10 162 "HeavyRoutesModel" "sumLow" "J", .fieldLink RX10 146 "HeavyRoutesModel" "low" "J", .constantLong RX10 150 (1000000000000000000), .methodLink RX10 155 yX10_product, .instanceMethod yX10_product, .selects RX10 yX10_product yX10_product, .initialized RX10, .code yX10_product cX10_product 15 none, .constantLong RX10 144 (1000000000)] ++ wsX100)
def wsX10_addAt : List Cond := .code yX10_addAt cX10_addAt 10 none :: ([.fieldLink RX10 47 "HeavyRoutesModel" "cornerCounts" "[I", .fieldLink RX10 50 "HeavyRoutesModel" "places" "[I", .fieldLink RX10 165 "HeavyRoutesModel" "leastBelow" "J", .fieldLink RX10 56 "HeavyRoutesModel" "belows" "[I", .fieldLink RX10 53 "HeavyRoutesModel" "aboves" "[I", .fieldLink RX10 168 "HeavyRoutesModel" "leastStep" "J", .methodLink RX10 171 yX10_add, .instanceMethod yX10_add, .selects RX10 yX10_add yX10_add, .initialized RX10, .code yX10_add cX10_add 5 none, .fieldLink RX10 159 "HeavyRoutesModel" "sumHigh" "J", .fieldLink RX10 152 "HeavyRoutesModel" "high" "J", .fieldLink RX10 162 "HeavyRoutesModel" "sumLow" "J", .fieldLink RX10 146 "HeavyRoutesModel" "low" "J", .constantLong RX10 150 (1000000000000000000), .methodLink RX10 155 yX10_product, .instanceMethod yX10_product, .selects RX10 yX10_product yX10_product, .code yX10_product cX10_product 15 none, .constantLong RX10 144 (1000000000)] ++ wsX100)
def wsX10_effect_r1 : List Cond := [Cond.fieldLink RX10 159 "HeavyRoutesModel" "sumHigh" "J", Cond.fieldLink RX10 162 "HeavyRoutesModel" "sumLow" "J", Cond.fieldLink RX10 135 "HeavyRoutesModel" "axles" "I", Cond.fieldLink RX10 59 "HeavyRoutesModel" "offsets" "[I", Cond.fieldLink RX10 62 "HeavyRoutesModel" "loads" "[I", Cond.fieldLink RX10 178 "HeavyRoutesModel" "topHigh" "J", Cond.fieldLink RX10 181 "HeavyRoutesModel" "topLow" "J", Cond.methodLink RX10 174 yX10_addAt, Cond.instanceMethod yX10_addAt, Cond.selects RX10 yX10_addAt yX10_addAt, Cond.initialized RX10, Cond.code yX10_addAt cX10_addAt 10 none, Cond.fieldLink RX10 47 "HeavyRoutesModel" "cornerCounts" "[I", Cond.fieldLink RX10 50 "HeavyRoutesModel" "places" "[I", Cond.fieldLink RX10 165 "HeavyRoutesModel" "leastBelow" "J", Cond.fieldLink RX10 56 "HeavyRoutesModel" "belows" "[I", Cond.fieldLink RX10 53 "HeavyRoutesModel" "aboves" "[I", Cond.fieldLink RX10 168 "HeavyRoutesModel" "leastStep" "J", Cond.methodLink RX10 171 yX10_add, Cond.instanceMethod yX10_add, Cond.selects RX10 yX10_add yX10_add, Cond.code yX10_add cX10_add 5 none, Cond.fieldLink RX10 152 "HeavyRoutesModel" "high" "J", Cond.fieldLink RX10 146 "HeavyRoutesModel" "low" "J"]
def wsX10_effect_r2 : List Cond := [Cond.constantLong RX10 150 (1000000000000000000), Cond.methodLink RX10 155 yX10_product, Cond.instanceMethod yX10_product, Cond.selects RX10 yX10_product yX10_product, Cond.code yX10_product cX10_product 15 none, Cond.constantLong RX10 144 (1000000000)]
def wsX10_effect : List Cond := .code yX10_effect cX10_effect 5 none :: ((wsX10_effect_r1 ++ wsX10_effect_r2) ++ wsX100)
def wsX10_rate_r1 : List Cond := [Cond.fieldLink RX10 165 "HeavyRoutesModel" "leastBelow" "J", Cond.fieldLink RX10 168 "HeavyRoutesModel" "leastStep" "J", Cond.fieldLink RX10 47 "HeavyRoutesModel" "cornerCounts" "[I", Cond.fieldLink RX10 56 "HeavyRoutesModel" "belows" "[I", Cond.fieldLink RX10 50 "HeavyRoutesModel" "places" "[I", Cond.fieldLink RX10 178 "HeavyRoutesModel" "topHigh" "J", Cond.fieldLink RX10 181 "HeavyRoutesModel" "topLow" "J", Cond.fieldLink RX10 135 "HeavyRoutesModel" "axles" "I", Cond.fieldLink RX10 59 "HeavyRoutesModel" "offsets" "[I", Cond.fieldLink RX10 152 "HeavyRoutesModel" "high" "J", Cond.fieldLink RX10 191 "HeavyRoutesModel" "underHigh" "J", Cond.fieldLink RX10 146 "HeavyRoutesModel" "low" "J", Cond.fieldLink RX10 194 "HeavyRoutesModel" "underLow" "J", Cond.methodLink RX10 184 yX10_common, Cond.static yX10_common, Cond.initialized RX10, Cond.code yX10_common cX10_common 10 (some .long), Cond.methodLink RX10 188 yX10_effect, Cond.instanceMethod yX10_effect, Cond.selects RX10 yX10_effect yX10_effect, Cond.code yX10_effect cX10_effect 5 none, Cond.fieldLink RX10 159 "HeavyRoutesModel" "sumHigh" "J", Cond.fieldLink RX10 162 "HeavyRoutesModel" "sumLow" "J", Cond.fieldLink RX10 62 "HeavyRoutesModel" "loads" "[I"]
def wsX10_rate_r2 : List Cond := [Cond.methodLink RX10 174 yX10_addAt, Cond.instanceMethod yX10_addAt, Cond.selects RX10 yX10_addAt yX10_addAt, Cond.code yX10_addAt cX10_addAt 10 none, Cond.fieldLink RX10 53 "HeavyRoutesModel" "aboves" "[I", Cond.methodLink RX10 171 yX10_add, Cond.instanceMethod yX10_add, Cond.selects RX10 yX10_add yX10_add, Cond.code yX10_add cX10_add 5 none, Cond.constantLong RX10 150 (1000000000000000000), Cond.methodLink RX10 155 yX10_product, Cond.instanceMethod yX10_product, Cond.selects RX10 yX10_product yX10_product, Cond.code yX10_product cX10_product 15 none, Cond.constantLong RX10 144 (1000000000)]
def wsX10_rate : List Cond := .code yX10_rate cX10_rate 6 none :: ((wsX10_rate_r1 ++ wsX10_rate_r2) ++ wsX100)
def wsX10_isAbove : List Cond := .code yX10_isAbove cX10_isAbove 11 (some .boolean) :: ([.fieldLink RX10 181 "HeavyRoutesModel" "topLow" "J", .fieldLink RX10 178 "HeavyRoutesModel" "topHigh" "J", .constantLong RX10 150 (1000000000000000000), .fieldLink RX10 194 "HeavyRoutesModel" "underLow" "J", .fieldLink RX10 191 "HeavyRoutesModel" "underHigh" "J"] ++ wsX100)
def wsX10_restOf : List Cond := .code yX10_restOf cX10_restOf 8 (some .long) :: ([.constantLong RX10 144 (1000000000)])
def wsX10_divide : List Cond := .code yX10_divide cX10_divide 11 none :: ([.fieldLink RX10 152 "HeavyRoutesModel" "high" "J", .constantLong RX10 144 (1000000000), .fieldLink RX10 146 "HeavyRoutesModel" "low" "J"] ++ wsX100)
def wsX10_rating_r1 : List Cond := [Cond.constantLong RX10 197 (-1), Cond.fieldLink RX10 178 "HeavyRoutesModel" "topHigh" "J", Cond.fieldLink RX10 181 "HeavyRoutesModel" "topLow" "J", Cond.constantLong RX10 203 (2), Cond.constantLong RX10 133 (1000), Cond.fieldLink RX10 191 "HeavyRoutesModel" "underHigh" "J", Cond.fieldLink RX10 194 "HeavyRoutesModel" "underLow" "J", Cond.fieldLink RX10 152 "HeavyRoutesModel" "high" "J", Cond.fieldLink RX10 146 "HeavyRoutesModel" "low" "J", Cond.methodLink RX10 126 yX10_isBridge, Cond.instanceMethod yX10_isBridge, Cond.selects RX10 yX10_isBridge yX10_isBridge, Cond.initialized RX10, Cond.code yX10_isBridge cX10_isBridge 2 (some .boolean), Cond.fieldLink RX10 106 "HeavyRoutesModel" "bridges" "I", Cond.methodLink RX10 102 yX10_in, Cond.static yX10_in, Cond.code yX10_in cX10_in 6 (some .boolean), Cond.methodLink RX10 199 yX10_rate, Cond.instanceMethod yX10_rate, Cond.selects RX10 yX10_rate yX10_rate, Cond.code yX10_rate cX10_rate 6 none, Cond.fieldLink RX10 165 "HeavyRoutesModel" "leastBelow" "J", Cond.fieldLink RX10 168 "HeavyRoutesModel" "leastStep" "J"]
def wsX10_rating_r2 : List Cond := [Cond.fieldLink RX10 47 "HeavyRoutesModel" "cornerCounts" "[I", Cond.fieldLink RX10 56 "HeavyRoutesModel" "belows" "[I", Cond.fieldLink RX10 50 "HeavyRoutesModel" "places" "[I", Cond.fieldLink RX10 135 "HeavyRoutesModel" "axles" "I", Cond.fieldLink RX10 59 "HeavyRoutesModel" "offsets" "[I", Cond.methodLink RX10 184 yX10_common, Cond.static yX10_common, Cond.code yX10_common cX10_common 10 (some .long), Cond.methodLink RX10 188 yX10_effect, Cond.instanceMethod yX10_effect, Cond.selects RX10 yX10_effect yX10_effect, Cond.code yX10_effect cX10_effect 5 none, Cond.fieldLink RX10 159 "HeavyRoutesModel" "sumHigh" "J", Cond.fieldLink RX10 162 "HeavyRoutesModel" "sumLow" "J", Cond.fieldLink RX10 62 "HeavyRoutesModel" "loads" "[I", Cond.methodLink RX10 174 yX10_addAt, Cond.instanceMethod yX10_addAt, Cond.selects RX10 yX10_addAt yX10_addAt, Cond.code yX10_addAt cX10_addAt 10 none, Cond.fieldLink RX10 53 "HeavyRoutesModel" "aboves" "[I", Cond.methodLink RX10 171 yX10_add, Cond.instanceMethod yX10_add, Cond.selects RX10 yX10_add yX10_add, Cond.code yX10_add cX10_add 5 none]
def wsX10_rating_r3 : List Cond := [Cond.constantLong RX10 150 (1000000000000000000), Cond.methodLink RX10 155 yX10_product, Cond.instanceMethod yX10_product, Cond.selects RX10 yX10_product yX10_product, Cond.code yX10_product cX10_product 15 none, Cond.constantLong RX10 144 (1000000000), Cond.methodLink RX10 205 yX10_restOf, Cond.static yX10_restOf, Cond.code yX10_restOf cX10_restOf 8 (some .long), Cond.methodLink RX10 209 yX10_divide, Cond.instanceMethod yX10_divide, Cond.selects RX10 yX10_divide yX10_divide, Cond.code yX10_divide cX10_divide 11 none]
def wsX10_rating : List Cond := .code yX10_rating cX10_rating 5 (some .long) :: ((wsX10_rating_r1 ++ (wsX10_rating_r2 ++ wsX10_rating_r3)) ++ wsX100)
def wsX10_kept : List Cond := .code yX10_kept cX10_kept 2 (some .boolean) :: ([.methodLink RX10 126 yX10_isBridge, .instanceMethod yX10_isBridge, .selects RX10 yX10_isBridge yX10_isBridge, .initialized RX10, .code yX10_isBridge cX10_isBridge 2 (some .boolean), .fieldLink RX10 106 "HeavyRoutesModel" "bridges" "I", .methodLink RX10 102 yX10_in, .static yX10_in, .code yX10_in cX10_in 6 (some .boolean)] ++ wsX100)
def wsX10_why_r1 : List Cond := [Cond.fieldLink RX10 25 "HeavyRoutesModel" "open" "[Z", Cond.fieldLink RX10 19 "HeavyRoutesModel" "heights" "[I", Cond.fieldLink RX10 65 "HeavyRoutesModel" "height" "I", Cond.fieldLink RX10 22 "HeavyRoutesModel" "widths" "[I", Cond.fieldLink RX10 69 "HeavyRoutesModel" "width" "I", Cond.fieldLink RX10 29 "HeavyRoutesModel" "bridgeOf" "[I", Cond.methodLink RX10 199 yX10_rate, Cond.instanceMethod yX10_rate, Cond.selects RX10 yX10_rate yX10_rate, Cond.initialized RX10, Cond.code yX10_rate cX10_rate 6 none, Cond.fieldLink RX10 165 "HeavyRoutesModel" "leastBelow" "J", Cond.fieldLink RX10 168 "HeavyRoutesModel" "leastStep" "J", Cond.fieldLink RX10 47 "HeavyRoutesModel" "cornerCounts" "[I", Cond.fieldLink RX10 56 "HeavyRoutesModel" "belows" "[I", Cond.fieldLink RX10 50 "HeavyRoutesModel" "places" "[I", Cond.fieldLink RX10 178 "HeavyRoutesModel" "topHigh" "J", Cond.fieldLink RX10 181 "HeavyRoutesModel" "topLow" "J", Cond.fieldLink RX10 135 "HeavyRoutesModel" "axles" "I", Cond.fieldLink RX10 59 "HeavyRoutesModel" "offsets" "[I", Cond.fieldLink RX10 152 "HeavyRoutesModel" "high" "J", Cond.fieldLink RX10 191 "HeavyRoutesModel" "underHigh" "J", Cond.fieldLink RX10 146 "HeavyRoutesModel" "low" "J", Cond.fieldLink RX10 194 "HeavyRoutesModel" "underLow" "J"]
def wsX10_why_r2 : List Cond := [Cond.methodLink RX10 184 yX10_common, Cond.static yX10_common, Cond.code yX10_common cX10_common 10 (some .long), Cond.methodLink RX10 188 yX10_effect, Cond.instanceMethod yX10_effect, Cond.selects RX10 yX10_effect yX10_effect, Cond.code yX10_effect cX10_effect 5 none, Cond.fieldLink RX10 159 "HeavyRoutesModel" "sumHigh" "J", Cond.fieldLink RX10 162 "HeavyRoutesModel" "sumLow" "J", Cond.fieldLink RX10 62 "HeavyRoutesModel" "loads" "[I", Cond.methodLink RX10 174 yX10_addAt, Cond.instanceMethod yX10_addAt, Cond.selects RX10 yX10_addAt yX10_addAt, Cond.code yX10_addAt cX10_addAt 10 none, Cond.fieldLink RX10 53 "HeavyRoutesModel" "aboves" "[I", Cond.methodLink RX10 171 yX10_add, Cond.instanceMethod yX10_add, Cond.selects RX10 yX10_add yX10_add, Cond.code yX10_add cX10_add 5 none, Cond.constantLong RX10 150 (1000000000000000000), Cond.methodLink RX10 155 yX10_product, Cond.instanceMethod yX10_product, Cond.selects RX10 yX10_product yX10_product, Cond.code yX10_product cX10_product 15 none]
def wsX10_why_r3 : List Cond := [Cond.constantLong RX10 144 (1000000000), Cond.methodLink RX10 213 yX10_isAbove, Cond.instanceMethod yX10_isAbove, Cond.selects RX10 yX10_isAbove yX10_isAbove, Cond.code yX10_isAbove cX10_isAbove 11 (some .boolean)]
def wsX10_why : List Cond := .code yX10_why cX10_why 2 (some .int) :: ((wsX10_why_r1 ++ (wsX10_why_r2 ++ wsX10_why_r3)) ++ wsX100)
def wsX10_isBarred : List Cond := .code yX10_isBarred cX10_isBarred 7 (some .boolean) :: ([.fieldLink RX10 32 "HeavyRoutesModel" "hourCounts" "[I", .fieldLink RX10 35 "HeavyRoutesModel" "hourFroms" "[I", .fieldLink RX10 38 "HeavyRoutesModel" "hourTos" "[I"] ++ wsX100)
def wsX10_earliest : List Cond := .code yX10_earliest cX10_earliest 4 (some .int) :: ([.methodLink RX10 217 yX10_isBarred, .instanceMethod yX10_isBarred, .selects RX10 yX10_isBarred yX10_isBarred, .initialized RX10, .code yX10_isBarred cX10_isBarred 7 (some .boolean), .fieldLink RX10 32 "HeavyRoutesModel" "hourCounts" "[I", .fieldLink RX10 35 "HeavyRoutesModel" "hourFroms" "[I", .fieldLink RX10 38 "HeavyRoutesModel" "hourTos" "[I"] ++ wsX100)
def wsX10_takes : List Cond := .code yX10_takes cX10_takes 2 (some .int) :: ([.fieldLink RX10 16 "HeavyRoutesModel" "minutes" "[I", .fieldLink RX10 29 "HeavyRoutesModel" "bridgeOf" "[I", .fieldLink RX10 44 "HeavyRoutesModel" "isSlow" "[Z"] ++ wsX100)
def wsX10_findBearing_r1 : List Cond := [Cond.fieldLink RX10 99 "HeavyRoutesModel" "roads" "I", Cond.fieldLink RX10 90 "HeavyRoutesModel" "bears" "[Z", Cond.methodLink RX10 220 yX10_why, Cond.instanceMethod yX10_why, Cond.selects RX10 yX10_why yX10_why, Cond.initialized RX10, Cond.code yX10_why cX10_why 2 (some .int), Cond.fieldLink RX10 25 "HeavyRoutesModel" "open" "[Z", Cond.fieldLink RX10 19 "HeavyRoutesModel" "heights" "[I", Cond.fieldLink RX10 65 "HeavyRoutesModel" "height" "I", Cond.fieldLink RX10 22 "HeavyRoutesModel" "widths" "[I", Cond.fieldLink RX10 69 "HeavyRoutesModel" "width" "I", Cond.fieldLink RX10 29 "HeavyRoutesModel" "bridgeOf" "[I", Cond.methodLink RX10 199 yX10_rate, Cond.instanceMethod yX10_rate, Cond.selects RX10 yX10_rate yX10_rate, Cond.code yX10_rate cX10_rate 6 none, Cond.fieldLink RX10 165 "HeavyRoutesModel" "leastBelow" "J", Cond.fieldLink RX10 168 "HeavyRoutesModel" "leastStep" "J", Cond.fieldLink RX10 47 "HeavyRoutesModel" "cornerCounts" "[I", Cond.fieldLink RX10 56 "HeavyRoutesModel" "belows" "[I", Cond.fieldLink RX10 50 "HeavyRoutesModel" "places" "[I", Cond.fieldLink RX10 178 "HeavyRoutesModel" "topHigh" "J", Cond.fieldLink RX10 181 "HeavyRoutesModel" "topLow" "J"]
def wsX10_findBearing_r2 : List Cond := [Cond.fieldLink RX10 135 "HeavyRoutesModel" "axles" "I", Cond.fieldLink RX10 59 "HeavyRoutesModel" "offsets" "[I", Cond.fieldLink RX10 152 "HeavyRoutesModel" "high" "J", Cond.fieldLink RX10 191 "HeavyRoutesModel" "underHigh" "J", Cond.fieldLink RX10 146 "HeavyRoutesModel" "low" "J", Cond.fieldLink RX10 194 "HeavyRoutesModel" "underLow" "J", Cond.methodLink RX10 184 yX10_common, Cond.static yX10_common, Cond.code yX10_common cX10_common 10 (some .long), Cond.methodLink RX10 188 yX10_effect, Cond.instanceMethod yX10_effect, Cond.selects RX10 yX10_effect yX10_effect, Cond.code yX10_effect cX10_effect 5 none, Cond.fieldLink RX10 159 "HeavyRoutesModel" "sumHigh" "J", Cond.fieldLink RX10 162 "HeavyRoutesModel" "sumLow" "J", Cond.fieldLink RX10 62 "HeavyRoutesModel" "loads" "[I", Cond.methodLink RX10 174 yX10_addAt, Cond.instanceMethod yX10_addAt, Cond.selects RX10 yX10_addAt yX10_addAt, Cond.code yX10_addAt cX10_addAt 10 none, Cond.fieldLink RX10 53 "HeavyRoutesModel" "aboves" "[I", Cond.methodLink RX10 171 yX10_add, Cond.instanceMethod yX10_add, Cond.selects RX10 yX10_add yX10_add]
def wsX10_findBearing_r3 : List Cond := [Cond.code yX10_add cX10_add 5 none, Cond.constantLong RX10 150 (1000000000000000000), Cond.methodLink RX10 155 yX10_product, Cond.instanceMethod yX10_product, Cond.selects RX10 yX10_product yX10_product, Cond.code yX10_product cX10_product 15 none, Cond.constantLong RX10 144 (1000000000), Cond.methodLink RX10 213 yX10_isAbove, Cond.instanceMethod yX10_isAbove, Cond.selects RX10 yX10_isAbove yX10_isAbove, Cond.code yX10_isAbove cX10_isAbove 11 (some .boolean), Cond.methodLink RX10 224 yX10_earliest, Cond.instanceMethod yX10_earliest, Cond.selects RX10 yX10_earliest yX10_earliest, Cond.code yX10_earliest cX10_earliest 4 (some .int), Cond.methodLink RX10 217 yX10_isBarred, Cond.instanceMethod yX10_isBarred, Cond.selects RX10 yX10_isBarred yX10_isBarred, Cond.code yX10_isBarred cX10_isBarred 7 (some .boolean), Cond.fieldLink RX10 32 "HeavyRoutesModel" "hourCounts" "[I", Cond.fieldLink RX10 35 "HeavyRoutesModel" "hourFroms" "[I", Cond.fieldLink RX10 38 "HeavyRoutesModel" "hourTos" "[I"]
def wsX10_findBearing : List Cond := .code yX10_findBearing cX10_findBearing 2 none :: ((wsX10_findBearing_r1 ++ (wsX10_findBearing_r2 ++ wsX10_findBearing_r3)) ++ wsX100)
def wsX10_endOf : List Cond := .code yX10_endOf cX10_endOf 7 (some .int) :: ([.methodLink RX10 224 yX10_earliest, .instanceMethod yX10_earliest, .selects RX10 yX10_earliest yX10_earliest, .initialized RX10, .code yX10_earliest cX10_earliest 4 (some .int), .methodLink RX10 217 yX10_isBarred, .instanceMethod yX10_isBarred, .selects RX10 yX10_isBarred yX10_isBarred, .code yX10_isBarred cX10_isBarred 7 (some .boolean), .fieldLink RX10 32 "HeavyRoutesModel" "hourCounts" "[I", .fieldLink RX10 35 "HeavyRoutesModel" "hourFroms" "[I", .fieldLink RX10 38 "HeavyRoutesModel" "hourTos" "[I", .methodLink RX10 228 yX10_takes, .instanceMethod yX10_takes, .selects RX10 yX10_takes yX10_takes, .code yX10_takes cX10_takes 2 (some .int), .fieldLink RX10 16 "HeavyRoutesModel" "minutes" "[I", .fieldLink RX10 29 "HeavyRoutesModel" "bridgeOf" "[I", .fieldLink RX10 44 "HeavyRoutesModel" "isSlow" "[Z"] ++ wsX100)
def wsX10_bridgesOf : List Cond := .code yX10_bridgesOf cX10_bridgesOf 5 (some .int) :: ([.fieldLink RX10 29 "HeavyRoutesModel" "bridgeOf" "[I"] ++ wsX100)
def wsX10_isBetter : List Cond := .code yX10_isBetter cX10_isBetter 5 (some .boolean) :: ([.fieldLink RX10 231 "HeavyRoutesModel" "bestSize" "I", .fieldLink RX10 234 "HeavyRoutesModel" "bestEnd" "I", .fieldLink RX10 81 "HeavyRoutesModel" "way" "[I", .fieldLink RX10 237 "HeavyRoutesModel" "size" "I", .fieldLink RX10 87 "HeavyRoutesModel" "best" "[I", .methodLink RX10 240 yX10_bridgesOf, .instanceMethod yX10_bridgesOf, .selects RX10 yX10_bridgesOf yX10_bridgesOf, .initialized RX10, .code yX10_bridgesOf cX10_bridgesOf 5 (some .int), .fieldLink RX10 29 "HeavyRoutesModel" "bridgeOf" "[I"] ++ wsX100)
def wsX10_mayBe : List Cond := .code yX10_mayBe cX10_mayBe 4 (some .boolean) :: ([.fieldLink RX10 109 "HeavyRoutesModel" "found" "I", .fieldLink RX10 75 "HeavyRoutesModel" "foundSizes" "[I", .fieldLink RX10 237 "HeavyRoutesModel" "size" "I", .fieldLink RX10 72 "HeavyRoutesModel" "foundRoads" "[I", .fieldLink RX10 81 "HeavyRoutesModel" "way" "[I", .fieldLink RX10 244 "HeavyRoutesModel" "limit" "I"] ++ wsX100)
def wsX10_judge_r1 : List Cond := [Cond.fieldLink RX10 247 "HeavyRoutesModel" "ways" "I", Cond.fieldLink RX10 81 "HeavyRoutesModel" "way" "[I", Cond.fieldLink RX10 237 "HeavyRoutesModel" "size" "I", Cond.fieldLink RX10 250 "HeavyRoutesModel" "runMinute" "I", Cond.fieldLink RX10 234 "HeavyRoutesModel" "bestEnd" "I", Cond.fieldLink RX10 231 "HeavyRoutesModel" "bestSize" "I", Cond.fieldLink RX10 87 "HeavyRoutesModel" "best" "[I", Cond.methodLink RX10 253 yX10_endOf, Cond.instanceMethod yX10_endOf, Cond.selects RX10 yX10_endOf yX10_endOf, Cond.initialized RX10, Cond.code yX10_endOf cX10_endOf 7 (some .int), Cond.methodLink RX10 224 yX10_earliest, Cond.instanceMethod yX10_earliest, Cond.selects RX10 yX10_earliest yX10_earliest, Cond.code yX10_earliest cX10_earliest 4 (some .int), Cond.methodLink RX10 217 yX10_isBarred, Cond.instanceMethod yX10_isBarred, Cond.selects RX10 yX10_isBarred yX10_isBarred, Cond.code yX10_isBarred cX10_isBarred 7 (some .boolean), Cond.fieldLink RX10 32 "HeavyRoutesModel" "hourCounts" "[I", Cond.fieldLink RX10 35 "HeavyRoutesModel" "hourFroms" "[I", Cond.fieldLink RX10 38 "HeavyRoutesModel" "hourTos" "[I", Cond.methodLink RX10 228 yX10_takes]
def wsX10_judge_r2 : List Cond := [Cond.instanceMethod yX10_takes, Cond.selects RX10 yX10_takes yX10_takes, Cond.code yX10_takes cX10_takes 2 (some .int), Cond.fieldLink RX10 16 "HeavyRoutesModel" "minutes" "[I", Cond.fieldLink RX10 29 "HeavyRoutesModel" "bridgeOf" "[I", Cond.fieldLink RX10 44 "HeavyRoutesModel" "isSlow" "[Z", Cond.methodLink RX10 257 yX10_mayBe, Cond.instanceMethod yX10_mayBe, Cond.selects RX10 yX10_mayBe yX10_mayBe, Cond.code yX10_mayBe cX10_mayBe 4 (some .boolean), Cond.fieldLink RX10 109 "HeavyRoutesModel" "found" "I", Cond.fieldLink RX10 75 "HeavyRoutesModel" "foundSizes" "[I", Cond.fieldLink RX10 72 "HeavyRoutesModel" "foundRoads" "[I", Cond.fieldLink RX10 244 "HeavyRoutesModel" "limit" "I", Cond.methodLink RX10 261 yX10_isBetter, Cond.instanceMethod yX10_isBetter, Cond.selects RX10 yX10_isBetter yX10_isBetter, Cond.code yX10_isBetter cX10_isBetter 5 (some .boolean), Cond.methodLink RX10 240 yX10_bridgesOf, Cond.instanceMethod yX10_bridgesOf, Cond.selects RX10 yX10_bridgesOf yX10_bridgesOf, Cond.code yX10_bridgesOf cX10_bridgesOf 5 (some .int)]
def wsX10_judge : List Cond := .code yX10_judge cX10_judge 3 none :: ((wsX10_judge_r1 ++ wsX10_judge_r2) ++ wsX100)
def wsX10_otherEnd : List Cond := .code yX10_otherEnd cX10_otherEnd 3 (some .int) :: ([.fieldLink RX10 7 "HeavyRoutesModel" "as" "[I", .fieldLink RX10 13 "HeavyRoutesModel" "bs" "[I"] ++ wsX100)
def wsX10_mayGo : List Cond := .code yX10_mayGo cX10_mayGo 4 (some .boolean) :: ([.fieldLink RX10 90 "HeavyRoutesModel" "bears" "[Z", .fieldLink RX10 84 "HeavyRoutesModel" "seen" "[Z", .fieldLink RX10 237 "HeavyRoutesModel" "size" "I", .fieldLink RX10 41 "HeavyRoutesModel" "noTurn" "[Z", .fieldLink RX10 81 "HeavyRoutesModel" "way" "[I", .methodLink RX10 264 yX10_otherEnd, .instanceMethod yX10_otherEnd, .selects RX10 yX10_otherEnd yX10_otherEnd, .initialized RX10, .code yX10_otherEnd cX10_otherEnd 3 (some .int), .fieldLink RX10 7 "HeavyRoutesModel" "as" "[I", .fieldLink RX10 13 "HeavyRoutesModel" "bs" "[I"] ++ wsX100)
def wsX10_goThrough_r1 : List Cond := [Cond.fieldLink RX10 93 "HeavyRoutesModel" "ats" "[I", Cond.fieldLink RX10 267 "HeavyRoutesModel" "runFrom" "I", Cond.fieldLink RX10 96 "HeavyRoutesModel" "tried" "[I", Cond.fieldLink RX10 237 "HeavyRoutesModel" "size" "I", Cond.fieldLink RX10 270 "HeavyRoutesModel" "runTo" "I", Cond.fieldLink RX10 99 "HeavyRoutesModel" "roads" "I", Cond.fieldLink RX10 81 "HeavyRoutesModel" "way" "[I", Cond.fieldLink RX10 84 "HeavyRoutesModel" "seen" "[Z", Cond.methodLink RX10 273 yX10_judge, Cond.instanceMethod yX10_judge, Cond.selects RX10 yX10_judge yX10_judge, Cond.initialized RX10, Cond.code yX10_judge cX10_judge 3 none, Cond.fieldLink RX10 247 "HeavyRoutesModel" "ways" "I", Cond.fieldLink RX10 250 "HeavyRoutesModel" "runMinute" "I", Cond.fieldLink RX10 234 "HeavyRoutesModel" "bestEnd" "I", Cond.fieldLink RX10 231 "HeavyRoutesModel" "bestSize" "I", Cond.fieldLink RX10 87 "HeavyRoutesModel" "best" "[I", Cond.methodLink RX10 253 yX10_endOf, Cond.instanceMethod yX10_endOf, Cond.selects RX10 yX10_endOf yX10_endOf, Cond.code yX10_endOf cX10_endOf 7 (some .int), Cond.methodLink RX10 224 yX10_earliest, Cond.instanceMethod yX10_earliest]
def wsX10_goThrough_r2 : List Cond := [Cond.selects RX10 yX10_earliest yX10_earliest, Cond.code yX10_earliest cX10_earliest 4 (some .int), Cond.methodLink RX10 217 yX10_isBarred, Cond.instanceMethod yX10_isBarred, Cond.selects RX10 yX10_isBarred yX10_isBarred, Cond.code yX10_isBarred cX10_isBarred 7 (some .boolean), Cond.fieldLink RX10 32 "HeavyRoutesModel" "hourCounts" "[I", Cond.fieldLink RX10 35 "HeavyRoutesModel" "hourFroms" "[I", Cond.fieldLink RX10 38 "HeavyRoutesModel" "hourTos" "[I", Cond.methodLink RX10 228 yX10_takes, Cond.instanceMethod yX10_takes, Cond.selects RX10 yX10_takes yX10_takes, Cond.code yX10_takes cX10_takes 2 (some .int), Cond.fieldLink RX10 16 "HeavyRoutesModel" "minutes" "[I", Cond.fieldLink RX10 29 "HeavyRoutesModel" "bridgeOf" "[I", Cond.fieldLink RX10 44 "HeavyRoutesModel" "isSlow" "[Z", Cond.methodLink RX10 257 yX10_mayBe, Cond.instanceMethod yX10_mayBe, Cond.selects RX10 yX10_mayBe yX10_mayBe, Cond.code yX10_mayBe cX10_mayBe 4 (some .boolean), Cond.fieldLink RX10 109 "HeavyRoutesModel" "found" "I", Cond.fieldLink RX10 75 "HeavyRoutesModel" "foundSizes" "[I", Cond.fieldLink RX10 72 "HeavyRoutesModel" "foundRoads" "[I", Cond.fieldLink RX10 244 "HeavyRoutesModel" "limit" "I"]
def wsX10_goThrough_r3 : List Cond := [Cond.methodLink RX10 261 yX10_isBetter, Cond.instanceMethod yX10_isBetter, Cond.selects RX10 yX10_isBetter yX10_isBetter, Cond.code yX10_isBetter cX10_isBetter 5 (some .boolean), Cond.methodLink RX10 240 yX10_bridgesOf, Cond.instanceMethod yX10_bridgesOf, Cond.selects RX10 yX10_bridgesOf yX10_bridgesOf, Cond.code yX10_bridgesOf cX10_bridgesOf 5 (some .int), Cond.methodLink RX10 276 yX10_mayGo, Cond.instanceMethod yX10_mayGo, Cond.selects RX10 yX10_mayGo yX10_mayGo, Cond.code yX10_mayGo cX10_mayGo 4 (some .boolean), Cond.fieldLink RX10 90 "HeavyRoutesModel" "bears" "[Z", Cond.fieldLink RX10 41 "HeavyRoutesModel" "noTurn" "[Z", Cond.methodLink RX10 264 yX10_otherEnd, Cond.instanceMethod yX10_otherEnd, Cond.selects RX10 yX10_otherEnd yX10_otherEnd, Cond.code yX10_otherEnd cX10_otherEnd 3 (some .int), Cond.fieldLink RX10 7 "HeavyRoutesModel" "as" "[I", Cond.fieldLink RX10 13 "HeavyRoutesModel" "bs" "[I"]
def wsX10_goThrough : List Cond := .code yX10_goThrough cX10_goThrough 4 none :: ((wsX10_goThrough_r1 ++ (wsX10_goThrough_r2 ++ wsX10_goThrough_r3)) ++ wsX100)
def wsX10_search_r1 : List Cond := [Cond.fieldLink RX10 244 "HeavyRoutesModel" "limit" "I", Cond.fieldLink RX10 231 "HeavyRoutesModel" "bestSize" "I", Cond.fieldLink RX10 237 "HeavyRoutesModel" "size" "I", Cond.fieldLink RX10 247 "HeavyRoutesModel" "ways" "I", Cond.fieldLink RX10 84 "HeavyRoutesModel" "seen" "[Z", Cond.fieldLink RX10 267 "HeavyRoutesModel" "runFrom" "I", Cond.methodLink RX10 279 yX10_findBearing, Cond.instanceMethod yX10_findBearing, Cond.selects RX10 yX10_findBearing yX10_findBearing, Cond.initialized RX10, Cond.code yX10_findBearing cX10_findBearing 2 none, Cond.fieldLink RX10 99 "HeavyRoutesModel" "roads" "I", Cond.fieldLink RX10 90 "HeavyRoutesModel" "bears" "[Z", Cond.methodLink RX10 220 yX10_why, Cond.instanceMethod yX10_why, Cond.selects RX10 yX10_why yX10_why, Cond.code yX10_why cX10_why 2 (some .int), Cond.fieldLink RX10 25 "HeavyRoutesModel" "open" "[Z", Cond.fieldLink RX10 19 "HeavyRoutesModel" "heights" "[I", Cond.fieldLink RX10 65 "HeavyRoutesModel" "height" "I", Cond.fieldLink RX10 22 "HeavyRoutesModel" "widths" "[I", Cond.fieldLink RX10 69 "HeavyRoutesModel" "width" "I", Cond.fieldLink RX10 29 "HeavyRoutesModel" "bridgeOf" "[I", Cond.methodLink RX10 199 yX10_rate]
def wsX10_search_r2 : List Cond := [Cond.instanceMethod yX10_rate, Cond.selects RX10 yX10_rate yX10_rate, Cond.code yX10_rate cX10_rate 6 none, Cond.fieldLink RX10 165 "HeavyRoutesModel" "leastBelow" "J", Cond.fieldLink RX10 168 "HeavyRoutesModel" "leastStep" "J", Cond.fieldLink RX10 47 "HeavyRoutesModel" "cornerCounts" "[I", Cond.fieldLink RX10 56 "HeavyRoutesModel" "belows" "[I", Cond.fieldLink RX10 50 "HeavyRoutesModel" "places" "[I", Cond.fieldLink RX10 178 "HeavyRoutesModel" "topHigh" "J", Cond.fieldLink RX10 181 "HeavyRoutesModel" "topLow" "J", Cond.fieldLink RX10 135 "HeavyRoutesModel" "axles" "I", Cond.fieldLink RX10 59 "HeavyRoutesModel" "offsets" "[I", Cond.fieldLink RX10 152 "HeavyRoutesModel" "high" "J", Cond.fieldLink RX10 191 "HeavyRoutesModel" "underHigh" "J", Cond.fieldLink RX10 146 "HeavyRoutesModel" "low" "J", Cond.fieldLink RX10 194 "HeavyRoutesModel" "underLow" "J", Cond.methodLink RX10 184 yX10_common, Cond.static yX10_common, Cond.code yX10_common cX10_common 10 (some .long), Cond.methodLink RX10 188 yX10_effect, Cond.instanceMethod yX10_effect, Cond.selects RX10 yX10_effect yX10_effect, Cond.code yX10_effect cX10_effect 5 none, Cond.fieldLink RX10 159 "HeavyRoutesModel" "sumHigh" "J"]
def wsX10_search_r3 : List Cond := [Cond.fieldLink RX10 162 "HeavyRoutesModel" "sumLow" "J", Cond.fieldLink RX10 62 "HeavyRoutesModel" "loads" "[I", Cond.methodLink RX10 174 yX10_addAt, Cond.instanceMethod yX10_addAt, Cond.selects RX10 yX10_addAt yX10_addAt, Cond.code yX10_addAt cX10_addAt 10 none, Cond.fieldLink RX10 53 "HeavyRoutesModel" "aboves" "[I", Cond.methodLink RX10 171 yX10_add, Cond.instanceMethod yX10_add, Cond.selects RX10 yX10_add yX10_add, Cond.code yX10_add cX10_add 5 none, Cond.constantLong RX10 150 (1000000000000000000), Cond.methodLink RX10 155 yX10_product, Cond.instanceMethod yX10_product, Cond.selects RX10 yX10_product yX10_product, Cond.code yX10_product cX10_product 15 none, Cond.constantLong RX10 144 (1000000000), Cond.methodLink RX10 213 yX10_isAbove, Cond.instanceMethod yX10_isAbove, Cond.selects RX10 yX10_isAbove yX10_isAbove, Cond.code yX10_isAbove cX10_isAbove 11 (some .boolean), Cond.methodLink RX10 224 yX10_earliest, Cond.instanceMethod yX10_earliest, Cond.selects RX10 yX10_earliest yX10_earliest]
def wsX10_search_r4 : List Cond := [Cond.code yX10_earliest cX10_earliest 4 (some .int), Cond.methodLink RX10 217 yX10_isBarred, Cond.instanceMethod yX10_isBarred, Cond.selects RX10 yX10_isBarred yX10_isBarred, Cond.code yX10_isBarred cX10_isBarred 7 (some .boolean), Cond.fieldLink RX10 32 "HeavyRoutesModel" "hourCounts" "[I", Cond.fieldLink RX10 35 "HeavyRoutesModel" "hourFroms" "[I", Cond.fieldLink RX10 38 "HeavyRoutesModel" "hourTos" "[I", Cond.methodLink RX10 282 yX10_goThrough, Cond.instanceMethod yX10_goThrough, Cond.selects RX10 yX10_goThrough yX10_goThrough, Cond.code yX10_goThrough cX10_goThrough 4 none, Cond.fieldLink RX10 93 "HeavyRoutesModel" "ats" "[I", Cond.fieldLink RX10 96 "HeavyRoutesModel" "tried" "[I", Cond.fieldLink RX10 270 "HeavyRoutesModel" "runTo" "I", Cond.fieldLink RX10 81 "HeavyRoutesModel" "way" "[I", Cond.methodLink RX10 273 yX10_judge, Cond.instanceMethod yX10_judge, Cond.selects RX10 yX10_judge yX10_judge, Cond.code yX10_judge cX10_judge 3 none, Cond.fieldLink RX10 250 "HeavyRoutesModel" "runMinute" "I", Cond.fieldLink RX10 234 "HeavyRoutesModel" "bestEnd" "I", Cond.fieldLink RX10 87 "HeavyRoutesModel" "best" "[I", Cond.methodLink RX10 253 yX10_endOf]
def wsX10_search_r5 : List Cond := [Cond.instanceMethod yX10_endOf, Cond.selects RX10 yX10_endOf yX10_endOf, Cond.code yX10_endOf cX10_endOf 7 (some .int), Cond.methodLink RX10 228 yX10_takes, Cond.instanceMethod yX10_takes, Cond.selects RX10 yX10_takes yX10_takes, Cond.code yX10_takes cX10_takes 2 (some .int), Cond.fieldLink RX10 16 "HeavyRoutesModel" "minutes" "[I", Cond.fieldLink RX10 44 "HeavyRoutesModel" "isSlow" "[Z", Cond.methodLink RX10 257 yX10_mayBe, Cond.instanceMethod yX10_mayBe, Cond.selects RX10 yX10_mayBe yX10_mayBe, Cond.code yX10_mayBe cX10_mayBe 4 (some .boolean), Cond.fieldLink RX10 109 "HeavyRoutesModel" "found" "I", Cond.fieldLink RX10 75 "HeavyRoutesModel" "foundSizes" "[I", Cond.fieldLink RX10 72 "HeavyRoutesModel" "foundRoads" "[I", Cond.methodLink RX10 261 yX10_isBetter, Cond.instanceMethod yX10_isBetter, Cond.selects RX10 yX10_isBetter yX10_isBetter, Cond.code yX10_isBetter cX10_isBetter 5 (some .boolean), Cond.methodLink RX10 240 yX10_bridgesOf, Cond.instanceMethod yX10_bridgesOf, Cond.selects RX10 yX10_bridgesOf yX10_bridgesOf, Cond.code yX10_bridgesOf cX10_bridgesOf 5 (some .int)]
def wsX10_search_r6 : List Cond := [Cond.methodLink RX10 276 yX10_mayGo, Cond.instanceMethod yX10_mayGo, Cond.selects RX10 yX10_mayGo yX10_mayGo, Cond.code yX10_mayGo cX10_mayGo 4 (some .boolean), Cond.fieldLink RX10 41 "HeavyRoutesModel" "noTurn" "[Z", Cond.methodLink RX10 264 yX10_otherEnd, Cond.instanceMethod yX10_otherEnd, Cond.selects RX10 yX10_otherEnd yX10_otherEnd, Cond.code yX10_otherEnd cX10_otherEnd 3 (some .int), Cond.fieldLink RX10 7 "HeavyRoutesModel" "as" "[I", Cond.fieldLink RX10 13 "HeavyRoutesModel" "bs" "[I"]
def wsX10_search : List Cond := .code yX10_search cX10_search 3 none :: ((wsX10_search_r1 ++ (wsX10_search_r2 ++ (wsX10_search_r3 ++ (wsX10_search_r4 ++ (wsX10_search_r5 ++ wsX10_search_r6))))) ++ wsX100)
def wsX10_keep : List Cond := .code yX10_keep cX10_keep 2 none :: ([.fieldLink RX10 231 "HeavyRoutesModel" "bestSize" "I", .fieldLink RX10 72 "HeavyRoutesModel" "foundRoads" "[I", .fieldLink RX10 109 "HeavyRoutesModel" "found" "I", .fieldLink RX10 87 "HeavyRoutesModel" "best" "[I", .fieldLink RX10 75 "HeavyRoutesModel" "foundSizes" "[I"] ++ wsX100)
def wsX10_run_r1 : List Cond := [Cond.fieldLink RX10 112 "HeavyRoutesModel" "nodes" "I", Cond.constantLong RX10 285 (10000), Cond.fieldLink RX10 287 "HeavyRoutesModel" "isRun" "Z", Cond.fieldLink RX10 267 "HeavyRoutesModel" "runFrom" "I", Cond.fieldLink RX10 270 "HeavyRoutesModel" "runTo" "I", Cond.fieldLink RX10 250 "HeavyRoutesModel" "runMinute" "I", Cond.fieldLink RX10 109 "HeavyRoutesModel" "found" "I", Cond.constant RX10 291 (1000000000), Cond.fieldLink RX10 231 "HeavyRoutesModel" "bestSize" "I", Cond.fieldLink RX10 234 "HeavyRoutesModel" "bestEnd" "I", Cond.fieldLink RX10 298 "HeavyRoutesModel" "records" "I", Cond.fieldLink RX10 78 "HeavyRoutesModel" "recorded" "[I", Cond.methodLink RX10 102 yX10_in, Cond.static yX10_in, Cond.initialized RX10, Cond.code yX10_in cX10_in 6 (some .boolean), Cond.methodLink RX10 292 yX10_search, Cond.instanceMethod yX10_search, Cond.selects RX10 yX10_search yX10_search, Cond.code yX10_search cX10_search 3 none, Cond.fieldLink RX10 244 "HeavyRoutesModel" "limit" "I", Cond.fieldLink RX10 237 "HeavyRoutesModel" "size" "I", Cond.fieldLink RX10 247 "HeavyRoutesModel" "ways" "I", Cond.fieldLink RX10 84 "HeavyRoutesModel" "seen" "[Z"]
def wsX10_run_r2 : List Cond := [Cond.methodLink RX10 279 yX10_findBearing, Cond.instanceMethod yX10_findBearing, Cond.selects RX10 yX10_findBearing yX10_findBearing, Cond.code yX10_findBearing cX10_findBearing 2 none, Cond.fieldLink RX10 99 "HeavyRoutesModel" "roads" "I", Cond.fieldLink RX10 90 "HeavyRoutesModel" "bears" "[Z", Cond.methodLink RX10 220 yX10_why, Cond.instanceMethod yX10_why, Cond.selects RX10 yX10_why yX10_why, Cond.code yX10_why cX10_why 2 (some .int), Cond.fieldLink RX10 25 "HeavyRoutesModel" "open" "[Z", Cond.fieldLink RX10 19 "HeavyRoutesModel" "heights" "[I", Cond.fieldLink RX10 65 "HeavyRoutesModel" "height" "I", Cond.fieldLink RX10 22 "HeavyRoutesModel" "widths" "[I", Cond.fieldLink RX10 69 "HeavyRoutesModel" "width" "I", Cond.fieldLink RX10 29 "HeavyRoutesModel" "bridgeOf" "[I", Cond.methodLink RX10 199 yX10_rate, Cond.instanceMethod yX10_rate, Cond.selects RX10 yX10_rate yX10_rate, Cond.code yX10_rate cX10_rate 6 none, Cond.fieldLink RX10 165 "HeavyRoutesModel" "leastBelow" "J", Cond.fieldLink RX10 168 "HeavyRoutesModel" "leastStep" "J", Cond.fieldLink RX10 47 "HeavyRoutesModel" "cornerCounts" "[I", Cond.fieldLink RX10 56 "HeavyRoutesModel" "belows" "[I"]
def wsX10_run_r3 : List Cond := [Cond.fieldLink RX10 50 "HeavyRoutesModel" "places" "[I", Cond.fieldLink RX10 178 "HeavyRoutesModel" "topHigh" "J", Cond.fieldLink RX10 181 "HeavyRoutesModel" "topLow" "J", Cond.fieldLink RX10 135 "HeavyRoutesModel" "axles" "I", Cond.fieldLink RX10 59 "HeavyRoutesModel" "offsets" "[I", Cond.fieldLink RX10 152 "HeavyRoutesModel" "high" "J", Cond.fieldLink RX10 191 "HeavyRoutesModel" "underHigh" "J", Cond.fieldLink RX10 146 "HeavyRoutesModel" "low" "J", Cond.fieldLink RX10 194 "HeavyRoutesModel" "underLow" "J", Cond.methodLink RX10 184 yX10_common, Cond.static yX10_common, Cond.code yX10_common cX10_common 10 (some .long), Cond.methodLink RX10 188 yX10_effect, Cond.instanceMethod yX10_effect, Cond.selects RX10 yX10_effect yX10_effect, Cond.code yX10_effect cX10_effect 5 none, Cond.fieldLink RX10 159 "HeavyRoutesModel" "sumHigh" "J", Cond.fieldLink RX10 162 "HeavyRoutesModel" "sumLow" "J", Cond.fieldLink RX10 62 "HeavyRoutesModel" "loads" "[I", Cond.methodLink RX10 174 yX10_addAt, Cond.instanceMethod yX10_addAt, Cond.selects RX10 yX10_addAt yX10_addAt, Cond.code yX10_addAt cX10_addAt 10 none, Cond.fieldLink RX10 53 "HeavyRoutesModel" "aboves" "[I"]
def wsX10_run_r4 : List Cond := [Cond.methodLink RX10 171 yX10_add, Cond.instanceMethod yX10_add, Cond.selects RX10 yX10_add yX10_add, Cond.code yX10_add cX10_add 5 none, Cond.constantLong RX10 150 (1000000000000000000), Cond.methodLink RX10 155 yX10_product, Cond.instanceMethod yX10_product, Cond.selects RX10 yX10_product yX10_product, Cond.code yX10_product cX10_product 15 none, Cond.constantLong RX10 144 (1000000000), Cond.methodLink RX10 213 yX10_isAbove, Cond.instanceMethod yX10_isAbove, Cond.selects RX10 yX10_isAbove yX10_isAbove, Cond.code yX10_isAbove cX10_isAbove 11 (some .boolean), Cond.methodLink RX10 224 yX10_earliest, Cond.instanceMethod yX10_earliest, Cond.selects RX10 yX10_earliest yX10_earliest, Cond.code yX10_earliest cX10_earliest 4 (some .int), Cond.methodLink RX10 217 yX10_isBarred, Cond.instanceMethod yX10_isBarred, Cond.selects RX10 yX10_isBarred yX10_isBarred, Cond.code yX10_isBarred cX10_isBarred 7 (some .boolean), Cond.fieldLink RX10 32 "HeavyRoutesModel" "hourCounts" "[I", Cond.fieldLink RX10 35 "HeavyRoutesModel" "hourFroms" "[I"]
def wsX10_run_r5 : List Cond := [Cond.fieldLink RX10 38 "HeavyRoutesModel" "hourTos" "[I", Cond.methodLink RX10 282 yX10_goThrough, Cond.instanceMethod yX10_goThrough, Cond.selects RX10 yX10_goThrough yX10_goThrough, Cond.code yX10_goThrough cX10_goThrough 4 none, Cond.fieldLink RX10 93 "HeavyRoutesModel" "ats" "[I", Cond.fieldLink RX10 96 "HeavyRoutesModel" "tried" "[I", Cond.fieldLink RX10 81 "HeavyRoutesModel" "way" "[I", Cond.methodLink RX10 273 yX10_judge, Cond.instanceMethod yX10_judge, Cond.selects RX10 yX10_judge yX10_judge, Cond.code yX10_judge cX10_judge 3 none, Cond.fieldLink RX10 87 "HeavyRoutesModel" "best" "[I", Cond.methodLink RX10 253 yX10_endOf, Cond.instanceMethod yX10_endOf, Cond.selects RX10 yX10_endOf yX10_endOf, Cond.code yX10_endOf cX10_endOf 7 (some .int), Cond.methodLink RX10 228 yX10_takes, Cond.instanceMethod yX10_takes, Cond.selects RX10 yX10_takes yX10_takes, Cond.code yX10_takes cX10_takes 2 (some .int), Cond.fieldLink RX10 16 "HeavyRoutesModel" "minutes" "[I", Cond.fieldLink RX10 44 "HeavyRoutesModel" "isSlow" "[Z", Cond.methodLink RX10 257 yX10_mayBe]
def wsX10_run_r6 : List Cond := [Cond.instanceMethod yX10_mayBe, Cond.selects RX10 yX10_mayBe yX10_mayBe, Cond.code yX10_mayBe cX10_mayBe 4 (some .boolean), Cond.fieldLink RX10 75 "HeavyRoutesModel" "foundSizes" "[I", Cond.fieldLink RX10 72 "HeavyRoutesModel" "foundRoads" "[I", Cond.methodLink RX10 261 yX10_isBetter, Cond.instanceMethod yX10_isBetter, Cond.selects RX10 yX10_isBetter yX10_isBetter, Cond.code yX10_isBetter cX10_isBetter 5 (some .boolean), Cond.methodLink RX10 240 yX10_bridgesOf, Cond.instanceMethod yX10_bridgesOf, Cond.selects RX10 yX10_bridgesOf yX10_bridgesOf, Cond.code yX10_bridgesOf cX10_bridgesOf 5 (some .int), Cond.methodLink RX10 276 yX10_mayGo, Cond.instanceMethod yX10_mayGo, Cond.selects RX10 yX10_mayGo yX10_mayGo, Cond.code yX10_mayGo cX10_mayGo 4 (some .boolean), Cond.fieldLink RX10 41 "HeavyRoutesModel" "noTurn" "[Z", Cond.methodLink RX10 264 yX10_otherEnd, Cond.instanceMethod yX10_otherEnd, Cond.selects RX10 yX10_otherEnd yX10_otherEnd, Cond.code yX10_otherEnd cX10_otherEnd 3 (some .int), Cond.fieldLink RX10 7 "HeavyRoutesModel" "as" "[I", Cond.fieldLink RX10 13 "HeavyRoutesModel" "bs" "[I"]
def wsX10_run_r7 : List Cond := [Cond.methodLink RX10 295 yX10_keep, Cond.instanceMethod yX10_keep, Cond.selects RX10 yX10_keep yX10_keep, Cond.code yX10_keep cX10_keep 2 none]
def wsX10_run : List Cond := .code yX10_run cX10_run 5 (some .int) :: ((wsX10_run_r1 ++ (wsX10_run_r2 ++ (wsX10_run_r3 ++ (wsX10_run_r4 ++ (wsX10_run_r5 ++ (wsX10_run_r6 ++ wsX10_run_r7)))))) ++ wsX100)
def wsX10_alternate_r1 : List Cond := [Cond.constantLong RX10 301 (100), Cond.fieldLink RX10 109 "HeavyRoutesModel" "found" "I", Cond.fieldLink RX10 75 "HeavyRoutesModel" "foundSizes" "[I", Cond.fieldLink RX10 231 "HeavyRoutesModel" "bestSize" "I", Cond.fieldLink RX10 234 "HeavyRoutesModel" "bestEnd" "I", Cond.fieldLink RX10 250 "HeavyRoutesModel" "runMinute" "I", Cond.methodLink RX10 102 yX10_in, Cond.static yX10_in, Cond.initialized RX10, Cond.code yX10_in cX10_in 6 (some .boolean), Cond.methodLink RX10 292 yX10_search, Cond.instanceMethod yX10_search, Cond.selects RX10 yX10_search yX10_search, Cond.code yX10_search cX10_search 3 none, Cond.fieldLink RX10 244 "HeavyRoutesModel" "limit" "I", Cond.fieldLink RX10 237 "HeavyRoutesModel" "size" "I", Cond.fieldLink RX10 247 "HeavyRoutesModel" "ways" "I", Cond.fieldLink RX10 84 "HeavyRoutesModel" "seen" "[Z", Cond.fieldLink RX10 267 "HeavyRoutesModel" "runFrom" "I", Cond.methodLink RX10 279 yX10_findBearing, Cond.instanceMethod yX10_findBearing, Cond.selects RX10 yX10_findBearing yX10_findBearing, Cond.code yX10_findBearing cX10_findBearing 2 none, Cond.fieldLink RX10 99 "HeavyRoutesModel" "roads" "I"]
def wsX10_alternate_r2 : List Cond := [Cond.fieldLink RX10 90 "HeavyRoutesModel" "bears" "[Z", Cond.methodLink RX10 220 yX10_why, Cond.instanceMethod yX10_why, Cond.selects RX10 yX10_why yX10_why, Cond.code yX10_why cX10_why 2 (some .int), Cond.fieldLink RX10 25 "HeavyRoutesModel" "open" "[Z", Cond.fieldLink RX10 19 "HeavyRoutesModel" "heights" "[I", Cond.fieldLink RX10 65 "HeavyRoutesModel" "height" "I", Cond.fieldLink RX10 22 "HeavyRoutesModel" "widths" "[I", Cond.fieldLink RX10 69 "HeavyRoutesModel" "width" "I", Cond.fieldLink RX10 29 "HeavyRoutesModel" "bridgeOf" "[I", Cond.methodLink RX10 199 yX10_rate, Cond.instanceMethod yX10_rate, Cond.selects RX10 yX10_rate yX10_rate, Cond.code yX10_rate cX10_rate 6 none, Cond.fieldLink RX10 165 "HeavyRoutesModel" "leastBelow" "J", Cond.fieldLink RX10 168 "HeavyRoutesModel" "leastStep" "J", Cond.fieldLink RX10 47 "HeavyRoutesModel" "cornerCounts" "[I", Cond.fieldLink RX10 56 "HeavyRoutesModel" "belows" "[I", Cond.fieldLink RX10 50 "HeavyRoutesModel" "places" "[I", Cond.fieldLink RX10 178 "HeavyRoutesModel" "topHigh" "J", Cond.fieldLink RX10 181 "HeavyRoutesModel" "topLow" "J", Cond.fieldLink RX10 135 "HeavyRoutesModel" "axles" "I", Cond.fieldLink RX10 59 "HeavyRoutesModel" "offsets" "[I"]
def wsX10_alternate_r3 : List Cond := [Cond.fieldLink RX10 152 "HeavyRoutesModel" "high" "J", Cond.fieldLink RX10 191 "HeavyRoutesModel" "underHigh" "J", Cond.fieldLink RX10 146 "HeavyRoutesModel" "low" "J", Cond.fieldLink RX10 194 "HeavyRoutesModel" "underLow" "J", Cond.methodLink RX10 184 yX10_common, Cond.static yX10_common, Cond.code yX10_common cX10_common 10 (some .long), Cond.methodLink RX10 188 yX10_effect, Cond.instanceMethod yX10_effect, Cond.selects RX10 yX10_effect yX10_effect, Cond.code yX10_effect cX10_effect 5 none, Cond.fieldLink RX10 159 "HeavyRoutesModel" "sumHigh" "J", Cond.fieldLink RX10 162 "HeavyRoutesModel" "sumLow" "J", Cond.fieldLink RX10 62 "HeavyRoutesModel" "loads" "[I", Cond.methodLink RX10 174 yX10_addAt, Cond.instanceMethod yX10_addAt, Cond.selects RX10 yX10_addAt yX10_addAt, Cond.code yX10_addAt cX10_addAt 10 none, Cond.fieldLink RX10 53 "HeavyRoutesModel" "aboves" "[I", Cond.methodLink RX10 171 yX10_add, Cond.instanceMethod yX10_add, Cond.selects RX10 yX10_add yX10_add, Cond.code yX10_add cX10_add 5 none, Cond.constantLong RX10 150 (1000000000000000000)]
def wsX10_alternate_r4 : List Cond := [Cond.methodLink RX10 155 yX10_product, Cond.instanceMethod yX10_product, Cond.selects RX10 yX10_product yX10_product, Cond.code yX10_product cX10_product 15 none, Cond.constantLong RX10 144 (1000000000), Cond.methodLink RX10 213 yX10_isAbove, Cond.instanceMethod yX10_isAbove, Cond.selects RX10 yX10_isAbove yX10_isAbove, Cond.code yX10_isAbove cX10_isAbove 11 (some .boolean), Cond.methodLink RX10 224 yX10_earliest, Cond.instanceMethod yX10_earliest, Cond.selects RX10 yX10_earliest yX10_earliest, Cond.code yX10_earliest cX10_earliest 4 (some .int), Cond.methodLink RX10 217 yX10_isBarred, Cond.instanceMethod yX10_isBarred, Cond.selects RX10 yX10_isBarred yX10_isBarred, Cond.code yX10_isBarred cX10_isBarred 7 (some .boolean), Cond.fieldLink RX10 32 "HeavyRoutesModel" "hourCounts" "[I", Cond.fieldLink RX10 35 "HeavyRoutesModel" "hourFroms" "[I", Cond.fieldLink RX10 38 "HeavyRoutesModel" "hourTos" "[I", Cond.methodLink RX10 282 yX10_goThrough, Cond.instanceMethod yX10_goThrough, Cond.selects RX10 yX10_goThrough yX10_goThrough, Cond.code yX10_goThrough cX10_goThrough 4 none]
def wsX10_alternate_r5 : List Cond := [Cond.fieldLink RX10 93 "HeavyRoutesModel" "ats" "[I", Cond.fieldLink RX10 96 "HeavyRoutesModel" "tried" "[I", Cond.fieldLink RX10 270 "HeavyRoutesModel" "runTo" "I", Cond.fieldLink RX10 81 "HeavyRoutesModel" "way" "[I", Cond.methodLink RX10 273 yX10_judge, Cond.instanceMethod yX10_judge, Cond.selects RX10 yX10_judge yX10_judge, Cond.code yX10_judge cX10_judge 3 none, Cond.fieldLink RX10 87 "HeavyRoutesModel" "best" "[I", Cond.methodLink RX10 253 yX10_endOf, Cond.instanceMethod yX10_endOf, Cond.selects RX10 yX10_endOf yX10_endOf, Cond.code yX10_endOf cX10_endOf 7 (some .int), Cond.methodLink RX10 228 yX10_takes, Cond.instanceMethod yX10_takes, Cond.selects RX10 yX10_takes yX10_takes, Cond.code yX10_takes cX10_takes 2 (some .int), Cond.fieldLink RX10 16 "HeavyRoutesModel" "minutes" "[I", Cond.fieldLink RX10 44 "HeavyRoutesModel" "isSlow" "[Z", Cond.methodLink RX10 257 yX10_mayBe, Cond.instanceMethod yX10_mayBe, Cond.selects RX10 yX10_mayBe yX10_mayBe, Cond.code yX10_mayBe cX10_mayBe 4 (some .boolean), Cond.fieldLink RX10 72 "HeavyRoutesModel" "foundRoads" "[I"]
def wsX10_alternate_r6 : List Cond := [Cond.methodLink RX10 261 yX10_isBetter, Cond.instanceMethod yX10_isBetter, Cond.selects RX10 yX10_isBetter yX10_isBetter, Cond.code yX10_isBetter cX10_isBetter 5 (some .boolean), Cond.methodLink RX10 240 yX10_bridgesOf, Cond.instanceMethod yX10_bridgesOf, Cond.selects RX10 yX10_bridgesOf yX10_bridgesOf, Cond.code yX10_bridgesOf cX10_bridgesOf 5 (some .int), Cond.methodLink RX10 276 yX10_mayGo, Cond.instanceMethod yX10_mayGo, Cond.selects RX10 yX10_mayGo yX10_mayGo, Cond.code yX10_mayGo cX10_mayGo 4 (some .boolean), Cond.fieldLink RX10 41 "HeavyRoutesModel" "noTurn" "[Z", Cond.methodLink RX10 264 yX10_otherEnd, Cond.instanceMethod yX10_otherEnd, Cond.selects RX10 yX10_otherEnd yX10_otherEnd, Cond.code yX10_otherEnd cX10_otherEnd 3 (some .int), Cond.fieldLink RX10 7 "HeavyRoutesModel" "as" "[I", Cond.fieldLink RX10 13 "HeavyRoutesModel" "bs" "[I", Cond.methodLink RX10 295 yX10_keep, Cond.instanceMethod yX10_keep, Cond.selects RX10 yX10_keep yX10_keep, Cond.code yX10_keep cX10_keep 2 none]
def wsX10_alternate : List Cond := .code yX10_alternate cX10_alternate 5 (some .int) :: ((wsX10_alternate_r1 ++ (wsX10_alternate_r2 ++ (wsX10_alternate_r3 ++ (wsX10_alternate_r4 ++ (wsX10_alternate_r5 ++ wsX10_alternate_r6))))) ++ wsX100)
def wsX10_handSize : List Cond := .code yX10_handSize cX10_handSize 1 (some .int) :: ([.fieldLink RX10 109 "HeavyRoutesModel" "found" "I", .fieldLink RX10 75 "HeavyRoutesModel" "foundSizes" "[I"] ++ wsX100)
def wsX10_hand : List Cond := .code yX10_hand cX10_hand 2 (some .int) :: ([.fieldLink RX10 72 "HeavyRoutesModel" "foundRoads" "[I", .fieldLink RX10 109 "HeavyRoutesModel" "found" "I"] ++ wsX100)
def wsX10_road2 : List Cond := .code yX10_road2 cX10_road2 2 (some .int) :: ([.methodLink RX10 303 yX10_handSize, .instanceMethod yX10_handSize, .selects RX10 yX10_handSize yX10_handSize, .initialized RX10, .code yX10_handSize cX10_handSize 1 (some .int), .fieldLink RX10 109 "HeavyRoutesModel" "found" "I", .fieldLink RX10 75 "HeavyRoutesModel" "foundSizes" "[I", .methodLink RX10 102 yX10_in, .static yX10_in, .code yX10_in cX10_in 6 (some .boolean), .methodLink RX10 307 yX10_hand, .instanceMethod yX10_hand, .selects RX10 yX10_hand yX10_hand, .code yX10_hand cX10_hand 2 (some .int), .fieldLink RX10 72 "HeavyRoutesModel" "foundRoads" "[I"] ++ wsX100)
def wsX10_begun_r1 : List Cond := [Cond.fieldLink RX10 72 "HeavyRoutesModel" "foundRoads" "[I", Cond.fieldLink RX10 109 "HeavyRoutesModel" "found" "I", Cond.fieldLink RX10 250 "HeavyRoutesModel" "runMinute" "I", Cond.methodLink RX10 303 yX10_handSize, Cond.instanceMethod yX10_handSize, Cond.selects RX10 yX10_handSize yX10_handSize, Cond.initialized RX10, Cond.code yX10_handSize cX10_handSize 1 (some .int), Cond.fieldLink RX10 75 "HeavyRoutesModel" "foundSizes" "[I", Cond.methodLink RX10 102 yX10_in, Cond.static yX10_in, Cond.code yX10_in cX10_in 6 (some .boolean), Cond.methodLink RX10 307 yX10_hand, Cond.instanceMethod yX10_hand, Cond.selects RX10 yX10_hand yX10_hand, Cond.code yX10_hand cX10_hand 2 (some .int), Cond.methodLink RX10 253 yX10_endOf, Cond.instanceMethod yX10_endOf, Cond.selects RX10 yX10_endOf yX10_endOf, Cond.code yX10_endOf cX10_endOf 7 (some .int), Cond.methodLink RX10 224 yX10_earliest, Cond.instanceMethod yX10_earliest, Cond.selects RX10 yX10_earliest yX10_earliest, Cond.code yX10_earliest cX10_earliest 4 (some .int)]
def wsX10_begun_r2 : List Cond := [Cond.methodLink RX10 217 yX10_isBarred, Cond.instanceMethod yX10_isBarred, Cond.selects RX10 yX10_isBarred yX10_isBarred, Cond.code yX10_isBarred cX10_isBarred 7 (some .boolean), Cond.fieldLink RX10 32 "HeavyRoutesModel" "hourCounts" "[I", Cond.fieldLink RX10 35 "HeavyRoutesModel" "hourFroms" "[I", Cond.fieldLink RX10 38 "HeavyRoutesModel" "hourTos" "[I", Cond.methodLink RX10 228 yX10_takes, Cond.instanceMethod yX10_takes, Cond.selects RX10 yX10_takes yX10_takes, Cond.code yX10_takes cX10_takes 2 (some .int), Cond.fieldLink RX10 16 "HeavyRoutesModel" "minutes" "[I", Cond.fieldLink RX10 29 "HeavyRoutesModel" "bridgeOf" "[I", Cond.fieldLink RX10 44 "HeavyRoutesModel" "isSlow" "[Z"]
def wsX10_begun : List Cond := .code yX10_begun cX10_begun 2 (some .int) :: ((wsX10_begun_r1 ++ wsX10_begun_r2) ++ wsX100)
def wsX10_bars_r1 : List Cond := [Cond.fieldLink RX10 99 "HeavyRoutesModel" "roads" "I", Cond.methodLink RX10 220 yX10_why, Cond.instanceMethod yX10_why, Cond.selects RX10 yX10_why yX10_why, Cond.initialized RX10, Cond.code yX10_why cX10_why 2 (some .int), Cond.fieldLink RX10 25 "HeavyRoutesModel" "open" "[Z", Cond.fieldLink RX10 19 "HeavyRoutesModel" "heights" "[I", Cond.fieldLink RX10 65 "HeavyRoutesModel" "height" "I", Cond.fieldLink RX10 22 "HeavyRoutesModel" "widths" "[I", Cond.fieldLink RX10 69 "HeavyRoutesModel" "width" "I", Cond.fieldLink RX10 29 "HeavyRoutesModel" "bridgeOf" "[I", Cond.methodLink RX10 199 yX10_rate, Cond.instanceMethod yX10_rate, Cond.selects RX10 yX10_rate yX10_rate, Cond.code yX10_rate cX10_rate 6 none, Cond.fieldLink RX10 165 "HeavyRoutesModel" "leastBelow" "J", Cond.fieldLink RX10 168 "HeavyRoutesModel" "leastStep" "J", Cond.fieldLink RX10 47 "HeavyRoutesModel" "cornerCounts" "[I", Cond.fieldLink RX10 56 "HeavyRoutesModel" "belows" "[I", Cond.fieldLink RX10 50 "HeavyRoutesModel" "places" "[I", Cond.fieldLink RX10 178 "HeavyRoutesModel" "topHigh" "J", Cond.fieldLink RX10 181 "HeavyRoutesModel" "topLow" "J", Cond.fieldLink RX10 135 "HeavyRoutesModel" "axles" "I"]
def wsX10_bars_r2 : List Cond := [Cond.fieldLink RX10 59 "HeavyRoutesModel" "offsets" "[I", Cond.fieldLink RX10 152 "HeavyRoutesModel" "high" "J", Cond.fieldLink RX10 191 "HeavyRoutesModel" "underHigh" "J", Cond.fieldLink RX10 146 "HeavyRoutesModel" "low" "J", Cond.fieldLink RX10 194 "HeavyRoutesModel" "underLow" "J", Cond.methodLink RX10 184 yX10_common, Cond.static yX10_common, Cond.code yX10_common cX10_common 10 (some .long), Cond.methodLink RX10 188 yX10_effect, Cond.instanceMethod yX10_effect, Cond.selects RX10 yX10_effect yX10_effect, Cond.code yX10_effect cX10_effect 5 none, Cond.fieldLink RX10 159 "HeavyRoutesModel" "sumHigh" "J", Cond.fieldLink RX10 162 "HeavyRoutesModel" "sumLow" "J", Cond.fieldLink RX10 62 "HeavyRoutesModel" "loads" "[I", Cond.methodLink RX10 174 yX10_addAt, Cond.instanceMethod yX10_addAt, Cond.selects RX10 yX10_addAt yX10_addAt, Cond.code yX10_addAt cX10_addAt 10 none, Cond.fieldLink RX10 53 "HeavyRoutesModel" "aboves" "[I", Cond.methodLink RX10 171 yX10_add, Cond.instanceMethod yX10_add, Cond.selects RX10 yX10_add yX10_add, Cond.code yX10_add cX10_add 5 none]
def wsX10_bars_r3 : List Cond := [Cond.constantLong RX10 150 (1000000000000000000), Cond.methodLink RX10 155 yX10_product, Cond.instanceMethod yX10_product, Cond.selects RX10 yX10_product yX10_product, Cond.code yX10_product cX10_product 15 none, Cond.constantLong RX10 144 (1000000000), Cond.methodLink RX10 213 yX10_isAbove, Cond.instanceMethod yX10_isAbove, Cond.selects RX10 yX10_isAbove yX10_isAbove, Cond.code yX10_isAbove cX10_isAbove 11 (some .boolean)]
def wsX10_bars : List Cond := .code yX10_bars cX10_bars 6 (some .int) :: ((wsX10_bars_r1 ++ (wsX10_bars_r2 ++ wsX10_bars_r3)) ++ wsX100)
def wsX10_convoy_r1 : List Cond := [Cond.constantLong RX10 310 (20), Cond.constantLong RX10 115 (600), Cond.fieldLink RX10 72 "HeavyRoutesModel" "foundRoads" "[I", Cond.fieldLink RX10 109 "HeavyRoutesModel" "found" "I", Cond.fieldLink RX10 250 "HeavyRoutesModel" "runMinute" "I", Cond.methodLink RX10 102 yX10_in, Cond.static yX10_in, Cond.initialized RX10, Cond.code yX10_in cX10_in 6 (some .boolean), Cond.methodLink RX10 303 yX10_handSize, Cond.instanceMethod yX10_handSize, Cond.selects RX10 yX10_handSize yX10_handSize, Cond.code yX10_handSize cX10_handSize 1 (some .int), Cond.fieldLink RX10 75 "HeavyRoutesModel" "foundSizes" "[I", Cond.methodLink RX10 253 yX10_endOf, Cond.instanceMethod yX10_endOf, Cond.selects RX10 yX10_endOf yX10_endOf, Cond.code yX10_endOf cX10_endOf 7 (some .int), Cond.methodLink RX10 224 yX10_earliest, Cond.instanceMethod yX10_earliest, Cond.selects RX10 yX10_earliest yX10_earliest, Cond.code yX10_earliest cX10_earliest 4 (some .int), Cond.methodLink RX10 217 yX10_isBarred, Cond.instanceMethod yX10_isBarred]
def wsX10_convoy_r2 : List Cond := [Cond.selects RX10 yX10_isBarred yX10_isBarred, Cond.code yX10_isBarred cX10_isBarred 7 (some .boolean), Cond.fieldLink RX10 32 "HeavyRoutesModel" "hourCounts" "[I", Cond.fieldLink RX10 35 "HeavyRoutesModel" "hourFroms" "[I", Cond.fieldLink RX10 38 "HeavyRoutesModel" "hourTos" "[I", Cond.methodLink RX10 228 yX10_takes, Cond.instanceMethod yX10_takes, Cond.selects RX10 yX10_takes yX10_takes, Cond.code yX10_takes cX10_takes 2 (some .int), Cond.fieldLink RX10 16 "HeavyRoutesModel" "minutes" "[I", Cond.fieldLink RX10 29 "HeavyRoutesModel" "bridgeOf" "[I", Cond.fieldLink RX10 44 "HeavyRoutesModel" "isSlow" "[Z"]
def wsX10_convoy : List Cond := .code yX10_convoy cX10_convoy 6 (some .int) :: ((wsX10_convoy_r1 ++ wsX10_convoy_r2) ++ wsX100)
def wsX10_wantsEscort_r1 : List Cond := [Cond.fieldLink RX10 19 "HeavyRoutesModel" "heights" "[I", Cond.fieldLink RX10 65 "HeavyRoutesModel" "height" "I", Cond.fieldLink RX10 22 "HeavyRoutesModel" "widths" "[I", Cond.fieldLink RX10 69 "HeavyRoutesModel" "width" "I", Cond.fieldLink RX10 29 "HeavyRoutesModel" "bridgeOf" "[I", Cond.methodLink RX10 199 yX10_rate, Cond.instanceMethod yX10_rate, Cond.selects RX10 yX10_rate yX10_rate, Cond.initialized RX10, Cond.code yX10_rate cX10_rate 6 none, Cond.fieldLink RX10 165 "HeavyRoutesModel" "leastBelow" "J", Cond.fieldLink RX10 168 "HeavyRoutesModel" "leastStep" "J", Cond.fieldLink RX10 47 "HeavyRoutesModel" "cornerCounts" "[I", Cond.fieldLink RX10 56 "HeavyRoutesModel" "belows" "[I", Cond.fieldLink RX10 50 "HeavyRoutesModel" "places" "[I", Cond.fieldLink RX10 178 "HeavyRoutesModel" "topHigh" "J", Cond.fieldLink RX10 181 "HeavyRoutesModel" "topLow" "J", Cond.fieldLink RX10 135 "HeavyRoutesModel" "axles" "I", Cond.fieldLink RX10 59 "HeavyRoutesModel" "offsets" "[I", Cond.fieldLink RX10 152 "HeavyRoutesModel" "high" "J", Cond.fieldLink RX10 191 "HeavyRoutesModel" "underHigh" "J", Cond.fieldLink RX10 146 "HeavyRoutesModel" "low" "J", Cond.fieldLink RX10 194 "HeavyRoutesModel" "underLow" "J", Cond.methodLink RX10 184 yX10_common]
def wsX10_wantsEscort_r2 : List Cond := [Cond.static yX10_common, Cond.code yX10_common cX10_common 10 (some .long), Cond.methodLink RX10 188 yX10_effect, Cond.instanceMethod yX10_effect, Cond.selects RX10 yX10_effect yX10_effect, Cond.code yX10_effect cX10_effect 5 none, Cond.fieldLink RX10 159 "HeavyRoutesModel" "sumHigh" "J", Cond.fieldLink RX10 162 "HeavyRoutesModel" "sumLow" "J", Cond.fieldLink RX10 62 "HeavyRoutesModel" "loads" "[I", Cond.methodLink RX10 174 yX10_addAt, Cond.instanceMethod yX10_addAt, Cond.selects RX10 yX10_addAt yX10_addAt, Cond.code yX10_addAt cX10_addAt 10 none, Cond.fieldLink RX10 53 "HeavyRoutesModel" "aboves" "[I", Cond.methodLink RX10 171 yX10_add, Cond.instanceMethod yX10_add, Cond.selects RX10 yX10_add yX10_add, Cond.code yX10_add cX10_add 5 none, Cond.constantLong RX10 150 (1000000000000000000), Cond.methodLink RX10 155 yX10_product, Cond.instanceMethod yX10_product, Cond.selects RX10 yX10_product yX10_product, Cond.code yX10_product cX10_product 15 none, Cond.constantLong RX10 144 (1000000000)]
def wsX10_wantsEscort_r3 : List Cond := [Cond.methodLink RX10 213 yX10_isAbove, Cond.instanceMethod yX10_isAbove, Cond.selects RX10 yX10_isAbove yX10_isAbove, Cond.code yX10_isAbove cX10_isAbove 11 (some .boolean)]
def wsX10_wantsEscort : List Cond := .code yX10_wantsEscort cX10_wantsEscort 2 (some .boolean) :: ((wsX10_wantsEscort_r1 ++ (wsX10_wantsEscort_r2 ++ wsX10_wantsEscort_r3)) ++ wsX100)
def wsX10_escort_r1 : List Cond := [Cond.methodLink RX10 303 yX10_handSize, Cond.instanceMethod yX10_handSize, Cond.selects RX10 yX10_handSize yX10_handSize, Cond.initialized RX10, Cond.code yX10_handSize cX10_handSize 1 (some .int), Cond.fieldLink RX10 109 "HeavyRoutesModel" "found" "I", Cond.fieldLink RX10 75 "HeavyRoutesModel" "foundSizes" "[I", Cond.methodLink RX10 307 yX10_hand, Cond.instanceMethod yX10_hand, Cond.selects RX10 yX10_hand yX10_hand, Cond.code yX10_hand cX10_hand 2 (some .int), Cond.fieldLink RX10 72 "HeavyRoutesModel" "foundRoads" "[I", Cond.methodLink RX10 312 yX10_wantsEscort, Cond.instanceMethod yX10_wantsEscort, Cond.selects RX10 yX10_wantsEscort yX10_wantsEscort, Cond.code yX10_wantsEscort cX10_wantsEscort 2 (some .boolean), Cond.fieldLink RX10 19 "HeavyRoutesModel" "heights" "[I", Cond.fieldLink RX10 65 "HeavyRoutesModel" "height" "I", Cond.fieldLink RX10 22 "HeavyRoutesModel" "widths" "[I", Cond.fieldLink RX10 69 "HeavyRoutesModel" "width" "I", Cond.fieldLink RX10 29 "HeavyRoutesModel" "bridgeOf" "[I", Cond.methodLink RX10 199 yX10_rate, Cond.instanceMethod yX10_rate, Cond.selects RX10 yX10_rate yX10_rate]
def wsX10_escort_r2 : List Cond := [Cond.code yX10_rate cX10_rate 6 none, Cond.fieldLink RX10 165 "HeavyRoutesModel" "leastBelow" "J", Cond.fieldLink RX10 168 "HeavyRoutesModel" "leastStep" "J", Cond.fieldLink RX10 47 "HeavyRoutesModel" "cornerCounts" "[I", Cond.fieldLink RX10 56 "HeavyRoutesModel" "belows" "[I", Cond.fieldLink RX10 50 "HeavyRoutesModel" "places" "[I", Cond.fieldLink RX10 178 "HeavyRoutesModel" "topHigh" "J", Cond.fieldLink RX10 181 "HeavyRoutesModel" "topLow" "J", Cond.fieldLink RX10 135 "HeavyRoutesModel" "axles" "I", Cond.fieldLink RX10 59 "HeavyRoutesModel" "offsets" "[I", Cond.fieldLink RX10 152 "HeavyRoutesModel" "high" "J", Cond.fieldLink RX10 191 "HeavyRoutesModel" "underHigh" "J", Cond.fieldLink RX10 146 "HeavyRoutesModel" "low" "J", Cond.fieldLink RX10 194 "HeavyRoutesModel" "underLow" "J", Cond.methodLink RX10 184 yX10_common, Cond.static yX10_common, Cond.code yX10_common cX10_common 10 (some .long), Cond.methodLink RX10 188 yX10_effect, Cond.instanceMethod yX10_effect, Cond.selects RX10 yX10_effect yX10_effect, Cond.code yX10_effect cX10_effect 5 none, Cond.fieldLink RX10 159 "HeavyRoutesModel" "sumHigh" "J", Cond.fieldLink RX10 162 "HeavyRoutesModel" "sumLow" "J", Cond.fieldLink RX10 62 "HeavyRoutesModel" "loads" "[I"]
def wsX10_escort_r3 : List Cond := [Cond.methodLink RX10 174 yX10_addAt, Cond.instanceMethod yX10_addAt, Cond.selects RX10 yX10_addAt yX10_addAt, Cond.code yX10_addAt cX10_addAt 10 none, Cond.fieldLink RX10 53 "HeavyRoutesModel" "aboves" "[I", Cond.methodLink RX10 171 yX10_add, Cond.instanceMethod yX10_add, Cond.selects RX10 yX10_add yX10_add, Cond.code yX10_add cX10_add 5 none, Cond.constantLong RX10 150 (1000000000000000000), Cond.methodLink RX10 155 yX10_product, Cond.instanceMethod yX10_product, Cond.selects RX10 yX10_product yX10_product, Cond.code yX10_product cX10_product 15 none, Cond.constantLong RX10 144 (1000000000), Cond.methodLink RX10 213 yX10_isAbove, Cond.instanceMethod yX10_isAbove, Cond.selects RX10 yX10_isAbove yX10_isAbove, Cond.code yX10_isAbove cX10_isAbove 11 (some .boolean)]
def wsX10_escort : List Cond := .code yX10_escort cX10_escort 4 (some .int) :: ((wsX10_escort_r1 ++ (wsX10_escort_r2 ++ wsX10_escort_r3)) ++ wsX100)
def wsX10_notice : List Cond := .code yX10_notice cX10_notice 4 (some .int) :: ([.fieldLink RX10 29 "HeavyRoutesModel" "bridgeOf" "[I", .methodLink RX10 303 yX10_handSize, .instanceMethod yX10_handSize, .selects RX10 yX10_handSize yX10_handSize, .initialized RX10, .code yX10_handSize cX10_handSize 1 (some .int), .fieldLink RX10 109 "HeavyRoutesModel" "found" "I", .fieldLink RX10 75 "HeavyRoutesModel" "foundSizes" "[I", .methodLink RX10 307 yX10_hand, .instanceMethod yX10_hand, .selects RX10 yX10_hand yX10_hand, .code yX10_hand cX10_hand 2 (some .int), .fieldLink RX10 72 "HeavyRoutesModel" "foundRoads" "[I"] ++ wsX100)
def wsX10_record : List Cond := .code yX10_record cX10_record 2 (some .int) :: ([.fieldLink RX10 298 "HeavyRoutesModel" "records" "I", .fieldLink RX10 78 "HeavyRoutesModel" "recorded" "[I", .methodLink RX10 102 yX10_in, .static yX10_in, .initialized RX10, .code yX10_in cX10_in 6 (some .boolean)] ++ wsX100)
def wsX10_count_r1 : List Cond := [Cond.fieldLink RX10 112 "HeavyRoutesModel" "nodes" "I", Cond.fieldLink RX10 99 "HeavyRoutesModel" "roads" "I", Cond.fieldLink RX10 106 "HeavyRoutesModel" "bridges" "I", Cond.fieldLink RX10 135 "HeavyRoutesModel" "axles" "I", Cond.fieldLink RX10 109 "HeavyRoutesModel" "found" "I", Cond.fieldLink RX10 287 "HeavyRoutesModel" "isRun" "Z", Cond.constant RX10 291 (1000000000), Cond.fieldLink RX10 247 "HeavyRoutesModel" "ways" "I", Cond.methodLink RX10 303 yX10_handSize, Cond.instanceMethod yX10_handSize, Cond.selects RX10 yX10_handSize yX10_handSize, Cond.initialized RX10, Cond.code yX10_handSize cX10_handSize 1 (some .int), Cond.fieldLink RX10 75 "HeavyRoutesModel" "foundSizes" "[I", Cond.methodLink RX10 292 yX10_search, Cond.instanceMethod yX10_search, Cond.selects RX10 yX10_search yX10_search, Cond.code yX10_search cX10_search 3 none, Cond.fieldLink RX10 244 "HeavyRoutesModel" "limit" "I", Cond.fieldLink RX10 231 "HeavyRoutesModel" "bestSize" "I", Cond.fieldLink RX10 237 "HeavyRoutesModel" "size" "I", Cond.fieldLink RX10 84 "HeavyRoutesModel" "seen" "[Z", Cond.fieldLink RX10 267 "HeavyRoutesModel" "runFrom" "I", Cond.methodLink RX10 279 yX10_findBearing]
def wsX10_count_r2 : List Cond := [Cond.instanceMethod yX10_findBearing, Cond.selects RX10 yX10_findBearing yX10_findBearing, Cond.code yX10_findBearing cX10_findBearing 2 none, Cond.fieldLink RX10 90 "HeavyRoutesModel" "bears" "[Z", Cond.methodLink RX10 220 yX10_why, Cond.instanceMethod yX10_why, Cond.selects RX10 yX10_why yX10_why, Cond.code yX10_why cX10_why 2 (some .int), Cond.fieldLink RX10 25 "HeavyRoutesModel" "open" "[Z", Cond.fieldLink RX10 19 "HeavyRoutesModel" "heights" "[I", Cond.fieldLink RX10 65 "HeavyRoutesModel" "height" "I", Cond.fieldLink RX10 22 "HeavyRoutesModel" "widths" "[I", Cond.fieldLink RX10 69 "HeavyRoutesModel" "width" "I", Cond.fieldLink RX10 29 "HeavyRoutesModel" "bridgeOf" "[I", Cond.methodLink RX10 199 yX10_rate, Cond.instanceMethod yX10_rate, Cond.selects RX10 yX10_rate yX10_rate, Cond.code yX10_rate cX10_rate 6 none, Cond.fieldLink RX10 165 "HeavyRoutesModel" "leastBelow" "J", Cond.fieldLink RX10 168 "HeavyRoutesModel" "leastStep" "J", Cond.fieldLink RX10 47 "HeavyRoutesModel" "cornerCounts" "[I", Cond.fieldLink RX10 56 "HeavyRoutesModel" "belows" "[I", Cond.fieldLink RX10 50 "HeavyRoutesModel" "places" "[I", Cond.fieldLink RX10 178 "HeavyRoutesModel" "topHigh" "J"]
def wsX10_count_r3 : List Cond := [Cond.fieldLink RX10 181 "HeavyRoutesModel" "topLow" "J", Cond.fieldLink RX10 59 "HeavyRoutesModel" "offsets" "[I", Cond.fieldLink RX10 152 "HeavyRoutesModel" "high" "J", Cond.fieldLink RX10 191 "HeavyRoutesModel" "underHigh" "J", Cond.fieldLink RX10 146 "HeavyRoutesModel" "low" "J", Cond.fieldLink RX10 194 "HeavyRoutesModel" "underLow" "J", Cond.methodLink RX10 184 yX10_common, Cond.static yX10_common, Cond.code yX10_common cX10_common 10 (some .long), Cond.methodLink RX10 188 yX10_effect, Cond.instanceMethod yX10_effect, Cond.selects RX10 yX10_effect yX10_effect, Cond.code yX10_effect cX10_effect 5 none, Cond.fieldLink RX10 159 "HeavyRoutesModel" "sumHigh" "J", Cond.fieldLink RX10 162 "HeavyRoutesModel" "sumLow" "J", Cond.fieldLink RX10 62 "HeavyRoutesModel" "loads" "[I", Cond.methodLink RX10 174 yX10_addAt, Cond.instanceMethod yX10_addAt, Cond.selects RX10 yX10_addAt yX10_addAt, Cond.code yX10_addAt cX10_addAt 10 none, Cond.fieldLink RX10 53 "HeavyRoutesModel" "aboves" "[I", Cond.methodLink RX10 171 yX10_add, Cond.instanceMethod yX10_add, Cond.selects RX10 yX10_add yX10_add]
def wsX10_count_r4 : List Cond := [Cond.code yX10_add cX10_add 5 none, Cond.constantLong RX10 150 (1000000000000000000), Cond.methodLink RX10 155 yX10_product, Cond.instanceMethod yX10_product, Cond.selects RX10 yX10_product yX10_product, Cond.code yX10_product cX10_product 15 none, Cond.constantLong RX10 144 (1000000000), Cond.methodLink RX10 213 yX10_isAbove, Cond.instanceMethod yX10_isAbove, Cond.selects RX10 yX10_isAbove yX10_isAbove, Cond.code yX10_isAbove cX10_isAbove 11 (some .boolean), Cond.methodLink RX10 224 yX10_earliest, Cond.instanceMethod yX10_earliest, Cond.selects RX10 yX10_earliest yX10_earliest, Cond.code yX10_earliest cX10_earliest 4 (some .int), Cond.methodLink RX10 217 yX10_isBarred, Cond.instanceMethod yX10_isBarred, Cond.selects RX10 yX10_isBarred yX10_isBarred, Cond.code yX10_isBarred cX10_isBarred 7 (some .boolean), Cond.fieldLink RX10 32 "HeavyRoutesModel" "hourCounts" "[I", Cond.fieldLink RX10 35 "HeavyRoutesModel" "hourFroms" "[I", Cond.fieldLink RX10 38 "HeavyRoutesModel" "hourTos" "[I", Cond.methodLink RX10 282 yX10_goThrough, Cond.instanceMethod yX10_goThrough]
def wsX10_count_r5 : List Cond := [Cond.selects RX10 yX10_goThrough yX10_goThrough, Cond.code yX10_goThrough cX10_goThrough 4 none, Cond.fieldLink RX10 93 "HeavyRoutesModel" "ats" "[I", Cond.fieldLink RX10 96 "HeavyRoutesModel" "tried" "[I", Cond.fieldLink RX10 270 "HeavyRoutesModel" "runTo" "I", Cond.fieldLink RX10 81 "HeavyRoutesModel" "way" "[I", Cond.methodLink RX10 273 yX10_judge, Cond.instanceMethod yX10_judge, Cond.selects RX10 yX10_judge yX10_judge, Cond.code yX10_judge cX10_judge 3 none, Cond.fieldLink RX10 250 "HeavyRoutesModel" "runMinute" "I", Cond.fieldLink RX10 234 "HeavyRoutesModel" "bestEnd" "I", Cond.fieldLink RX10 87 "HeavyRoutesModel" "best" "[I", Cond.methodLink RX10 253 yX10_endOf, Cond.instanceMethod yX10_endOf, Cond.selects RX10 yX10_endOf yX10_endOf, Cond.code yX10_endOf cX10_endOf 7 (some .int), Cond.methodLink RX10 228 yX10_takes, Cond.instanceMethod yX10_takes, Cond.selects RX10 yX10_takes yX10_takes, Cond.code yX10_takes cX10_takes 2 (some .int), Cond.fieldLink RX10 16 "HeavyRoutesModel" "minutes" "[I", Cond.fieldLink RX10 44 "HeavyRoutesModel" "isSlow" "[Z", Cond.methodLink RX10 257 yX10_mayBe]
def wsX10_count_r6 : List Cond := [Cond.instanceMethod yX10_mayBe, Cond.selects RX10 yX10_mayBe yX10_mayBe, Cond.code yX10_mayBe cX10_mayBe 4 (some .boolean), Cond.fieldLink RX10 72 "HeavyRoutesModel" "foundRoads" "[I", Cond.methodLink RX10 261 yX10_isBetter, Cond.instanceMethod yX10_isBetter, Cond.selects RX10 yX10_isBetter yX10_isBetter, Cond.code yX10_isBetter cX10_isBetter 5 (some .boolean), Cond.methodLink RX10 240 yX10_bridgesOf, Cond.instanceMethod yX10_bridgesOf, Cond.selects RX10 yX10_bridgesOf yX10_bridgesOf, Cond.code yX10_bridgesOf cX10_bridgesOf 5 (some .int), Cond.methodLink RX10 276 yX10_mayGo, Cond.instanceMethod yX10_mayGo, Cond.selects RX10 yX10_mayGo yX10_mayGo, Cond.code yX10_mayGo cX10_mayGo 4 (some .boolean), Cond.fieldLink RX10 41 "HeavyRoutesModel" "noTurn" "[Z", Cond.methodLink RX10 264 yX10_otherEnd, Cond.instanceMethod yX10_otherEnd, Cond.selects RX10 yX10_otherEnd yX10_otherEnd, Cond.code yX10_otherEnd cX10_otherEnd 3 (some .int), Cond.fieldLink RX10 7 "HeavyRoutesModel" "as" "[I", Cond.fieldLink RX10 13 "HeavyRoutesModel" "bs" "[I"]
def wsX10_count : List Cond := .code yX10_count cX10_count 2 (some .int) :: ((wsX10_count_r1 ++ (wsX10_count_r2 ++ (wsX10_count_r3 ++ (wsX10_count_r4 ++ (wsX10_count_r5 ++ wsX10_count_r6))))) ++ wsX100)
def wsJ9_abs_067f4 : List Cond := .code yJ9_abs_067f4 cJ9_abs_067f4 2 (some .long) :: ([])
def wsJ9_max_7cf53 : List Cond := .code yJ9_max_7cf53 cJ9_max_7cf53 2 (some .int) :: ([])
def wsJ9_max_f86c9 : List Cond := .code yJ9_max_f86c9 cJ9_max_f86c9 4 (some .long) :: ([])
def wsL_law_r1 : List Cond := [Cond.classLink RL 7 RX9, Cond.instantiable RX9 4, Cond.initialized RX9, Cond.classLink RL 10 RX10, Cond.instantiable RX10 54, Cond.initialized RX10, Cond.constantLong RL 28 (4294967295), Cond.methodLink RL 9 yX9_init, Cond.instanceMethod yX9_init, Cond.code yX9_init cX9_init 1 none, Cond.methodLink RX9 3 objectInit, Cond.instanceMethod objectInit, Cond.code objectInit ⟨#[0xb1]⟩ 1 none, Cond.classLink RX9 9 RX3, Cond.instantiable RX3 7, Cond.initialized RX3, Cond.fieldLink RX9 12 "HeavyRoutes" "net" "LHeavyRoutes$Net;", Cond.classLink RX9 16 RX1, Cond.instantiable RX1 15, Cond.initialized RX1, Cond.fieldLink RX9 21 "HeavyRoutes" "finder" "LHeavyRoutes$Finder;", Cond.arrayClass .int, Cond.fieldLink RX9 25 "HeavyRoutes" "records" "[I", Cond.methodLink RX9 11 yX3_init]
def wsL_law_r2 : List Cond := [Cond.instanceMethod yX3_init, Cond.code yX3_init cX3_init 2 none, Cond.methodLink RX3 3 objectInit, Cond.classLink RX3 9 RX6, Cond.fieldLink RX3 11 "HeavyRoutes$Net" "roads" "[LHeavyRoutes$Road;", Cond.classLink RX3 17 RX0, Cond.fieldLink RX3 19 "HeavyRoutes$Net" "bridges" "[LHeavyRoutes$Bridge;", Cond.classLink RX3 23 RX2, Cond.instantiable RX2 5, Cond.initialized RX2, Cond.fieldLink RX3 26 "HeavyRoutes$Net" "journey" "LHeavyRoutes$Journey;", Cond.classLink RX3 30 RX4, Cond.instantiable RX4 8, Cond.initialized RX4, Cond.fieldLink RX3 33 "HeavyRoutes$Net" "rater" "LHeavyRoutes$Rater;", Cond.instantiable RX6 11, Cond.initialized RX6, Cond.instantiable RX0 8, Cond.initialized RX0, Cond.instanceMethod yX2_init, Cond.code yX2_init cX2_init 1 none, Cond.methodLink RX2 3 objectInit, Cond.fieldLink RX2 9 "HeavyRoutes$Journey" "height" "I", Cond.fieldLink RX2 15 "HeavyRoutes$Journey" "width" "I"]
def wsL_law_r3 : List Cond := [Cond.arrayClass .long, Cond.fieldLink RX2 18 "HeavyRoutes$Journey" "offsets" "[J", Cond.fieldLink RX2 22 "HeavyRoutes$Journey" "loads" "[J", Cond.instanceMethod yX4_init, Cond.code yX4_init cX4_init 1 none, Cond.methodLink RX4 3 objectInit, Cond.classLink RX4 9 RX8, Cond.instantiable RX8 1, Cond.initialized RX8, Cond.fieldLink RX4 12 "HeavyRoutes$Rater" "raising" "LHeavyRoutes$Wide;", Cond.fieldLink RX4 18 "HeavyRoutes$Rater" "lowering" "LHeavyRoutes$Wide;", Cond.classLink RX4 21 RX5, Cond.instantiable RX5 2, Cond.initialized RX5, Cond.fieldLink RX4 24 "HeavyRoutes$Rater" "anew" "LHeavyRoutes$Rating;", Cond.fieldLink RX4 28 "HeavyRoutes$Rater" "shares" "[J", Cond.fieldLink RX4 32 "HeavyRoutes$Rater" "valueFactors" "[J", Cond.fieldLink RX4 35 "HeavyRoutes$Rater" "gapFactors" "[J", Cond.instanceMethod yX8_init, Cond.code yX8_init cX8_init 1 none, Cond.methodLink RX8 1 objectInit, Cond.fieldLink RX8 9 "HeavyRoutes$Wide" "limbs" "[J", Cond.methodLink RX4 23 yX5_init, Cond.instanceMethod yX5_init]
def wsL_law_r4 : List Cond := [Cond.code yX5_init cX5_init 1 none, Cond.methodLink RX5 1 objectInit, Cond.classLink RX5 7 RX8, Cond.fieldLink RX5 10 "HeavyRoutes$Rating" "upper" "LHeavyRoutes$Wide;", Cond.fieldLink RX5 16 "HeavyRoutes$Rating" "lower" "LHeavyRoutes$Wide;", Cond.methodLink RX5 19 yX8_setTo, Cond.instanceMethod yX8_setTo, Cond.selects RX8 yX8_setTo yX8_setTo, Cond.code yX8_setTo cX8_setTo 4 none, Cond.instanceMethod yX6_init, Cond.code yX6_init cX6_init 1 none, Cond.methodLink RX6 3 objectInit, Cond.fieldLink RX6 9 "HeavyRoutes$Road" "bridge" "I", Cond.fieldLink RX6 15 "HeavyRoutes$Road" "barFrom" "[I", Cond.fieldLink RX6 19 "HeavyRoutes$Road" "barTo" "[I", Cond.instanceMethod yX0_init, Cond.code yX0_init cX0_init 1 none, Cond.methodLink RX0 3 objectInit, Cond.fieldLink RX0 9 "HeavyRoutes$Bridge" "at" "[J", Cond.fieldLink RX0 15 "HeavyRoutes$Bridge" "above" "[J", Cond.fieldLink RX0 18 "HeavyRoutes$Bridge" "below" "[J", Cond.classLink RX0 21 RX5, Cond.fieldLink RX0 24 "HeavyRoutes$Bridge" "kept" "LHeavyRoutes$Rating;", Cond.methodLink RX0 23 yX5_init]
def wsL_law_r5 : List Cond := [Cond.methodLink RX9 18 yX1_init, Cond.instanceMethod yX1_init, Cond.code yX1_init cX1_init 3 none, Cond.methodLink RX1 3 objectInit, Cond.classLink RX1 9 RX7, Cond.fieldLink RX1 11 "HeavyRoutes$Finder" "found" "[LHeavyRoutes$Way;", Cond.instantiable RX7 6, Cond.initialized RX7, Cond.fieldLink RX1 18 "HeavyRoutes$Finder" "noWay" "LHeavyRoutes$Way;", Cond.fieldLink RX1 22 "HeavyRoutes$Finder" "trial" "LHeavyRoutes$Way;", Cond.fieldLink RX1 25 "HeavyRoutes$Finder" "best" "LHeavyRoutes$Way;", Cond.fieldLink RX1 28 "HeavyRoutes$Finder" "net" "LHeavyRoutes$Net;", Cond.instanceMethod yX7_init, Cond.code yX7_init cX7_init 1 none, Cond.methodLink RX7 3 objectInit, Cond.fieldLink RX7 9 "HeavyRoutes$Way" "roads" "[I", Cond.fieldLink RX7 15 "HeavyRoutes$Way" "starts" "[I", Cond.methodLink RL 12 yX10_init, Cond.instanceMethod yX10_init, Cond.code yX10_init cX10_init 1 none, Cond.methodLink RX10 1 objectInit, Cond.fieldLink RX10 7 "HeavyRoutesModel" "as" "[I", Cond.fieldLink RX10 13 "HeavyRoutesModel" "bs" "[I", Cond.fieldLink RX10 16 "HeavyRoutesModel" "minutes" "[I"]
def wsL_law_r6 : List Cond := [Cond.fieldLink RX10 19 "HeavyRoutesModel" "heights" "[I", Cond.fieldLink RX10 22 "HeavyRoutesModel" "widths" "[I", Cond.arrayClass .boolean, Cond.fieldLink RX10 25 "HeavyRoutesModel" "open" "[Z", Cond.fieldLink RX10 29 "HeavyRoutesModel" "bridgeOf" "[I", Cond.fieldLink RX10 32 "HeavyRoutesModel" "hourCounts" "[I", Cond.fieldLink RX10 35 "HeavyRoutesModel" "hourFroms" "[I", Cond.fieldLink RX10 38 "HeavyRoutesModel" "hourTos" "[I", Cond.fieldLink RX10 41 "HeavyRoutesModel" "noTurn" "[Z", Cond.fieldLink RX10 44 "HeavyRoutesModel" "isSlow" "[Z", Cond.fieldLink RX10 47 "HeavyRoutesModel" "cornerCounts" "[I", Cond.fieldLink RX10 50 "HeavyRoutesModel" "places" "[I", Cond.fieldLink RX10 53 "HeavyRoutesModel" "aboves" "[I", Cond.fieldLink RX10 56 "HeavyRoutesModel" "belows" "[I", Cond.fieldLink RX10 59 "HeavyRoutesModel" "offsets" "[I", Cond.fieldLink RX10 62 "HeavyRoutesModel" "loads" "[I", Cond.fieldLink RX10 65 "HeavyRoutesModel" "height" "I", Cond.fieldLink RX10 69 "HeavyRoutesModel" "width" "I", Cond.fieldLink RX10 72 "HeavyRoutesModel" "foundRoads" "[I", Cond.fieldLink RX10 75 "HeavyRoutesModel" "foundSizes" "[I", Cond.fieldLink RX10 78 "HeavyRoutesModel" "recorded" "[I", Cond.fieldLink RX10 81 "HeavyRoutesModel" "way" "[I", Cond.fieldLink RX10 84 "HeavyRoutesModel" "seen" "[Z", Cond.fieldLink RX10 87 "HeavyRoutesModel" "best" "[I"]
def wsL_law_r7 : List Cond := [Cond.fieldLink RX10 90 "HeavyRoutesModel" "bears" "[Z", Cond.fieldLink RX10 93 "HeavyRoutesModel" "ats" "[I", Cond.fieldLink RX10 96 "HeavyRoutesModel" "tried" "[I", Cond.methodLink RL 13 yX9_node, Cond.instanceMethod yX9_node, Cond.selects RX9 yX9_node yX9_node, Cond.code yX9_node cX9_node 1 (some .int), Cond.methodLink RL 17 yX10_node, Cond.instanceMethod yX10_node, Cond.selects RX10 yX10_node yX10_node, Cond.code yX10_node cX10_node 1 (some .int), Cond.fieldLink RX10 112 "HeavyRoutesModel" "nodes" "I", Cond.methodLink RL 18 yX9_road, Cond.instanceMethod yX9_road, Cond.selects RX9 yX9_road yX9_road, Cond.code yX9_road cX9_road 6 (some .int), Cond.constantLong RX9 40 (600), Cond.methodLink RX9 36 yX3_hasNode, Cond.instanceMethod yX3_hasNode, Cond.selects RX3 yX3_hasNode yX3_hasNode, Cond.code yX3_hasNode cX3_hasNode 2 (some .boolean), Cond.fieldLink RX3 39 "HeavyRoutes$Net" "nodeCount" "I", Cond.methodLink RX9 42 yX9_isWithin, Cond.static yX9_isWithin]
def wsL_law_r8 : List Cond := [Cond.code yX9_isWithin cX9_isWithin 6 (some .boolean), Cond.methodLink RX9 46 yX9_isSize, Cond.static yX9_isSize, Cond.code yX9_isSize cX9_isSize 1 (some .boolean), Cond.constantLong RX9 237 (9999), Cond.methodLink RX9 49 yX1_forget, Cond.instanceMethod yX1_forget, Cond.selects RX1 yX1_forget yX1_forget, Cond.code yX1_forget cX1_forget 1 none, Cond.fieldLink RX1 32 "HeavyRoutes$Finder" "foundCount" "I", Cond.methodLink RX9 56 yX6_lay, Cond.instanceMethod yX6_lay, Cond.selects RX6 yX6_lay yX6_lay, Cond.code yX6_lay cX6_lay 6 none, Cond.fieldLink RX6 22 "HeavyRoutes$Road" "endA" "I", Cond.fieldLink RX6 25 "HeavyRoutes$Road" "endB" "I", Cond.fieldLink RX6 28 "HeavyRoutes$Road" "minutes" "I", Cond.fieldLink RX6 31 "HeavyRoutes$Road" "height" "I", Cond.fieldLink RX6 34 "HeavyRoutes$Road" "width" "I", Cond.fieldLink RX6 37 "HeavyRoutes$Road" "open" "Z", Cond.methodLink RL 22 yX10_road, Cond.instanceMethod yX10_road, Cond.selects RX10 yX10_road yX10_road, Cond.code yX10_road cX10_road 6 (some .int)]
def wsL_law_r9 : List Cond := [Cond.constantLong RX10 115 (600), Cond.constantLong RX10 117 (9999), Cond.fieldLink RX10 99 "HeavyRoutesModel" "roads" "I", Cond.methodLink RX10 102 yX10_in, Cond.static yX10_in, Cond.code yX10_in cX10_in 6 (some .boolean), Cond.methodLink RX10 119 yX10_forget, Cond.instanceMethod yX10_forget, Cond.selects RX10 yX10_forget yX10_forget, Cond.code yX10_forget cX10_forget 1 none, Cond.fieldLink RX10 109 "HeavyRoutesModel" "found" "I", Cond.methodLink RL 23 yX9_bridge, Cond.instanceMethod yX9_bridge, Cond.selects RX9 yX9_bridge yX9_bridge, Cond.code yX9_bridge cX9_bridge 2 (some .int), Cond.methodLink RX9 62 yX3_hasRoad, Cond.instanceMethod yX3_hasRoad, Cond.selects RX3 yX3_hasRoad yX3_hasRoad, Cond.code yX3_hasRoad cX3_hasRoad 2 (some .boolean), Cond.fieldLink RX3 43 "HeavyRoutes$Net" "roadCount" "I", Cond.methodLink RL 27 yX10_bridge, Cond.instanceMethod yX10_bridge, Cond.selects RX10 yX10_bridge yX10_bridge, Cond.code yX10_bridge cX10_bridge 2 (some .int)]
def wsL_law_r10 : List Cond := [Cond.fieldLink RX10 106 "HeavyRoutesModel" "bridges" "I", Cond.methodLink RX10 122 yX10_isRoad, Cond.instanceMethod yX10_isRoad, Cond.selects RX10 yX10_isRoad yX10_isRoad, Cond.code yX10_isRoad cX10_isRoad 2 (some .boolean), Cond.methodLink RL 30 yX9_row, Cond.instanceMethod yX9_row, Cond.selects RX9 yX9_row yX9_row, Cond.code yX9_row cX9_row 8 (some .boolean), Cond.constantLong RX9 84 (-1000), Cond.constantLong RX9 86 (1000), Cond.methodLink RX9 71 yX3_hasBridge, Cond.instanceMethod yX3_hasBridge, Cond.selects RX3 yX3_hasBridge yX3_hasBridge, Cond.code yX3_hasBridge cX3_hasBridge 2 (some .boolean), Cond.fieldLink RX3 46 "HeavyRoutes$Net" "bridgeCount" "I", Cond.methodLink RX9 78 yX0_canTakeCorner, Cond.instanceMethod yX0_canTakeCorner, Cond.selects RX0 yX0_canTakeCorner yX0_canTakeCorner, Cond.code yX0_canTakeCorner cX0_canTakeCorner 3 (some .boolean), Cond.fieldLink RX0 28 "HeavyRoutes$Bridge" "cornerCount" "I", Cond.constantLong RX0 32 (60), Cond.methodLink RX9 88 yX0_addCorner, Cond.instanceMethod yX0_addCorner]
def wsL_law_r11 : List Cond := [Cond.selects RX0 yX0_addCorner yX0_addCorner, Cond.code yX0_addCorner cX0_addCorner 7 none, Cond.methodLink RX9 92 yX3_rateBridge, Cond.instanceMethod yX3_rateBridge, Cond.selects RX3 yX3_rateBridge yX3_rateBridge, Cond.code yX3_rateBridge cX3_rateBridge 3 none, Cond.constantLong RX3 65 (3), Cond.constantLong RX3 67 (4), Cond.methodLink RX3 53 yX4_rate, Cond.instanceMethod yX4_rate, Cond.selects RX4 yX4_rate yX4_rate, Cond.code yX4_rate cX4_rate 6 none, Cond.methodLink RX4 41 yX8_setTo, Cond.methodLink RX4 48 yX4_findScales, Cond.instanceMethod yX4_findScales, Cond.selects RX4 yX4_findScales yX4_findScales, Cond.code yX4_findScales cX4_findScales 5 none, Cond.fieldLink RX4 77 "HeavyRoutes$Rater" "valueScale" "J", Cond.fieldLink RX4 81 "HeavyRoutes$Rater" "gapScale" "J", Cond.methodLink RX4 87 yX4_commonDivisor, Cond.static yX4_commonDivisor, Cond.code yX4_commonDivisor cX4_commonDivisor 11 (some .long), Cond.methodLink RX4 149 Lib.MathLoose.max_long.x, Cond.static Lib.MathLoose.max_long.x]
def wsL_law_r12 : List Cond := [Cond.initialized "java/lang/Math", Cond.code Lib.MathLoose.max_long.x Lib.MathLoose.max_long.code 4 (some .long), Cond.methodLink RX4 91 yX4_quotient, Cond.static yX4_quotient, Cond.code yX4_quotient cX4_quotient 4 (some .long), Cond.methodLink RX4 94 yX0_gapBehind, Cond.instanceMethod yX0_gapBehind, Cond.selects RX0 yX0_gapBehind yX0_gapBehind, Cond.code yX0_gapBehind cX0_gapBehind 2 (some .long), Cond.methodLink RX4 69 yX4_takeGreater, Cond.instanceMethod yX4_takeGreater, Cond.selects RX4 yX4_takeGreater yX4_takeGreater, Cond.code yX4_takeGreater cX4_takeGreater 9 none, Cond.methodLink RX4 108 Lib.MathLoose.abs_long.x, Cond.static Lib.MathLoose.abs_long.x, Cond.code Lib.MathLoose.abs_long.x Lib.MathLoose.abs_long.code 2 (some .long), Cond.methodLink RX4 101 yX4_shareOut, Cond.instanceMethod yX4_shareOut, Cond.selects RX4 yX4_shareOut yX4_shareOut, Cond.code yX4_shareOut cX4_shareOut 13 none, Cond.methodLink RX4 114 yX8_addProduct, Cond.instanceMethod yX8_addProduct, Cond.selects RX8 yX8_addProduct yX8_addProduct, Cond.code yX8_addProduct cX8_addProduct 8 none]
def wsL_law_r13 : List Cond := [Cond.constantLong RX8 13 (1000000000), Cond.methodLink RX8 15 yX8_addShifted, Cond.instanceMethod yX8_addShifted, Cond.selects RX8 yX8_addShifted yX8_addShifted, Cond.code yX8_addShifted cX8_addShifted 13 none, Cond.methodLink RX4 118 yX8_compareWith, Cond.instanceMethod yX8_compareWith, Cond.selects RX8 yX8_compareWith yX8_compareWith, Cond.code yX8_compareWith cX8_compareWith 3 (some .int), Cond.methodLink RX4 122 yX8_subtract, Cond.instanceMethod yX8_subtract, Cond.selects RX8 yX8_subtract yX8_subtract, Cond.code yX8_subtract cX8_subtract 7 none, Cond.methodLink RX4 126 yX8_copyFrom, Cond.instanceMethod yX8_copyFrom, Cond.selects RX8 yX8_copyFrom yX8_copyFrom, Cond.code yX8_copyFrom cX8_copyFrom 3 none, Cond.methodLink RX4 73 yX4_reduce, Cond.static yX4_reduce, Cond.code yX4_reduce cX4_reduce 6 none, Cond.methodLink RX4 129 yX8_remainder, Cond.instanceMethod yX8_remainder, Cond.selects RX8 yX8_remainder yX8_remainder, Cond.code yX8_remainder cX8_remainder 6 (some .long)]
def wsL_law_r14 : List Cond := [Cond.methodLink RX4 132 yX8_divide, Cond.instanceMethod yX8_divide, Cond.selects RX8 yX8_divide yX8_divide, Cond.code yX8_divide cX8_divide 8 none, Cond.methodLink RX4 135 yX8_multiply, Cond.instanceMethod yX8_multiply, Cond.selects RX8 yX8_multiply yX8_multiply, Cond.code yX8_multiply cX8_multiply 8 none, Cond.methodLink RX3 57 yX4_isAbove, Cond.instanceMethod yX4_isAbove, Cond.selects RX4 yX4_isAbove yX4_isAbove, Cond.code yX4_isAbove cX4_isAbove 6 (some .boolean), Cond.methodLink RL 34 yX10_row, Cond.instanceMethod yX10_row, Cond.selects RX10 yX10_row yX10_row, Cond.code yX10_row cX10_row 9 (some .boolean), Cond.constantLong RX10 129 (60), Cond.constantLong RX10 131 (-1000), Cond.constantLong RX10 133 (1000), Cond.methodLink RX10 126 yX10_isBridge, Cond.instanceMethod yX10_isBridge, Cond.selects RX10 yX10_isBridge yX10_isBridge, Cond.code yX10_isBridge cX10_isBridge 2 (some .boolean), Cond.methodLink RL 35 yX9_axle]
def wsL_law_r15 : List Cond := [Cond.instanceMethod yX9_axle, Cond.selects RX9 yX9_axle yX9_axle, Cond.code yX9_axle cX9_axle 5 (some .boolean), Cond.methodLink RX9 100 yX2_canTakeAxle, Cond.instanceMethod yX2_canTakeAxle, Cond.selects RX2 yX2_canTakeAxle yX2_canTakeAxle, Cond.code yX2_canTakeAxle cX2_canTakeAxle 3 (some .boolean), Cond.fieldLink RX2 25 "HeavyRoutes$Journey" "axleCount" "I", Cond.constantLong RX2 28 (30), Cond.methodLink RX9 105 yX2_addAxle, Cond.instanceMethod yX2_addAxle, Cond.selects RX2 yX2_addAxle yX2_addAxle, Cond.code yX2_addAxle cX2_addAxle 5 none, Cond.methodLink RX9 109 yX3_rateAllBridges, Cond.instanceMethod yX3_rateAllBridges, Cond.selects RX3 yX3_rateAllBridges yX3_rateAllBridges, Cond.code yX3_rateAllBridges cX3_rateAllBridges 2 none, Cond.methodLink RX3 72 yX3_rateBridge, Cond.methodLink RL 39 yX10_axle, Cond.instanceMethod yX10_axle, Cond.selects RX10 yX10_axle yX10_axle, Cond.code yX10_axle cX10_axle 5 (some .boolean), Cond.fieldLink RX10 135 "HeavyRoutesModel" "axles" "I", Cond.constantLong RX10 138 (30)]
def wsL_law_r16 : List Cond := [Cond.methodLink RL 40 yX9_size, Cond.instanceMethod yX9_size, Cond.selects RX9 yX9_size yX9_size, Cond.code yX9_size cX9_size 4 (some .boolean), Cond.constantLong RX9 112 (200), Cond.methodLink RL 44 yX10_size, Cond.instanceMethod yX10_size, Cond.selects RX10 yX10_size yX10_size, Cond.code yX10_size cX10_size 4 (some .boolean), Cond.constantLong RX10 140 (200), Cond.methodLink RL 45 yX9_turn, Cond.instanceMethod yX9_turn, Cond.selects RX9 yX9_turn yX9_turn, Cond.code yX9_turn cX9_turn 4 (some .boolean), Cond.methodLink RX9 120 yX6_meets, Cond.instanceMethod yX6_meets, Cond.selects RX6 yX6_meets yX6_meets, Cond.code yX6_meets cX6_meets 2 (some .boolean), Cond.methodLink RX6 41 yX6_nodeAcross, Cond.instanceMethod yX6_nodeAcross, Cond.selects RX6 yX6_nodeAcross yX6_nodeAcross, Cond.code yX6_nodeAcross cX6_nodeAcross 2 (some .int), Cond.methodLink RX9 124 yX6_setTurn, Cond.instanceMethod yX6_setTurn]
def wsL_law_r17 : List Cond := [Cond.selects RX6 yX6_setTurn yX6_setTurn, Cond.code yX6_setTurn cX6_setTurn 4 none, Cond.fieldLink RX6 45 "HeavyRoutes$Road" "blockedTurns" "I", Cond.methodLink RL 49 yX10_turn, Cond.instanceMethod yX10_turn, Cond.selects RX10 yX10_turn yX10_turn, Cond.code yX10_turn cX10_turn 4 (some .boolean), Cond.methodLink RL 50 yX9_hours, Cond.instanceMethod yX9_hours, Cond.selects RX9 yX9_hours yX9_hours, Cond.code yX9_hours cX9_hours 4 (some .boolean), Cond.constantLong RX9 131 (1439), Cond.methodLink RX9 133 yX6_addBar, Cond.instanceMethod yX6_addBar, Cond.selects RX6 yX6_addBar yX6_addBar, Cond.code yX6_addBar cX6_addBar 3 none, Cond.fieldLink RX6 48 "HeavyRoutes$Road" "barCount" "I", Cond.methodLink RL 53 yX10_hours, Cond.instanceMethod yX10_hours, Cond.selects RX10 yX10_hours yX10_hours, Cond.code yX10_hours cX10_hours 4 (some .boolean), Cond.constantLong RX10 142 (1439), Cond.methodLink RL 54 yX9_rating, Cond.instanceMethod yX9_rating]
def wsL_law_r18 : List Cond := [Cond.selects RX9 yX9_rating yX9_rating, Cond.code yX9_rating cX9_rating 4 (some .long), Cond.constantLong RX9 137 (-1), Cond.methodLink RX9 149 yX8_lowestEighteenDigits, Cond.instanceMethod yX8_lowestEighteenDigits, Cond.selects RX8 yX8_lowestEighteenDigits yX8_lowestEighteenDigits, Cond.code yX8_lowestEighteenDigits cX8_lowestEighteenDigits 1 (some .long), Cond.methodLink RL 58 yX10_rating, Cond.instanceMethod yX10_rating, Cond.selects RX10 yX10_rating yX10_rating, Cond.code yX10_rating cX10_rating 5 (some .long), Cond.constantLong RX10 197 (-1), Cond.fieldLink RX10 178 "HeavyRoutesModel" "topHigh" "J", Cond.fieldLink RX10 181 "HeavyRoutesModel" "topLow" "J", Cond.constantLong RX10 203 (2), Cond.fieldLink RX10 191 "HeavyRoutesModel" "underHigh" "J", Cond.fieldLink RX10 194 "HeavyRoutesModel" "underLow" "J", Cond.fieldLink RX10 152 "HeavyRoutesModel" "high" "J", Cond.fieldLink RX10 146 "HeavyRoutesModel" "low" "J", Cond.methodLink RX10 199 yX10_rate, Cond.instanceMethod yX10_rate, Cond.selects RX10 yX10_rate yX10_rate, Cond.code yX10_rate cX10_rate 6 none, Cond.fieldLink RX10 165 "HeavyRoutesModel" "leastBelow" "J"]
def wsL_law_r19 : List Cond := [Cond.fieldLink RX10 168 "HeavyRoutesModel" "leastStep" "J", Cond.methodLink RX10 184 yX10_common, Cond.static yX10_common, Cond.code yX10_common cX10_common 10 (some .long), Cond.methodLink RX10 188 yX10_effect, Cond.instanceMethod yX10_effect, Cond.selects RX10 yX10_effect yX10_effect, Cond.code yX10_effect cX10_effect 5 none, Cond.fieldLink RX10 159 "HeavyRoutesModel" "sumHigh" "J", Cond.fieldLink RX10 162 "HeavyRoutesModel" "sumLow" "J", Cond.methodLink RX10 174 yX10_addAt, Cond.instanceMethod yX10_addAt, Cond.selects RX10 yX10_addAt yX10_addAt, Cond.code yX10_addAt cX10_addAt 10 none, Cond.methodLink RX10 171 yX10_add, Cond.instanceMethod yX10_add, Cond.selects RX10 yX10_add yX10_add, Cond.code yX10_add cX10_add 5 none, Cond.constantLong RX10 150 (1000000000000000000), Cond.methodLink RX10 155 yX10_product, Cond.instanceMethod yX10_product, Cond.selects RX10 yX10_product yX10_product, Cond.code yX10_product cX10_product 15 none, Cond.constantLong RX10 144 (1000000000)]
def wsL_law_r20 : List Cond := [Cond.methodLink RX10 205 yX10_restOf, Cond.static yX10_restOf, Cond.code yX10_restOf cX10_restOf 8 (some .long), Cond.methodLink RX10 209 yX10_divide, Cond.instanceMethod yX10_divide, Cond.selects RX10 yX10_divide yX10_divide, Cond.code yX10_divide cX10_divide 11 none, Cond.methodLink RL 59 yX9_kept, Cond.instanceMethod yX9_kept, Cond.selects RX9 yX9_kept yX9_kept, Cond.code yX9_kept cX9_kept 2 (some .boolean), Cond.methodLink RX9 158 yX3_isKeptRatingTrue, Cond.instanceMethod yX3_isKeptRatingTrue, Cond.selects RX3 yX3_isKeptRatingTrue yX3_isKeptRatingTrue, Cond.code yX3_isKeptRatingTrue cX3_isKeptRatingTrue 2 (some .boolean), Cond.methodLink RX3 76 yX4_isStillRight, Cond.instanceMethod yX4_isStillRight, Cond.selects RX4 yX4_isStillRight yX4_isStillRight, Cond.code yX4_isStillRight cX4_isStillRight 3 (some .boolean), Cond.methodLink RX4 138 yX4_rate, Cond.methodLink RX4 145 yX5_isSameAs, Cond.instanceMethod yX5_isSameAs, Cond.selects RX5 yX5_isSameAs yX5_isSameAs, Cond.code yX5_isSameAs cX5_isSameAs 2 (some .boolean)]
def wsL_law_r21 : List Cond := [Cond.methodLink RX5 23 yX8_compareWith, Cond.methodLink RL 63 yX10_kept, Cond.instanceMethod yX10_kept, Cond.selects RX10 yX10_kept yX10_kept, Cond.code yX10_kept cX10_kept 2 (some .boolean), Cond.methodLink RL 64 yX9_run, Cond.instanceMethod yX9_run, Cond.selects RX9 yX9_run yX9_run, Cond.code yX9_run cX9_run 5 (some .int), Cond.constantLong RX9 161 (10000), Cond.fieldLink RX9 174 "HeavyRoutes" "recordCount" "I", Cond.methodLink RX9 163 yX1_begin, Cond.instanceMethod yX1_begin, Cond.selects RX1 yX1_begin yX1_begin, Cond.code yX1_begin cX1_begin 4 none, Cond.fieldLink RX1 39 "HeavyRoutes$Finder" "hasBegun" "Z", Cond.fieldLink RX1 43 "HeavyRoutes$Finder" "from" "I", Cond.fieldLink RX1 46 "HeavyRoutes$Finder" "to" "I", Cond.fieldLink RX1 49 "HeavyRoutes$Finder" "minute" "I", Cond.methodLink RX1 36 yX1_forget, Cond.methodLink RX9 167 yX1_lookThrough, Cond.instanceMethod yX1_lookThrough, Cond.selects RX1 yX1_lookThrough yX1_lookThrough, Cond.code yX1_lookThrough cX1_lookThrough 1 none]
def wsL_law_r22 : List Cond := [Cond.fieldLink RX1 74 "HeavyRoutes$Finder" "usable" "I", Cond.fieldLink RX1 77 "HeavyRoutes$Finder" "visited" "I", Cond.fieldLink RX1 80 "HeavyRoutes$Finder" "wayCount" "I", Cond.fieldLink RX1 58 "HeavyRoutes$Finder" "hasBest" "Z", Cond.methodLink RX1 68 yX3_usableRoads, Cond.instanceMethod yX3_usableRoads, Cond.selects RX3 yX3_usableRoads yX3_usableRoads, Cond.code yX3_usableRoads cX3_usableRoads 3 (some .int), Cond.methodLink RX3 120 yX3_whyNotBearing, Cond.instanceMethod yX3_whyNotBearing, Cond.selects RX3 yX3_whyNotBearing yX3_whyNotBearing, Cond.code yX3_whyNotBearing cX3_whyNotBearing 3 (some .int), Cond.methodLink RX3 94 yX3_hasBridge, Cond.methodLink RX3 112 yX6_earliestStart, Cond.instanceMethod yX6_earliestStart, Cond.selects RX6 yX6_earliestStart yX6_earliestStart, Cond.code yX6_earliestStart cX6_earliestStart 5 (some .int), Cond.methodLink RX6 51 yX6_waitAt, Cond.instanceMethod yX6_waitAt, Cond.selects RX6 yX6_waitAt yX6_waitAt, Cond.code yX6_waitAt cX6_waitAt 6 (some .int), Cond.methodLink RX6 54 Lib.Math.max.name, Cond.static Lib.Math.max.name, Cond.code Lib.Math.max.name Lib.Math.max.code 2 (some .int)]
def wsL_law_r23 : List Cond := [Cond.methodLink RX1 83 yX1_goOn, Cond.instanceMethod yX1_goOn, Cond.selects RX1 yX1_goOn yX1_goOn, Cond.code yX1_goOn cX1_goOn 5 none, Cond.methodLink RX1 87 yX1_consider, Cond.instanceMethod yX1_consider, Cond.selects RX1 yX1_consider yX1_consider, Cond.code yX1_consider cX1_consider 3 none, Cond.methodLink RX1 129 yX3_bridgesOn, Cond.instanceMethod yX3_bridgesOn, Cond.selects RX3 yX3_bridgesOn yX3_bridgesOn, Cond.code yX3_bridgesOn cX3_bridgesOn 4 (some .int), Cond.methodLink RX1 136 yX7_collectRoads, Cond.instanceMethod yX7_collectRoads, Cond.selects RX7 yX7_collectRoads yX7_collectRoads, Cond.code yX7_collectRoads cX7_collectRoads 2 none, Cond.fieldLink RX7 28 "HeavyRoutes$Way" "roadSet" "I", Cond.fieldLink RX7 18 "HeavyRoutes$Way" "length" "I", Cond.methodLink RX1 139 yX1_isAllowed, Cond.instanceMethod yX1_isAllowed, Cond.selects RX1 yX1_isAllowed yX1_isAllowed, Cond.code yX1_isAllowed cX1_isAllowed 2 (some .boolean), Cond.fieldLink RX1 55 "HeavyRoutes$Finder" "mostShared" "I", Cond.methodLink RX1 150 yJ6_bitCount_0f7a4]
def wsL_law_r24 : List Cond := [Cond.static yJ6_bitCount_0f7a4, Cond.initialized RJ6, Cond.code yJ6_bitCount_0f7a4 cJ6_bitCount_0f7a4 1 (some .int), Cond.constant RJ6 265 (1431655765), Cond.constant RJ6 266 (858993459), Cond.constant RJ6 267 (252645135), Cond.methodLink RX1 143 yX7_isBetterThan, Cond.instanceMethod yX7_isBetterThan, Cond.selects RX7 yX7_isBetterThan yX7_isBetterThan, Cond.code yX7_isBetterThan cX7_isBetterThan 3 (some .boolean), Cond.fieldLink RX7 22 "HeavyRoutes$Way" "end" "I", Cond.fieldLink RX7 25 "HeavyRoutes$Way" "bridges" "I", Cond.methodLink RX1 61 yX7_copyFrom, Cond.instanceMethod yX7_copyFrom, Cond.selects RX7 yX7_copyFrom yX7_copyFrom, Cond.code yX7_copyFrom cX7_copyFrom 3 none, Cond.methodLink RX1 94 yX1_canTake, Cond.instanceMethod yX1_canTake, Cond.selects RX1 yX1_canTake yX1_canTake, Cond.code yX1_canTake cX1_canTake 5 (some .boolean), Cond.methodLink RX1 106 yX6_nodeAcross, Cond.methodLink RX1 115 yX6_isTurnBlocked, Cond.instanceMethod yX6_isTurnBlocked, Cond.selects RX6 yX6_isTurnBlocked yX6_isTurnBlocked]
def wsL_law_r25 : List Cond := [Cond.code yX6_isTurnBlocked cX6_isTurnBlocked 2 (some .boolean), Cond.methodLink RX1 98 yX1_take, Cond.instanceMethod yX1_take, Cond.selects RX1 yX1_take yX1_take, Cond.code yX1_take cX1_take 7 none, Cond.methodLink RX1 119 yX6_earliestStart, Cond.methodLink RX1 125 yX3_endOfRoad, Cond.instanceMethod yX3_endOfRoad, Cond.selects RX3 yX3_endOfRoad yX3_endOfRoad, Cond.code yX3_endOfRoad cX3_endOfRoad 5 (some .int), Cond.methodLink RX9 170 yX1_keepBest, Cond.instanceMethod yX1_keepBest, Cond.selects RX1 yX1_keepBest yX1_keepBest, Cond.code yX1_keepBest cX1_keepBest 1 (some .int), Cond.methodLink RL 68 yX10_run, Cond.instanceMethod yX10_run, Cond.selects RX10 yX10_run yX10_run, Cond.code yX10_run cX10_run 5 (some .int), Cond.constantLong RX10 285 (10000), Cond.fieldLink RX10 287 "HeavyRoutesModel" "isRun" "Z", Cond.fieldLink RX10 267 "HeavyRoutesModel" "runFrom" "I", Cond.fieldLink RX10 270 "HeavyRoutesModel" "runTo" "I", Cond.fieldLink RX10 250 "HeavyRoutesModel" "runMinute" "I", Cond.constant RX10 291 (1000000000)]
def wsL_law_r26 : List Cond := [Cond.fieldLink RX10 231 "HeavyRoutesModel" "bestSize" "I", Cond.fieldLink RX10 234 "HeavyRoutesModel" "bestEnd" "I", Cond.fieldLink RX10 298 "HeavyRoutesModel" "records" "I", Cond.methodLink RX10 292 yX10_search, Cond.instanceMethod yX10_search, Cond.selects RX10 yX10_search yX10_search, Cond.code yX10_search cX10_search 3 none, Cond.fieldLink RX10 244 "HeavyRoutesModel" "limit" "I", Cond.fieldLink RX10 237 "HeavyRoutesModel" "size" "I", Cond.fieldLink RX10 247 "HeavyRoutesModel" "ways" "I", Cond.methodLink RX10 279 yX10_findBearing, Cond.instanceMethod yX10_findBearing, Cond.selects RX10 yX10_findBearing yX10_findBearing, Cond.code yX10_findBearing cX10_findBearing 2 none, Cond.methodLink RX10 220 yX10_why, Cond.instanceMethod yX10_why, Cond.selects RX10 yX10_why yX10_why, Cond.code yX10_why cX10_why 2 (some .int), Cond.methodLink RX10 213 yX10_isAbove, Cond.instanceMethod yX10_isAbove, Cond.selects RX10 yX10_isAbove yX10_isAbove, Cond.code yX10_isAbove cX10_isAbove 11 (some .boolean), Cond.methodLink RX10 224 yX10_earliest, Cond.instanceMethod yX10_earliest]
def wsL_law_r27 : List Cond := [Cond.selects RX10 yX10_earliest yX10_earliest, Cond.code yX10_earliest cX10_earliest 4 (some .int), Cond.methodLink RX10 217 yX10_isBarred, Cond.instanceMethod yX10_isBarred, Cond.selects RX10 yX10_isBarred yX10_isBarred, Cond.code yX10_isBarred cX10_isBarred 7 (some .boolean), Cond.methodLink RX10 282 yX10_goThrough, Cond.instanceMethod yX10_goThrough, Cond.selects RX10 yX10_goThrough yX10_goThrough, Cond.code yX10_goThrough cX10_goThrough 4 none, Cond.methodLink RX10 273 yX10_judge, Cond.instanceMethod yX10_judge, Cond.selects RX10 yX10_judge yX10_judge, Cond.code yX10_judge cX10_judge 3 none, Cond.methodLink RX10 253 yX10_endOf, Cond.instanceMethod yX10_endOf, Cond.selects RX10 yX10_endOf yX10_endOf, Cond.code yX10_endOf cX10_endOf 7 (some .int), Cond.methodLink RX10 228 yX10_takes, Cond.instanceMethod yX10_takes, Cond.selects RX10 yX10_takes yX10_takes, Cond.code yX10_takes cX10_takes 2 (some .int), Cond.methodLink RX10 257 yX10_mayBe, Cond.instanceMethod yX10_mayBe]
def wsL_law_r28 : List Cond := [Cond.selects RX10 yX10_mayBe yX10_mayBe, Cond.code yX10_mayBe cX10_mayBe 4 (some .boolean), Cond.methodLink RX10 261 yX10_isBetter, Cond.instanceMethod yX10_isBetter, Cond.selects RX10 yX10_isBetter yX10_isBetter, Cond.code yX10_isBetter cX10_isBetter 5 (some .boolean), Cond.methodLink RX10 240 yX10_bridgesOf, Cond.instanceMethod yX10_bridgesOf, Cond.selects RX10 yX10_bridgesOf yX10_bridgesOf, Cond.code yX10_bridgesOf cX10_bridgesOf 5 (some .int), Cond.methodLink RX10 276 yX10_mayGo, Cond.instanceMethod yX10_mayGo, Cond.selects RX10 yX10_mayGo yX10_mayGo, Cond.code yX10_mayGo cX10_mayGo 4 (some .boolean), Cond.methodLink RX10 264 yX10_otherEnd, Cond.instanceMethod yX10_otherEnd, Cond.selects RX10 yX10_otherEnd yX10_otherEnd, Cond.code yX10_otherEnd cX10_otherEnd 3 (some .int), Cond.methodLink RX10 295 yX10_keep, Cond.instanceMethod yX10_keep, Cond.selects RX10 yX10_keep yX10_keep, Cond.code yX10_keep cX10_keep 2 none, Cond.methodLink RL 69 yX9_road2, Cond.instanceMethod yX9_road2]
def wsL_law_r29 : List Cond := [Cond.selects RX9 yX9_road2 yX9_road2, Cond.code yX9_road2 cX9_road2 3 (some .int), Cond.methodLink RX9 177 yX1_atHand, Cond.instanceMethod yX1_atHand, Cond.selects RX1 yX1_atHand yX1_atHand, Cond.code yX1_atHand cX1_atHand 1 (some (.object "HeavyRoutes$Way")), Cond.methodLink RX9 181 yX7_hasPlace, Cond.instanceMethod yX7_hasPlace, Cond.selects RX7 yX7_hasPlace yX7_hasPlace, Cond.code yX7_hasPlace cX7_hasPlace 2 (some .boolean), Cond.methodLink RL 72 yX10_road2, Cond.instanceMethod yX10_road2, Cond.selects RX10 yX10_road2 yX10_road2, Cond.code yX10_road2 cX10_road2 2 (some .int), Cond.methodLink RX10 303 yX10_handSize, Cond.instanceMethod yX10_handSize, Cond.selects RX10 yX10_handSize yX10_handSize, Cond.code yX10_handSize cX10_handSize 1 (some .int), Cond.methodLink RX10 307 yX10_hand, Cond.instanceMethod yX10_hand, Cond.selects RX10 yX10_hand yX10_hand, Cond.code yX10_hand cX10_hand 2 (some .int), Cond.methodLink RL 73 yX9_begun, Cond.instanceMethod yX9_begun]
def wsL_law_r30 : List Cond := [Cond.selects RX9 yX9_begun yX9_begun, Cond.code yX9_begun cX9_begun 3 (some .int), Cond.methodLink RL 76 yX10_begun, Cond.instanceMethod yX10_begun, Cond.selects RX10 yX10_begun yX10_begun, Cond.code yX10_begun cX10_begun 2 (some .int), Cond.methodLink RL 77 yX9_bars, Cond.instanceMethod yX9_bars, Cond.selects RX9 yX9_bars yX9_bars, Cond.code yX9_bars cX9_bars 6 (some .int), Cond.methodLink RX9 191 yX3_whyNotBearing, Cond.methodLink RL 81 yX10_bars, Cond.instanceMethod yX10_bars, Cond.selects RX10 yX10_bars yX10_bars, Cond.code yX10_bars cX10_bars 6 (some .int), Cond.methodLink RL 82 yX9_alternate, Cond.instanceMethod yX9_alternate, Cond.selects RX9 yX9_alternate yX9_alternate, Cond.code yX9_alternate cX9_alternate 5 (some .int), Cond.constantLong RX9 195 (100), Cond.methodLink RX9 200 yX1_limitSharing, Cond.instanceMethod yX1_limitSharing, Cond.selects RX1 yX1_limitSharing yX1_limitSharing, Cond.code yX1_limitSharing cX1_limitSharing 5 none]
def wsL_law_r31 : List Cond := [Cond.methodLink RL 86 yX10_alternate, Cond.instanceMethod yX10_alternate, Cond.selects RX10 yX10_alternate yX10_alternate, Cond.code yX10_alternate cX10_alternate 5 (some .int), Cond.constantLong RX10 301 (100), Cond.methodLink RL 87 yX9_slow, Cond.instanceMethod yX9_slow, Cond.selects RX9 yX9_slow yX9_slow, Cond.code yX9_slow cX9_slow 4 (some .int), Cond.methodLink RL 91 yX10_slow, Cond.instanceMethod yX10_slow, Cond.selects RX10 yX10_slow yX10_slow, Cond.code yX10_slow cX10_slow 4 (some .int), Cond.methodLink RL 92 yX9_convoy, Cond.instanceMethod yX9_convoy, Cond.selects RX9 yX9_convoy yX9_convoy, Cond.code yX9_convoy cX9_convoy 5 (some .int), Cond.constantLong RX9 207 (20), Cond.methodLink RX9 216 Lib.Math.max.name, Cond.methodLink RX9 212 yX3_endOfDrive, Cond.instanceMethod yX3_endOfDrive, Cond.selects RX3 yX3_endOfDrive yX3_endOfDrive, Cond.code yX3_endOfDrive cX3_endOfDrive 5 (some .int), Cond.methodLink RX3 116 yX3_endOfRoad]
def wsL_law_r32 : List Cond := [Cond.methodLink RL 95 yX10_convoy, Cond.instanceMethod yX10_convoy, Cond.selects RX10 yX10_convoy yX10_convoy, Cond.code yX10_convoy cX10_convoy 6 (some .int), Cond.constantLong RX10 310 (20), Cond.methodLink RL 96 yX9_escort, Cond.instanceMethod yX9_escort, Cond.selects RX9 yX9_escort yX9_escort, Cond.code yX9_escort cX9_escort 5 (some .int), Cond.methodLink RX9 225 yX3_wantsEscort, Cond.instanceMethod yX3_wantsEscort, Cond.selects RX3 yX3_wantsEscort yX3_wantsEscort, Cond.code yX3_wantsEscort cX3_wantsEscort 3 (some .boolean), Cond.methodLink RL 99 yX10_escort, Cond.instanceMethod yX10_escort, Cond.selects RX10 yX10_escort yX10_escort, Cond.code yX10_escort cX10_escort 4 (some .int), Cond.methodLink RX10 312 yX10_wantsEscort, Cond.instanceMethod yX10_wantsEscort, Cond.selects RX10 yX10_wantsEscort yX10_wantsEscort, Cond.code yX10_wantsEscort cX10_wantsEscort 2 (some .boolean), Cond.methodLink RL 100 yX9_notice, Cond.instanceMethod yX9_notice, Cond.selects RX9 yX9_notice yX9_notice]
def wsL_law_r33 : List Cond := [Cond.code yX9_notice cX9_notice 6 (some .int), Cond.methodLink RL 103 yX10_notice, Cond.instanceMethod yX10_notice, Cond.selects RX10 yX10_notice yX10_notice, Cond.code yX10_notice cX10_notice 4 (some .int), Cond.methodLink RL 104 yX9_record, Cond.instanceMethod yX9_record, Cond.selects RX9 yX9_record yX9_record, Cond.code yX9_record cX9_record 2 (some .int), Cond.methodLink RL 107 yX10_record, Cond.instanceMethod yX10_record, Cond.selects RX10 yX10_record yX10_record, Cond.code yX10_record cX10_record 2 (some .int), Cond.methodLink RL 108 yX9_change, Cond.instanceMethod yX9_change, Cond.selects RX9 yX9_change yX9_change, Cond.code yX9_change cX9_change 4 (some .int), Cond.methodLink RL 111 yX10_change, Cond.instanceMethod yX10_change, Cond.selects RX10 yX10_change yX10_change, Cond.code yX10_change cX10_change 4 (some .int), Cond.methodLink RL 112 yX9_count, Cond.instanceMethod yX9_count, Cond.selects RX9 yX9_count yX9_count]
def wsL_law_r34 : List Cond := [Cond.code yX9_count cX9_count 2 (some .int), Cond.methodLink RL 115 yX10_count, Cond.instanceMethod yX10_count, Cond.selects RX10 yX10_count yX10_count, Cond.code yX10_count cX10_count 2 (some .int)]
def wsL_law : List Cond := (wsL_law_r1 ++ (wsL_law_r2 ++ (wsL_law_r3 ++ (wsL_law_r4 ++ (wsL_law_r5 ++ (wsL_law_r6 ++ (wsL_law_r7 ++ (wsL_law_r8 ++ (wsL_law_r9 ++ (wsL_law_r10 ++ (wsL_law_r11 ++ (wsL_law_r12 ++ (wsL_law_r13 ++ (wsL_law_r14 ++ (wsL_law_r15 ++ (wsL_law_r16 ++ (wsL_law_r17 ++ (wsL_law_r18 ++ (wsL_law_r19 ++ (wsL_law_r20 ++ (wsL_law_r21 ++ (wsL_law_r22 ++ (wsL_law_r23 ++ (wsL_law_r24 ++ (wsL_law_r25 ++ (wsL_law_r26 ++ (wsL_law_r27 ++ (wsL_law_r28 ++ (wsL_law_r29 ++ (wsL_law_r30 ++ (wsL_law_r31 ++ (wsL_law_r32 ++ (wsL_law_r33 ++ wsL_law_r34))))))))))))))))))))))))))))))))) ++ wsX90 ++ wsX100 ++ wsX30 ++ wsX10 ++ wsX20 ++ wsX40 ++ wsX60 ++ wsX00 ++ wsX80 ++ wsX50 ++ wsX70 ++ ([] : List Cond)
set_option maxRecDepth 20000 in
abbrev vwCl : List vw_C := [(RX0, TX0, 8), (RX1, TX1, 15), (RX2, TX2, 5), (RX3, TX3, 7), (RX4, TX4, 8), (RX5, TX5, 2), (RX6, TX6, 11), (RX7, TX7, 6), (RX8, TX8, 1), (RX9, TX9, 4), (RX10, TX10, 54)]
end
section
/-! the memory: ids, kinds, cells; rows of the machine over it -/
abbrev q_M : Type := (Nat → Nat → Int32) × (Nat → Nat → Int64)
abbrev q_E : Type := (Nat → ClassId) × (Nat → Nat → Nat) × (Nat → ClassId) × (Nat → Nat)
def q_kd (k : Nat) : Nat := if k < 1 then 9 else if k < 2 then 3 else if k < 3 then 1 else if k < 4 then 2 else if k < 5 then 4 else if k < 6 then 11 else if k < 7 then 14 else if k < 8 then 15 else if k < 9 then 16 else if k < 14 then 12 else if k < 26 then 6 else if k < 50 then 11 else if k < 56 then 0 else if k < 74 then 12 else if k < 81 then 5 else if k < 97 then 8 else if k < 113 then 12 else if k < 121 then 7 else if k < 137 then 11 else if k < 138 then 10 else if k < 165 then (if k = 143 ∨ k = 148 ∨ k = 149 ∨ k = 160 ∨ k = 162 then 13 else 11) else 99
def q_len (k : Nat) : Nat := if k < 6 then 50 else if k < 7 then 12 else if k < 8 then 6 else if k < 9 then 5 else if k < 11 then 5 else if k < 14 then 6 else if k < 50 then 3 else if k < 74 then 6 else if k < 113 then 5 else if k < 138 then 6 else ([12, 12, 12, 12, 12, 12, 12, 12, 36, 36, 144, 6, 6, 36, 36, 36, 5, 5, 60, 5, 50, 12, 7, 12, 12, 13, 13] : List Nat).getD (k - 138) 0
def q_nf (c : Nat) : Nat := ([8, 15, 5, 7, 8, 2, 11, 6, 1, 4, 54] : List Nat).getD c 0
def q_ftl : List (List Nat) := [[0, 0, 2, 2, 2, 2, 0, 0], [2, 2, 2, 2, 2, 0, 0, 0, 0, 0, 0, 0, 0, 0, 0], [0, 0, 0, 2, 2], [0, 0, 0, 2, 2, 2, 2], [2, 2, 2, 2, 2, 2, 1, 1], [2, 2], [0, 0, 0, 0, 0, 0, 0, 0, 0, 2, 2], [2, 2, 0, 0, 0, 0], [2], [2, 2, 2, 0], [0, 0, 2, 2, 2, 2, 2, 2, 2, 2, 2, 2, 2, 0, 2, 2, 2, 2, 2, 0, 2, 2, 0, 0, 0, 0, 0, 0, 0, 2, 2, 0, 2, 2, 0, 2, 2, 0, 0, 0, 0, 1, 1, 1, 1, 1, 1, 1, 1, 1, 1, 2, 2, 2]]
def q_ft (c j : Nat) : Nat := (q_ftl.getD c []).getD j 0
def q_fkl : List (List Nat) := [[98, 98, 12, 12, 12, 5, 98, 98], [3, 16, 7, 7, 7, 98, 98, 98, 98, 98, 98, 98, 98, 98, 98], [98, 98, 98, 12, 12], [98, 98, 98, 14, 15, 2, 4], [8, 8, 5, 12, 12, 12, 98, 98], [8, 8], [98, 98, 98, 98, 98, 98, 98, 98, 98, 11, 11], [11, 11, 98, 98, 98, 98], [12], [3, 1, 11, 98], [98, 98, 11, 11, 11, 11, 11, 13, 11, 11, 11, 11, 13, 98, 13, 11, 11, 11, 11, 98, 11, 11, 98, 98, 98, 98, 98, 98, 98, 11, 11, 98, 11, 11, 98, 13, 11, 98, 98, 98, 98, 98, 98, 98, 98, 98, 98, 98, 98, 98, 98, 13, 11, 11]]
def q_fk (c j : Nat) : Nat := (q_fkl.getD c []).getD j 98
def q_fnl : List (List Nat) := [[0, 0, 6, 6, 6, 0, 0, 0], [0, 5, 0, 0, 0, 0, 0, 0, 0, 0, 0, 0, 0, 0, 0], [0, 0, 0, 5, 5], [0, 0, 0, 12, 6, 0, 0], [0, 0, 0, 6, 6, 6, 0, 0], [0, 0], [0, 0, 0, 0, 0, 0, 0, 0, 0, 3, 3], [6, 6, 0, 0, 0, 0], [5], [0, 0, 50, 0], [0, 0, 12, 12, 12, 12, 12, 12, 12, 12, 36, 36, 144, 0, 6, 6, 36, 36, 36, 0, 5, 5, 0, 0, 0, 0, 0, 0, 0, 60, 5, 0, 50, 12, 0, 7, 12, 0, 0, 0, 0, 0, 0, 0, 0, 0, 0, 0, 0, 0, 0, 12, 13, 13]]
def q_fn (c j : Nat) : Nat := (q_fnl.getD c []).getD j 0
def q_pt (k j : Nat) : Nat := if q_kd k = 6 then (if j = 9 then k + 12 else k + 24) else if q_kd k = 0 then (if j = 2 then k + 6 else if j = 3 then k + 12 else if j = 4 then k + 18 else k + 24) else if q_kd k = 5 then (if j = 0 then k + 7 else k + 14) else if q_kd k = 8 then (k + 16) else if q_kd k = 7 then (if j = 0 then k + 8 else k + 16) else if q_kd k = 9 then (if j = 0 then 1 else if j = 1 then 2 else 5) else if q_kd k = 3 then (if j = 3 then 6 else if j = 4 then 7 else if j = 5 then 3 else 4) else if q_kd k = 1 then (if j = 0 then 1 else if j = 1 then 8 else if j = 2 then 118 else if j = 3 then 119 else 120) else if q_kd k = 2 then (if j = 3 then 9 else 10) else if q_kd k = 4 then (if j = 0 then 95 else if j = 1 then 96 else if j = 2 then 80 else if j = 3 then 11 else if j = 4 then 12 else 13) else if q_kd k = 10 then ([0, 0, 138, 139, 140, 141, 142, 143, 144, 145, 146, 147, 148, 0, 149, 150, 151, 152, 153, 0, 154, 155, 0, 0, 0, 0, 0, 0, 0, 156, 157, 0, 158, 159, 0, 160, 161, 0, 0, 0, 0, 0, 0, 0, 0, 0, 0, 0, 0, 0, 0, 162, 163, 164] : List Nat).getD j 0 else if q_kd k = 14 then 14 + j else if q_kd k = 15 then 50 + j else if q_kd k = 16 then 113 + j else 0
def q_sv (E : q_E) (t : Nat) (rI : Nat → Int32) (rL : Nat → Int64) (rP : Nat → Nat) (j : Nat) : Value := if t = 0 then .int (rI j) else if t = 1 then .long (rL j) else .ref (E.2.2.2 (rP j))
def q_fl (E : q_E) (μ : q_M) (k c : Nat) : List Value := (List.range (q_nf c)).map (fun j => q_sv E (q_ft c j) (μ.1 k) (μ.2 k) (q_pt k) j)
def q_cl (E : q_E) (μ : q_M) (k : Nat) : va_E := if q_kd k = 11 then .inl (E.2.2.1 0, q_len k, .inl (μ.1 k)) else if q_kd k = 12 then .inl (E.2.2.1 1, q_len k, .inr (.inl (μ.2 k))) else if q_kd k = 13 then .inl (E.2.2.1 2, q_len k, .inl (μ.1 k)) else if q_kd k = 14 then .inl (E.2.2.1 3, q_len k, .inr (.inr (.inr (.inr (fun i => some (E.2.2.2 (q_pt k i))))))) else if q_kd k = 15 then .inl (E.2.2.1 4, q_len k, .inr (.inr (.inr (.inr (fun i => some (E.2.2.2 (q_pt k i))))))) else if q_kd k = 16 then .inl (E.2.2.1 5, q_len k, .inr (.inr (.inr (.inr (fun i => some (E.2.2.2 (q_pt k i))))))) else .inr (q_kd k, q_fl E μ k (q_kd k))
def q_ws (E : q_E) (μ : q_M) : va_W := (List.range 165).map (fun k => (E.2.2.2 k, q_cl E μ k))
def q_ty (E : q_E) : List (ClassId × FieldType) := [(E.2.2.1 0, .int), (E.2.2.1 1, .long), (E.2.2.1 2, .boolean), (E.2.2.1 3, .object "HeavyRoutes$Road"), (E.2.2.1 4, .object "HeavyRoutes$Bridge"), (E.2.2.1 5, .object "HeavyRoutes$Way")]
abbrev q_D (E : q_E) : va_G := (E.1, E.2.1)
def q_nF : List (String × Nat × String × String × String × String) := [("HeavyRoutes", 114, "HeavyRoutes$Journey", "height", "I", "HeavyRoutes"), ("HeavyRoutes$Net", 86, "HeavyRoutes$Journey", "height", "I", "HeavyRoutes"), ("HeavyRoutes", 117, "HeavyRoutes$Journey", "width", "I", "HeavyRoutes"), ("HeavyRoutes$Net", 90, "HeavyRoutes$Journey", "width", "I", "HeavyRoutes"), ("HeavyRoutes$Rater", 52, "HeavyRoutes$Journey", "axleCount", "I", "HeavyRoutes"), ("HeavyRoutes", 231, "HeavyRoutes$Journey", "axleCount", "I", "HeavyRoutes"), ("HeavyRoutes$Rater", 66, "HeavyRoutes$Journey", "offsets", "[J", "HeavyRoutes"), ("HeavyRoutes$Rater", 98, "HeavyRoutes$Journey", "loads", "[J", "HeavyRoutes"), ("HeavyRoutes$Rater", 38, "HeavyRoutes$Rating", "upper", "LHeavyRoutes$Wide;", "HeavyRoutes"), ("HeavyRoutes", 143, "HeavyRoutes$Rating", "upper", "LHeavyRoutes$Wide;", "HeavyRoutes"), ("HeavyRoutes$Rater", 45, "HeavyRoutes$Rating", "lower", "LHeavyRoutes$Wide;", "HeavyRoutes"), ("HeavyRoutes", 155, "HeavyRoutes$Rating", "lower", "LHeavyRoutes$Wide;", "HeavyRoutes"), ("HeavyRoutes$Net", 101, "HeavyRoutes$Road", "minutes", "I", "HeavyRoutes"), ("HeavyRoutes$Net", 83, "HeavyRoutes$Road", "height", "I", "HeavyRoutes"), ("HeavyRoutes$Net", 87, "HeavyRoutes$Road", "width", "I", "HeavyRoutes"), ("HeavyRoutes$Net", 80, "HeavyRoutes$Road", "open", "Z", "HeavyRoutes"), ("HeavyRoutes", 228, "HeavyRoutes$Road", "open", "Z", "HeavyRoutes"), ("HeavyRoutes", 68, "HeavyRoutes$Road", "bridge", "I", "HeavyRoutes"), ("HeavyRoutes$Net", 91, "HeavyRoutes$Road", "bridge", "I", "HeavyRoutes"), ("HeavyRoutes", 128, "HeavyRoutes$Road", "barCount", "I", "HeavyRoutes"), ("HeavyRoutes$Net", 98, "HeavyRoutes$Bridge", "slow", "Z", "HeavyRoutes"), ("HeavyRoutes", 203, "HeavyRoutes$Bridge", "slow", "Z", "HeavyRoutes"), ("HeavyRoutes$Rater", 58, "HeavyRoutes$Bridge", "cornerCount", "I", "HeavyRoutes"), ("HeavyRoutes$Rater", 63, "HeavyRoutes$Bridge", "at", "[J", "HeavyRoutes"), ("HeavyRoutes$Rater", 105, "HeavyRoutes$Bridge", "above", "[J", "HeavyRoutes"), ("HeavyRoutes$Rater", 84, "HeavyRoutes$Bridge", "below", "[J", "HeavyRoutes"), ("HeavyRoutes$Net", 49, "HeavyRoutes$Bridge", "kept", "LHeavyRoutes$Rating;", "HeavyRoutes"), ("HeavyRoutes$Rater", 142, "HeavyRoutes$Bridge", "kept", "LHeavyRoutes$Rating;", "HeavyRoutes"), ("HeavyRoutes", 139, "HeavyRoutes$Bridge", "kept", "LHeavyRoutes$Rating;", "HeavyRoutes"), ("HeavyRoutes$Net", 61, "HeavyRoutes$Bridge", "tooWeak", "Z", "HeavyRoutes"), ("HeavyRoutes$Net", 69, "HeavyRoutes$Bridge", "wantsEscort", "Z", "HeavyRoutes"), ("HeavyRoutes", 29, "HeavyRoutes$Net", "nodeCount", "I", "HeavyRoutes"), ("HeavyRoutes", 33, "HeavyRoutes$Net", "roadCount", "I", "HeavyRoutes"), ("HeavyRoutes$Finder", 91, "HeavyRoutes$Net", "roadCount", "I", "HeavyRoutes"), ("HeavyRoutes", 65, "HeavyRoutes$Net", "bridgeCount", "I", "HeavyRoutes"), ("HeavyRoutes", 52, "HeavyRoutes$Net", "roads", "[LHeavyRoutes$Road;", "HeavyRoutes"), ("HeavyRoutes$Finder", 102, "HeavyRoutes$Net", "roads", "[LHeavyRoutes$Road;", "HeavyRoutes"), ("HeavyRoutes", 74, "HeavyRoutes$Net", "bridges", "[LHeavyRoutes$Bridge;", "HeavyRoutes"), ("HeavyRoutes", 96, "HeavyRoutes$Net", "journey", "LHeavyRoutes$Journey;", "HeavyRoutes"), ("HeavyRoutes$Finder", 112, "HeavyRoutes$Way", "roads", "[I", "HeavyRoutes"), ("HeavyRoutes$Net", 109, "HeavyRoutes$Way", "roads", "[I", "HeavyRoutes"), ("HeavyRoutes", 186, "HeavyRoutes$Way", "roads", "[I", "HeavyRoutes"), ("HeavyRoutes$Finder", 122, "HeavyRoutes$Way", "starts", "[I", "HeavyRoutes"), ("HeavyRoutes", 188, "HeavyRoutes$Way", "starts", "[I", "HeavyRoutes"), ("HeavyRoutes$Finder", 52, "HeavyRoutes$Way", "length", "I", "HeavyRoutes"), ("HeavyRoutes$Net", 104, "HeavyRoutes$Way", "length", "I", "HeavyRoutes"), ("HeavyRoutes", 222, "HeavyRoutes$Way", "length", "I", "HeavyRoutes"), ("HeavyRoutes$Finder", 65, "HeavyRoutes$Way", "end", "I", "HeavyRoutes"), ("HeavyRoutes$Finder", 133, "HeavyRoutes$Way", "bridges", "I", "HeavyRoutes"), ("HeavyRoutes$Finder", 147, "HeavyRoutes$Way", "roadSet", "I", "HeavyRoutes"), ("HeavyRoutes", 197, "HeavyRoutes$Finder", "foundCount", "I", "HeavyRoutes"), ("HeavyRoutes", 209, "HeavyRoutes$Finder", "minute", "I", "HeavyRoutes"), ("HeavyRoutes", 234, "HeavyRoutes$Finder", "wayCount", "I", "HeavyRoutes")]
def q_nM : List (String × Nat × MethodName × String) := [("HeavyRoutes$Net", 25, ⟨"HeavyRoutes$Journey", "<init>", "()V"⟩, "HeavyRoutes"), ("HeavyRoutes$Net", 32, ⟨"HeavyRoutes$Rater", "<init>", "()V"⟩, "HeavyRoutes"), ("HeavyRoutes$Rater", 11, ⟨"HeavyRoutes$Wide", "<init>", "()V"⟩, "HeavyRoutes"), ("HeavyRoutes$Rating", 9, ⟨"HeavyRoutes$Wide", "<init>", "()V"⟩, "HeavyRoutes"), ("HeavyRoutes$Net", 37, ⟨"HeavyRoutes$Road", "<init>", "()V"⟩, "HeavyRoutes"), ("HeavyRoutes$Net", 38, ⟨"HeavyRoutes$Bridge", "<init>", "()V"⟩, "HeavyRoutes"), ("HeavyRoutes$Finder", 17, ⟨"HeavyRoutes$Way", "<init>", "()V"⟩, "HeavyRoutes"), ("HeavyRoutes$Bridge", 34, ⟨"HeavyRoutes", "isWithin", "(JJJ)Z"⟩, "HeavyRoutes"), ("HeavyRoutes$Journey", 30, ⟨"HeavyRoutes", "isWithin", "(JJJ)Z"⟩, "HeavyRoutes")]
def q_si (μ : q_M) (a j : Nat) (v : Int32) : q_M := (fun k i => if k = a ∧ i = j then v else μ.1 k i, μ.2)
def q_sl (μ : q_M) (a j : Nat) (v : Int64) : q_M := (μ.1, fun k i => if k = a ∧ i = j then v else μ.2 k i)
def q_ix (i : Int32) (n : Nat) : Bool := decide (¬ (i < 0 ∨ n ≤ i.toNatClampNeg))
def q_zb (v : Int32) : Bool := decide (v = 0 ∨ v = 1)
def q_gd {α : Type} (b : Bool) (x : Option α) : Option α := if b = true then x else none
def q_bd {α β : Type} (x : Option (α × q_M)) (k : α → q_M → Option β) : Option β := match x with
  | none => none
  | some y => k y.1 y.2
theorem q_gd_some {α : Type} {b : Bool} {x : Option α} {y : α} (h : q_gd b x = some y) : b = true ∧ x = some y := by
  unfold q_gd at h
  by_cases hb : b = true
  · rw [if_pos hb] at h; exact ⟨hb, h⟩
  · rw [if_neg hb] at h; cases h
theorem q_bd_some {α β : Type} {x : Option (α × q_M)} {k : α → q_M → Option β} {y : β} (h : q_bd x k = some y) : ∃ r μ, x = some (r, μ) ∧ k r μ = some y := by
  cases x with
  | none => cases h
  | some z => exact ⟨z.1, z.2, rfl, h⟩
theorem q_kd_out {a : Nat} (h : 165 ≤ a) : q_kd a = 99 := by
  unfold q_kd
  repeat rw [if_neg (by omega)]
theorem q_lt {a : Nat} (h : q_kd a ≤ 16) : a < 165 := by
  rcases Nat.lt_or_ge a 165 with g | g
  · exact g
  · rw [q_kd_out g] at h; omega
theorem q_ws_get {E : q_E} {μ : q_M} {k : Nat} (h : k < 165) : (q_ws E μ)[k]? = some (E.2.2.2 k, q_cl E μ k) := by
  unfold q_ws
  rw [List.getElem?_map, List.getElem?_range h]
  rfl
theorem q_ws_len {E : q_E} {μ : q_M} : (q_ws E μ).length = 165 := by
  unfold q_ws
  rw [List.length_map, List.length_range]
theorem q_ws_set {E : q_E} {μ μ' : q_M} {a : Nat} (h : a < 165) (he : ∀ i, i ≠ a → q_cl E μ' i = q_cl E μ i) : (q_ws E μ).set a (E.2.2.2 a, q_cl E μ' a) = q_ws E μ' := by
  apply List.ext_getElem?
  intro k
  by_cases hk : k < 165
  · by_cases hka : k = a
    · subst hka
      rw [List.getElem?_set_self (by rw [q_ws_len]; exact hk), q_ws_get hk]
    · rw [List.getElem?_set_ne (Ne.symm hka), q_ws_get hk, q_ws_get hk, he k hka]
  · rw [List.getElem?_eq_none (by rw [List.length_set, q_ws_len]; omega), List.getElem?_eq_none (by rw [q_ws_len]; omega)]
theorem q_cl_congr {E : q_E} {μ μ' : q_M} {i : Nat} (h1 : μ'.1 i = μ.1 i) (h2 : μ'.2 i = μ.2 i) : q_cl E μ' i = q_cl E μ i := by
  unfold q_cl q_fl
  rw [h1, h2]
theorem q_si_row {μ : q_M} {a j i : Nat} {v : Int32} (h : i ≠ a) : (q_si μ a j v).1 i = μ.1 i := by
  funext x
  exact if_neg (fun q => h q.1)
theorem q_sl_row {μ : q_M} {a j i : Nat} {v : Int64} (h : i ≠ a) : (q_sl μ a j v).2 i = μ.2 i := by
  funext x
  exact if_neg (fun q => h q.1)
theorem q_cl_o {E : q_E} {μ : q_M} {a c : Nat} (h : q_kd a = c) (hc : c < 11) : q_cl E μ a = .inr (c, q_fl E μ a c) := by
  unfold q_cl
  rw [if_neg (by omega), if_neg (by omega), if_neg (by omega), if_neg (by omega), if_neg (by omega), if_neg (by omega), h]
theorem q_cl_i {E : q_E} {μ : q_M} {a n : Nat} (h : q_kd a = 11) (hn : q_len a = n) : q_cl E μ a = .inl (E.2.2.1 0, n, .inl (μ.1 a)) := by
  unfold q_cl
  rw [if_pos h, hn]
theorem q_cl_l {E : q_E} {μ : q_M} {a n : Nat} (h : q_kd a = 12) (hn : q_len a = n) : q_cl E μ a = .inl (E.2.2.1 1, n, .inr (.inl (μ.2 a))) := by
  unfold q_cl
  rw [if_neg (by omega), if_pos h, hn]
theorem q_cl_z {E : q_E} {μ : q_M} {a n : Nat} (h : q_kd a = 13) (hn : q_len a = n) : q_cl E μ a = .inl (E.2.2.1 2, n, .inl (μ.1 a)) := by
  unfold q_cl
  rw [if_neg (by omega), if_neg (by omega), if_pos h, hn]
theorem q_cl_r {E : q_E} {μ : q_M} {a n t : Nat} (h : q_kd a = 14 + t) (ht : t < 3) (hn : q_len a = n) : q_cl E μ a = .inl (E.2.2.1 (3 + t), n, .inr (.inr (.inr (.inr (fun i => some (E.2.2.2 (q_pt a i))))))) := by
  unfold q_cl
  rcases (show t = 0 ∨ t = 1 ∨ t = 2 by omega) with rfl | rfl | rfl
  · rw [if_neg (by omega), if_neg (by omega), if_neg (by omega), if_pos h, hn]
  · rw [if_neg (by omega), if_neg (by omega), if_neg (by omega), if_neg (by omega), if_pos h, hn]
  · rw [if_neg (by omega), if_neg (by omega), if_neg (by omega), if_neg (by omega), if_neg (by omega), if_pos h, hn]
theorem q_fl_get {E : q_E} {μ : q_M} {a c j : Nat} (hj : j < q_nf c) : (q_fl E μ a c)[j]? = some (q_sv E (q_ft c j) (μ.1 a) (μ.2 a) (q_pt a) j) := by
  unfold q_fl
  rw [List.getElem?_map, List.getElem?_range hj]
  rfl
theorem q_fl_len {E : q_E} {μ : q_M} {a c : Nat} : (q_fl E μ a c).length = q_nf c := by
  unfold q_fl
  rw [List.length_map, List.length_range]
theorem q_fl_si {E : q_E} {μ : q_M} {a c j : Nat} {v : Int32} (hj : j < q_nf c) (ht : q_ft c j = 0) : (q_fl E μ a c).set j (.int v) = q_fl E (q_si μ a j v) a c := by
  apply List.ext_getElem?
  intro k
  by_cases hk : k < q_nf c
  · by_cases hkj : k = j
    · subst hkj
      rw [List.getElem?_set_self (by rw [q_fl_len]; exact hk), q_fl_get hk, ht]
      simp [q_sv, q_si]
    · rw [List.getElem?_set_ne (Ne.symm hkj), q_fl_get hk, q_fl_get hk]
      simp [q_sv, q_si, hkj]
  · rw [List.getElem?_eq_none (by rw [List.length_set, q_fl_len]; omega), List.getElem?_eq_none (by rw [q_fl_len]; omega)]
theorem q_fl_sl {E : q_E} {μ : q_M} {a c j : Nat} {v : Int64} (hj : j < q_nf c) (ht : q_ft c j = 1) : (q_fl E μ a c).set j (.long v) = q_fl E (q_sl μ a j v) a c := by
  apply List.ext_getElem?
  intro k
  by_cases hk : k < q_nf c
  · by_cases hkj : k = j
    · subst hkj
      rw [List.getElem?_set_self (by rw [q_fl_len]; exact hk), q_fl_get hk, ht]
      simp [q_sv, q_sl]
    · rw [List.getElem?_set_ne (Ne.symm hkj), q_fl_get hk, q_fl_get hk]
      simp [q_sv, q_sl, hkj]
  · rw [List.getElem?_eq_none (by rw [List.length_set, q_fl_len]; omega), List.getElem?_eq_none (by rw [q_fl_len]; omega)]
theorem q_pt_kd : ∀ a, a < 165 → ∀ j, j < q_nf (q_kd a) → q_ft (q_kd a) j = 2 → q_kd (q_pt a j) = q_fk (q_kd a) j := by decide +kernel
theorem q_pt_len : ∀ a, a < 165 → ∀ j, j < q_nf (q_kd a) → q_ft (q_kd a) j = 2 → 11 ≤ q_fk (q_kd a) j → q_len (q_pt a j) = q_fn (q_kd a) j := by decide +kernel
theorem q_pk {a c j k : Nat} (h : q_kd a = c) (hc : c < 11) (hj : j < q_nf c) (ht : q_ft c j = 2) (hk : q_fk c j = k) : q_kd (q_pt a j) = k := by
  have := q_pt_kd a (q_lt (by omega)) j (by rw [h]; exact hj) (by rw [h]; exact ht)
  rw [this, h, hk]
theorem q_pl {a c j n : Nat} (h : q_kd a = c) (hc : c < 11) (hj : j < q_nf c) (ht : q_ft c j = 2) (hk : 11 ≤ q_fk c j) (hn : q_fn c j = n) : q_len (q_pt a j) = n := by
  have := q_pt_len a (q_lt (by omega)) j (by rw [h]; exact hj) (by rw [h]; exact ht) (by rw [h]; exact hk)
  rw [this, h, hn]
def q_Nw (U : State) : Prop := (∀ q ∈ q_nF, va_Nw (.fieldLinkNest q.1 q.2.1 q.2.2.1 q.2.2.2.1 q.2.2.2.2.1 q.2.2.2.2.2) U) ∧ ∀ q ∈ q_nM, va_Nw (.methodLinkNest q.1 q.2.1 q.2.2.1 q.2.2.2) U
def q_K (E : q_E) (U : State) : Prop := va_K (q_D E) vwCl (q_ty E) U ∧ q_Nw U
theorem q_K.warm {E : q_E} {s U : State} (hW : s.WarmedH U.vm) (h : q_K E s) : q_K E U := ⟨va_K.moved hW.alike h.1, fun q hq => va_Nw.warmF hW (h.2.1 q hq), fun q hq => va_Nw.warmM hW (h.2.2 q hq)⟩
theorem q_K.calling {E : q_E} {U : State} {g : JFrame} {mk : MethodId} {a : Array Value} (h : q_K E U) : q_K E (U.calling g mk a) := ⟨va_K.moved (u := U) (U := U.calling g mk a) (Vm.Alike.refl U.vm) h.1, fun q hq => va_Nw.same rfl (u := U) (U := U.calling g mk a) rfl (h.2.1 q hq), fun q hq => va_Nw.same rfl (u := U) (U := U.calling g mk a) rfl (h.2.2 q hq)⟩
def q_I (E : q_E) : Prop := ∀ i j, i < 165 → j < 165 → E.2.2.2 i = E.2.2.2 j → i = j
def q_A (E : q_E) : Nat → Prop := fun q => ∃ k, k < 165 ∧ q = E.2.2.2 k
def q_X (E : q_E) (A : Nat → Prop) (s : State) : Prop := q_K E s ∧ q_I E ∧ ∀ k, k < 165 → A (E.2.2.2 k)
def q_S (E : q_E) (A : Nat → Prop) (s : State) (μ : q_M) (H : Heap) (locs : List Loc) : Prop := va_P (q_D E) vwCl (q_ws E μ) H ∧ va_S A s.heap H locs
theorem q_Dd {E : q_E} {A : Nat → Prop} {s : State} {μ : q_M} (F : q_X E A s) : va_D A (q_ws E μ) := by
  have key : ∀ (k : Nat) (q : Nat × va_E), (q_ws E μ)[k]? = some q → k < 165 ∧ q.1 = E.2.2.2 k := by
    intro k q hq
    have hk : k < 165 := by
      have := (List.getElem?_eq_some_iff.mp hq).1
      rw [q_ws_len] at this
      exact this
    rw [q_ws_get hk] at hq
    cases hq
    exact ⟨hk, rfl⟩
  refine ⟨fun i j x y hi hj hxy => ?_, fun k q hq => ?_⟩
  · obtain ⟨h1, h2⟩ := key i x hi
    obtain ⟨h3, h4⟩ := key j y hj
    exact F.2.1 i j h1 h3 (by rw [← h2, ← h4, hxy])
  · obtain ⟨h1, h2⟩ := key k q hq
    rw [h2]
    exact F.2.2 k h1
def q_Pc (E : q_E) (μ : q_M) (vals : List Value) : Array Value → State → Prop := va_Pc vals (fun U => va_P (q_D E) vwCl (q_ws E μ) U.heap ∧ q_K E U)
abbrev q_Qi (E : q_E) (r : Int32) (μ : q_M) : Array Value → State → Outcome → State → Prop := va_Qi (fun x (_ : Unit) => x = r) (fun _ t => va_P (q_D E) vwCl (q_ws E μ) t.heap) (q_A E)
abbrev q_Ql (E : q_E) (r : Int64) (μ : q_M) : Array Value → State → Outcome → State → Prop := va_Ql (fun x (_ : Unit) => x = r) (fun _ t => va_P (q_D E) vwCl (q_ws E μ) t.heap) (q_A E)
abbrev q_Qv (E : q_E) (_ : Unit) (μ : q_M) : Array Value → State → Outcome → State → Prop := va_Qv (fun (_ : Unit) => True) (fun _ t => va_P (q_D E) vwCl (q_ws E μ) t.heap) (q_A E)
abbrev q_Qr (E : q_E) (r : Nat) (μ : q_M) : Array Value → State → Outcome → State → Prop := va_Qr (fun (_ : Unit) => True) (fun _ a t => a = E.2.2.2 r ∧ va_P (q_D E) vwCl (q_ws E μ) t.heap) (q_A E)
theorem q_blind {E : q_E} {μ : q_M} {vals : List Value} : FrameBlind (q_Pc E μ vals) := by
  intro a U g mk h
  obtain ⟨h1, h2, h3⟩ := h
  exact ⟨h1, h2, h3.calling⟩
section QR
variable {p : Program} {l : Launch} {e : Env} {R : Room} {s : State} {m : MethodId} {args : Array Value} {below : List Frame} {meth : Method} {c : Code} {H : Heap} {locs : List Loc} {cells slots : Nat} {Q : State → Prop}
variable {cc : ByteArray} {pc : Nat} {ls : Array Slot} {rest : List Value} {E : q_E} {A : Nat → Prop} {μ : q_M}
theorem q_met {y : MethodName} {ws ws' : List Cond} {rm : Room} {vals : List Value} {Qc : Array Value → State → Outcome → State → Prop} {maxL : Nat} {ret : Option FieldType} (hE : q_I E) (hy : plainName y.cls = true) (hw : ws = Cond.code y cc maxL ret :: ws') (hn : (lg_sl vals).length ≤ maxL)
    (body : ∀ (p : Program) (e : Env) (s : State) (m : MethodId) (below : List Frame) (meth : Method) (c : Code), p.tables.exec = Jvm.exec → c.code = cc → meth.sig.returnType = ret → c.maxLocals = maxL → s.vm.findClass y.cls = some m.cls → (∀ w ∈ ws, w.before vals.toArray s = true) → meth.locks = false → q_X E (q_A E) s → q_S E (q_A E) s μ s.heap [] → ∀ ls : Array Slot, lv_has ls maxL (lv_args 0 vals) → W p l e rm s m vals.toArray below meth c s.heap [] 0 0 (MQ below Qc vals.toArray s 0 0 (q_A E)) (F0 m 0 ls [])) :
    Met l y ws rm (q_Pc E μ vals) Qc 0 0 (q_A E) := by
  refine Met.ofW (cc := cc) (maxL := maxL) (ret := ret) hy hw ?_
  intro p e s m args below meth c s₁ B hml hv
  obtain ⟨rfl, hP, hK⟩ := hv
  have hl := lv_entry vals (n := maxL) hn
  rw [lg_entry_eq]
  exact body p e s m below meth c B.exec B.bytes B.returns hml (findClass_of_methodNamed B.named) (atoms_spec (ws := ws) B.pre) B.notSynchronized ⟨hK, hE, fun k hk => ⟨k, hk, rfl⟩⟩ ⟨hP, va_S.rf⟩ _ hl
theorem q_iret {r v : Int32} {μ' : q_M} (hx : p.tables.exec = Jvm.exec) (hb : c.code = cc) (hr : meth.sig.returnType = some .int) (S : q_S E (q_A E) s μ H locs) (h : some (v, μ) = some (r, μ')) (hlocks : meth.locks = false) (hdg : decode cc pc = .ok (.ireturn, 1)) : W p l e R s m args below meth c H locs cells slots (MQ below (q_Qi E r μ') args s cells slots (q_A E)) (F0 m pc ls [.int v]) := by
  cases h
  exact W.iret hx hb hr (fun t ht hW => ⟨⟨_, (), rfl, rfl, by show va_P _ _ _ t.heap; rw [ht]; exact S.1⟩, S.2.F ht⟩) S.2.2.2 hdg hlocks
theorem q_nz {v : Int32} (h : q_zb v = true) : narrow .boolean (.int v) = .int v := by
  rcases of_decide_eq_true h with rfl | rfl <;> rfl
theorem q_zret {r v : Int32} {μ' : q_M} (hx : p.tables.exec = Jvm.exec) (hb : c.code = cc) (hr : meth.sig.returnType = some .boolean) (S : q_S E (q_A E) s μ H locs) (hz : q_zb v = true) (h : some (v, μ) = some (r, μ')) (hlocks : meth.locks = false) (hdg : decode cc pc = .ok (.ireturn, 1)) : W p l e R s m args below meth c H locs cells slots (MQ below (q_Qi E r μ') args s cells slots (q_A E)) (F0 m pc ls [.int v]) := by
  cases h
  exact W.zret hx hb hr (q_nz hz) (fun t ht hW => ⟨⟨_, (), rfl, rfl, by show va_P _ _ _ t.heap; rw [ht]; exact S.1⟩, S.2.F ht⟩) S.2.2.2 hdg hlocks
theorem q_lret {r v : Int64} {μ' : q_M} (hx : p.tables.exec = Jvm.exec) (hb : c.code = cc) (hr : meth.sig.returnType = some .long) (S : q_S E (q_A E) s μ H locs) (h : some (v, μ) = some (r, μ')) (hlocks : meth.locks = false) (hdg : decode cc pc = .ok (.lreturn, 1)) : W p l e R s m args below meth c H locs cells slots (MQ below (q_Ql E r μ') args s cells slots (q_A E)) (F0 m pc ls [.long v]) := by
  cases h
  exact W.lret hx hb hr (fun t ht hW => ⟨⟨_, (), rfl, rfl, by show va_P _ _ _ t.heap; rw [ht]; exact S.1⟩, S.2.F ht⟩) S.2.2.2 hdg hlocks
theorem q_vret {r v : Unit} {μ' : q_M} (hx : p.tables.exec = Jvm.exec) (hb : c.code = cc) (hr : meth.sig.returnType = none) (S : q_S E (q_A E) s μ H locs) (h : some (v, μ) = some (r, μ')) (hlocks : meth.locks = false) (hdg : decode cc pc = .ok (.return_, 1)) : W p l e R s m args below meth c H locs cells slots (MQ below (q_Qv E r μ') args s cells slots (q_A E)) (F0 m pc ls []) := by
  cases h
  exact W.vret hx hb hr (fun t ht hW => ⟨⟨(), rfl, trivial, by show va_P _ _ _ t.heap; rw [ht]; exact S.1⟩, S.2.F ht⟩) S.2.2.2 hdg hlocks
theorem q_aret {r v : Nat} {μ' : q_M} {rt : FieldType} (hx : p.tables.exec = Jvm.exec) (hb : c.code = cc) (hr : meth.sig.returnType = some rt) (hrt : (∃ n, rt = .object n) ∨ ∃ t, rt = .array t) (S : q_S E (q_A E) s μ H locs) (h : some (v, μ) = some (r, μ')) (hlocks : meth.locks = false) (hdg : decode cc pc = .ok (.areturn, 1)) : W p l e R s m args below meth c H locs cells slots (MQ below (q_Qr E r μ') args s cells slots (q_A E)) (F0 m pc ls [.ref (E.2.2.2 v)]) := by
  cases h
  exact W.aret hx hb hr hrt (Or.inr ⟨_, rfl⟩) (fun t ht hW => ⟨⟨(), _, rfl, trivial, rfl, by rw [ht]; exact S.1⟩, S.2.F ht⟩) S.2.2.2 hdg hlocks
theorem q_geti {own C : String} {T : u_T} {N ci index a j : Nat} {Ts : List Cond} (hx : p.tables.exec = Jvm.exec) (hb : c.code = cc) (hts : ∀ w ∈ Ts, w.before args s = true) (hin : ∀ w ∈ u_ws C T N, w ∈ Ts) (hown : s.vm.findClass own = some m.cls) (F : q_X E A s) (S : q_S E A s μ H locs) (hk : q_kd a = ci) (hci : ci < 11) (hc : vwCl[ci]? = some (C, T, N)) (hj : j < N) (hj2 : j < q_nf ci) (ht : q_ft ci j = 0) (hlink : (Cond.fieldLink own index (T j).1 (T j).2.1 (T j).2.2.1).before args s = true) (hdg : decode cc pc = .ok (.getfield index, 3))
    (kk : W p l e R s m args below meth c H locs cells slots Q (F0 m (pc + 3) ls (.int (μ.1 a j) :: rest))) : W p l e R s m args below meth c H locs cells slots Q (F0 m pc ls (.ref (E.2.2.2 a) :: rest)) :=
  va_get (D := q_D E) hx hb hts hin hown F.1.1 S.1 a ((q_ws_get (q_lt (by omega))).trans (by rw [q_cl_o hk hci])) hc j hj hlink (fun _ h => h) ((q_fl_get hj2).trans (by rw [ht]; rfl)) hdg kk
theorem q_getl {own C : String} {T : u_T} {N ci index a j : Nat} {Ts : List Cond} (hx : p.tables.exec = Jvm.exec) (hb : c.code = cc) (hts : ∀ w ∈ Ts, w.before args s = true) (hin : ∀ w ∈ u_ws C T N, w ∈ Ts) (hown : s.vm.findClass own = some m.cls) (F : q_X E A s) (S : q_S E A s μ H locs) (hk : q_kd a = ci) (hci : ci < 11) (hc : vwCl[ci]? = some (C, T, N)) (hj : j < N) (hj2 : j < q_nf ci) (ht : q_ft ci j = 1) (hlink : (Cond.fieldLink own index (T j).1 (T j).2.1 (T j).2.2.1).before args s = true) (hdg : decode cc pc = .ok (.getfield index, 3))
    (kk : W p l e R s m args below meth c H locs cells slots Q (F0 m (pc + 3) ls (.long (μ.2 a j) :: rest))) : W p l e R s m args below meth c H locs cells slots Q (F0 m pc ls (.ref (E.2.2.2 a) :: rest)) :=
  va_get (D := q_D E) hx hb hts hin hown F.1.1 S.1 a ((q_ws_get (q_lt (by omega))).trans (by rw [q_cl_o hk hci])) hc j hj hlink (fun _ h => h) ((q_fl_get hj2).trans (by rw [ht]; rfl)) hdg kk
theorem q_getr {own C : String} {T : u_T} {N ci index a j b : Nat} {Ts : List Cond} (hx : p.tables.exec = Jvm.exec) (hb : c.code = cc) (hts : ∀ w ∈ Ts, w.before args s = true) (hin : ∀ w ∈ u_ws C T N, w ∈ Ts) (hown : s.vm.findClass own = some m.cls) (F : q_X E A s) (S : q_S E A s μ H locs) (hk : q_kd a = ci) (hci : ci < 11) (hc : vwCl[ci]? = some (C, T, N)) (hj : j < N) (hj2 : j < q_nf ci) (ht : q_ft ci j = 2) (hp : q_pt a j = b) (hlink : (Cond.fieldLink own index (T j).1 (T j).2.1 (T j).2.2.1).before args s = true) (hdg : decode cc pc = .ok (.getfield index, 3))
    (kk : W p l e R s m args below meth c H locs cells slots Q (F0 m (pc + 3) ls (.ref (E.2.2.2 b) :: rest))) : W p l e R s m args below meth c H locs cells slots Q (F0 m pc ls (.ref (E.2.2.2 a) :: rest)) := by
  subst hp
  exact va_get (D := q_D E) hx hb hts hin hown F.1.1 S.1 a ((q_ws_get (q_lt (by omega))).trans (by rw [q_cl_o hk hci])) hc j hj hlink (fun _ h => h) ((q_fl_get hj2).trans (by rw [ht]; rfl)) hdg kk
theorem q_nwF {host own ref nm ds : String} {index : Nat} (F : q_X E A s) (h : (own, index, ref, nm, ds, host) ∈ q_nF) : (Cond.fieldLinkNest own index ref nm ds host).before args s = true := va_Nw.use rfl (F.1.2.1 _ h)
theorem q_getiN {own C host : String} {T : u_T} {N ci index a j : Nat} {Ts : List Cond} (hx : p.tables.exec = Jvm.exec) (hb : c.code = cc) (hts : ∀ w ∈ Ts, w.before args s = true) (hin : ∀ w ∈ u_ws C T N, w ∈ Ts) (hown : s.vm.findClass own = some m.cls) (F : q_X E A s) (S : q_S E A s μ H locs) (hk : q_kd a = ci) (hci : ci < 11) (hc : vwCl[ci]? = some (C, T, N)) (hj : j < N) (hj2 : j < q_nf ci) (ht : q_ft ci j = 0) (hlink : (own, index, (T j).1, (T j).2.1, (T j).2.2.1, host) ∈ q_nF) (hdg : decode cc pc = .ok (.getfield index, 3))
    (kk : W p l e R s m args below meth c H locs cells slots Q (F0 m (pc + 3) ls (.int (μ.1 a j) :: rest))) : W p l e R s m args below meth c H locs cells slots Q (F0 m pc ls (.ref (E.2.2.2 a) :: rest)) :=
  va_getN (D := q_D E) hx hb hts hin hown F.1.1 S.1 a ((q_ws_get (q_lt (by omega))).trans (by rw [q_cl_o hk hci])) hc j hj (q_nwF F hlink) (fun _ h => h) ((q_fl_get hj2).trans (by rw [ht]; rfl)) hdg kk
theorem q_getlN {own C host : String} {T : u_T} {N ci index a j : Nat} {Ts : List Cond} (hx : p.tables.exec = Jvm.exec) (hb : c.code = cc) (hts : ∀ w ∈ Ts, w.before args s = true) (hin : ∀ w ∈ u_ws C T N, w ∈ Ts) (hown : s.vm.findClass own = some m.cls) (F : q_X E A s) (S : q_S E A s μ H locs) (hk : q_kd a = ci) (hci : ci < 11) (hc : vwCl[ci]? = some (C, T, N)) (hj : j < N) (hj2 : j < q_nf ci) (ht : q_ft ci j = 1) (hlink : (own, index, (T j).1, (T j).2.1, (T j).2.2.1, host) ∈ q_nF) (hdg : decode cc pc = .ok (.getfield index, 3))
    (kk : W p l e R s m args below meth c H locs cells slots Q (F0 m (pc + 3) ls (.long (μ.2 a j) :: rest))) : W p l e R s m args below meth c H locs cells slots Q (F0 m pc ls (.ref (E.2.2.2 a) :: rest)) :=
  va_getN (D := q_D E) hx hb hts hin hown F.1.1 S.1 a ((q_ws_get (q_lt (by omega))).trans (by rw [q_cl_o hk hci])) hc j hj (q_nwF F hlink) (fun _ h => h) ((q_fl_get hj2).trans (by rw [ht]; rfl)) hdg kk
theorem q_getrN {own C host : String} {T : u_T} {N ci index a j b : Nat} {Ts : List Cond} (hx : p.tables.exec = Jvm.exec) (hb : c.code = cc) (hts : ∀ w ∈ Ts, w.before args s = true) (hin : ∀ w ∈ u_ws C T N, w ∈ Ts) (hown : s.vm.findClass own = some m.cls) (F : q_X E A s) (S : q_S E A s μ H locs) (hk : q_kd a = ci) (hci : ci < 11) (hc : vwCl[ci]? = some (C, T, N)) (hj : j < N) (hj2 : j < q_nf ci) (ht : q_ft ci j = 2) (hp : q_pt a j = b) (hlink : (own, index, (T j).1, (T j).2.1, (T j).2.2.1, host) ∈ q_nF) (hdg : decode cc pc = .ok (.getfield index, 3))
    (kk : W p l e R s m args below meth c H locs cells slots Q (F0 m (pc + 3) ls (.ref (E.2.2.2 b) :: rest))) : W p l e R s m args below meth c H locs cells slots Q (F0 m pc ls (.ref (E.2.2.2 a) :: rest)) := by
  subst hp
  exact va_getN (D := q_D E) hx hb hts hin hown F.1.1 S.1 a ((q_ws_get (q_lt (by omega))).trans (by rw [q_cl_o hk hci])) hc j hj (q_nwF F hlink) (fun _ h => h) ((q_fl_get hj2).trans (by rw [ht]; rfl)) hdg kk
end QR
theorem q_upd_i {E : q_E} {μ : q_M} {a ci j : Nat} {v : Int32} (hk : q_kd a = ci) (hci : ci < 11) (hj : j < q_nf ci) (ht : q_ft ci j = 0) : (q_ws E μ).set a (E.2.2.2 a, .inr (ci, (q_fl E μ a ci).set j (.int v))) = q_ws E (q_si μ a j v) := by
  rw [q_fl_si hj ht, ← q_cl_o (E := E) (μ := q_si μ a j v) hk hci]
  exact q_ws_set (q_lt (by omega)) (fun i hi => q_cl_congr (q_si_row hi) rfl)
theorem q_upd_l {E : q_E} {μ : q_M} {a ci j : Nat} {v : Int64} (hk : q_kd a = ci) (hci : ci < 11) (hj : j < q_nf ci) (ht : q_ft ci j = 1) : (q_ws E μ).set a (E.2.2.2 a, .inr (ci, (q_fl E μ a ci).set j (.long v))) = q_ws E (q_sl μ a j v) := by
  rw [q_fl_sl hj ht, ← q_cl_o (E := E) (μ := q_sl μ a j v) hk hci]
  exact q_ws_set (q_lt (by omega)) (fun i hi => q_cl_congr rfl (q_sl_row hi))
theorem q_updA {μ : q_M} {a k : Nat} {x : Int32} : upd (μ.1 a) k x = (q_si μ a k x).1 a := by
  funext i
  by_cases h : i = k <;> simp [upd, q_si, h]
theorem q_updAL {μ : q_M} {a k : Nat} {x : Int64} : vp_updL (μ.2 a) k x = (q_sl μ a k x).2 a := by
  funext i
  by_cases h : i = k <;> simp [vp_updL, q_sl, h]
theorem q_upd_ai {E : q_E} {μ : q_M} {a n k : Nat} {x : Int32} (hk : q_kd a = 11) (hn : q_len a = n) : (q_ws E μ).set a (E.2.2.2 a, .inl (E.2.2.1 0, n, .inl (upd (μ.1 a) k x))) = q_ws E (q_si μ a k x) := by
  rw [q_updA, ← q_cl_i (E := E) (μ := q_si μ a k x) hk hn]
  exact q_ws_set (q_lt (by omega)) (fun i hi => q_cl_congr (q_si_row hi) rfl)
theorem q_upd_az {E : q_E} {μ : q_M} {a n k : Nat} {x : Int32} (hk : q_kd a = 13) (hn : q_len a = n) : (q_ws E μ).set a (E.2.2.2 a, .inl (E.2.2.1 2, n, .inl (upd (μ.1 a) k x))) = q_ws E (q_si μ a k x) := by
  rw [q_updA, ← q_cl_z (E := E) (μ := q_si μ a k x) hk hn]
  exact q_ws_set (q_lt (by omega)) (fun i hi => q_cl_congr (q_si_row hi) rfl)
theorem q_upd_al {E : q_E} {μ : q_M} {a n k : Nat} {x : Int64} (hk : q_kd a = 12) (hn : q_len a = n) : (q_ws E μ).set a (E.2.2.2 a, .inl (E.2.2.1 1, n, .inr (.inl (vp_updL (μ.2 a) k x)))) = q_ws E (q_sl μ a k x) := by
  rw [q_updAL, ← q_cl_l (E := E) (μ := q_sl μ a k x) hk hn]
  exact q_ws_set (q_lt (by omega)) (fun i hi => q_cl_congr rfl (q_sl_row hi))
theorem q_fz {v : Int32} (h : q_zb v = true) : fits .boolean (.int v) = true := by
  rcases of_decide_eq_true h with rfl | rfl <;> rfl
theorem q_in {i : Int32} {n : Nat} (h : q_ix i n = true) : vp_in i n := by
  have := of_decide_eq_true h
  exact this
theorem q_narz {v : Int32} (h : q_zb v = true) : vp_nar .boolean v = v := by
  rcases of_decide_eq_true h with rfl | rfl <;> rfl
section QP
variable {p : Program} {l : Launch} {e : Env} {R : Room} {s : State} {m : MethodId} {args : Array Value} {below : List Frame} {meth : Method} {c : Code} {H : Heap} {locs : List Loc} {cells slots : Nat} {Q : State → Prop}
variable {cc : ByteArray} {pc : Nat} {ls : Array Slot} {rest : List Value} {E : q_E} {A : Nat → Prop} {μ : q_M}
theorem q_puti {own C : String} {T : u_T} {N ci index a j : Nat} {Ts : List Cond} {v : Int32} (hx : p.tables.exec = Jvm.exec) (hb : c.code = cc) (hts : ∀ w ∈ Ts, w.before args s = true) (hin : ∀ w ∈ u_ws C T N, w ∈ Ts) (ty0 : Nat → FieldType) (hty : ∀ k, k < N → parseFieldDescriptor (T k).2.2.1 = some (ty0 k)) (hnm : ∀ a, a < N → ∀ b, b < N → a ≠ b → (T a).2.1 ≠ (T b).2.1) (hown : s.vm.findClass own = some m.cls) (F : q_X E A s) (S : q_S E A s μ H locs) (hk : q_kd a = ci) (hci : ci < 11) (hc : vwCl[ci]? = some (C, T, N)) (hj : j < N) (hj2 : j < q_nf ci) (ht : q_ft ci j = 0) (hlink : (Cond.fieldLink own index (T j).1 (T j).2.1 (T j).2.2.1).before args s = true) (hfin : (T j).2.2.2 = false) (hd : parseFieldDescriptor (T j).2.2.1 = some .int) (hdg : decode cc pc = .ok (.putfield index, 3))
    (kk : ∀ (H1 : Heap) (locs1 : List Loc) (μ1 : q_M), μ1 = q_si μ a j v → q_S E A s μ1 H1 locs1 → W p l e R s m args below meth c H1 locs1 cells slots Q (F0 m (pc + 3) ls rest)) : W p l e R s m args below meth c H locs cells slots Q (F0 m pc ls (.int v :: .ref (E.2.2.2 a) :: rest)) := by
  refine va_put (D := q_D E) (ty := .int) hx hb hts hin ty0 hty hnm hown F.1.1 S.1 (q_Dd F) S.2 a ((q_ws_get (q_lt (by omega))).trans (by rw [q_cl_o hk hci])) hc j hj hlink (fun _ h => h) hfin hd rfl rfl (by rw [q_fl_len]; exact hj2) hdg (fun H1 locs1 h1 _ h3 => kk H1 locs1 _ rfl ⟨?_, h3⟩)
  rw [← q_upd_i hk hci hj2 ht]
  exact h1
theorem q_putz {own C : String} {T : u_T} {N ci index a j : Nat} {Ts : List Cond} {v : Int32} (hx : p.tables.exec = Jvm.exec) (hb : c.code = cc) (hts : ∀ w ∈ Ts, w.before args s = true) (hin : ∀ w ∈ u_ws C T N, w ∈ Ts) (ty0 : Nat → FieldType) (hty : ∀ k, k < N → parseFieldDescriptor (T k).2.2.1 = some (ty0 k)) (hnm : ∀ a, a < N → ∀ b, b < N → a ≠ b → (T a).2.1 ≠ (T b).2.1) (hown : s.vm.findClass own = some m.cls) (F : q_X E A s) (S : q_S E A s μ H locs) (hk : q_kd a = ci) (hci : ci < 11) (hc : vwCl[ci]? = some (C, T, N)) (hj : j < N) (hj2 : j < q_nf ci) (ht : q_ft ci j = 0) (hlink : (Cond.fieldLink own index (T j).1 (T j).2.1 (T j).2.2.1).before args s = true) (hfin : (T j).2.2.2 = false) (hd : parseFieldDescriptor (T j).2.2.1 = some .boolean) (hz : q_zb v = true) (hdg : decode cc pc = .ok (.putfield index, 3))
    (kk : ∀ (H1 : Heap) (locs1 : List Loc) (μ1 : q_M), μ1 = q_si μ a j v → q_S E A s μ1 H1 locs1 → W p l e R s m args below meth c H1 locs1 cells slots Q (F0 m (pc + 3) ls rest)) : W p l e R s m args below meth c H locs cells slots Q (F0 m pc ls (.int v :: .ref (E.2.2.2 a) :: rest)) := by
  refine va_put (D := q_D E) (ty := .boolean) hx hb hts hin ty0 hty hnm hown F.1.1 S.1 (q_Dd F) S.2 a ((q_ws_get (q_lt (by omega))).trans (by rw [q_cl_o hk hci])) hc j hj hlink (fun _ h => h) hfin hd (q_nz hz) (q_fz hz) (by rw [q_fl_len]; exact hj2) hdg (fun H1 locs1 h1 _ h3 => kk H1 locs1 _ rfl ⟨?_, h3⟩)
  rw [← q_upd_i hk hci hj2 ht]
  exact h1
theorem q_putl {own C : String} {T : u_T} {N ci index a j : Nat} {Ts : List Cond} {v : Int64} (hx : p.tables.exec = Jvm.exec) (hb : c.code = cc) (hts : ∀ w ∈ Ts, w.before args s = true) (hin : ∀ w ∈ u_ws C T N, w ∈ Ts) (ty0 : Nat → FieldType) (hty : ∀ k, k < N → parseFieldDescriptor (T k).2.2.1 = some (ty0 k)) (hnm : ∀ a, a < N → ∀ b, b < N → a ≠ b → (T a).2.1 ≠ (T b).2.1) (hown : s.vm.findClass own = some m.cls) (F : q_X E A s) (S : q_S E A s μ H locs) (hk : q_kd a = ci) (hci : ci < 11) (hc : vwCl[ci]? = some (C, T, N)) (hj : j < N) (hj2 : j < q_nf ci) (ht : q_ft ci j = 1) (hlink : (Cond.fieldLink own index (T j).1 (T j).2.1 (T j).2.2.1).before args s = true) (hfin : (T j).2.2.2 = false) (hd : parseFieldDescriptor (T j).2.2.1 = some .long) (hdg : decode cc pc = .ok (.putfield index, 3))
    (kk : ∀ (H1 : Heap) (locs1 : List Loc) (μ1 : q_M), μ1 = q_sl μ a j v → q_S E A s μ1 H1 locs1 → W p l e R s m args below meth c H1 locs1 cells slots Q (F0 m (pc + 3) ls rest)) : W p l e R s m args below meth c H locs cells slots Q (F0 m pc ls (.long v :: .ref (E.2.2.2 a) :: rest)) := by
  refine va_put (D := q_D E) (ty := .long) hx hb hts hin ty0 hty hnm hown F.1.1 S.1 (q_Dd F) S.2 a ((q_ws_get (q_lt (by omega))).trans (by rw [q_cl_o hk hci])) hc j hj hlink (fun _ h => h) hfin hd rfl rfl (by rw [q_fl_len]; exact hj2) hdg (fun H1 locs1 h1 _ h3 => kk H1 locs1 _ rfl ⟨?_, h3⟩)
  rw [← q_upd_l hk hci hj2 ht]
  exact h1
theorem q_putiN {own C host : String} {T : u_T} {N ci index a j : Nat} {Ts : List Cond} {v : Int32} (hx : p.tables.exec = Jvm.exec) (hb : c.code = cc) (hts : ∀ w ∈ Ts, w.before args s = true) (hin : ∀ w ∈ u_ws C T N, w ∈ Ts) (ty0 : Nat → FieldType) (hty : ∀ k, k < N → parseFieldDescriptor (T k).2.2.1 = some (ty0 k)) (hnm : ∀ a, a < N → ∀ b, b < N → a ≠ b → (T a).2.1 ≠ (T b).2.1) (hown : s.vm.findClass own = some m.cls) (F : q_X E A s) (S : q_S E A s μ H locs) (hk : q_kd a = ci) (hci : ci < 11) (hc : vwCl[ci]? = some (C, T, N)) (hj : j < N) (hj2 : j < q_nf ci) (ht : q_ft ci j = 0) (hlink : (own, index, (T j).1, (T j).2.1, (T j).2.2.1, host) ∈ q_nF) (hfin : (T j).2.2.2 = false) (hd : parseFieldDescriptor (T j).2.2.1 = some .int) (hdg : decode cc pc = .ok (.putfield index, 3))
    (kk : ∀ (H1 : Heap) (locs1 : List Loc) (μ1 : q_M), μ1 = q_si μ a j v → q_S E A s μ1 H1 locs1 → W p l e R s m args below meth c H1 locs1 cells slots Q (F0 m (pc + 3) ls rest)) : W p l e R s m args below meth c H locs cells slots Q (F0 m pc ls (.int v :: .ref (E.2.2.2 a) :: rest)) := by
  refine va_putN (D := q_D E) (ty := .int) hx hb hts hin ty0 hty hnm hown F.1.1 S.1 (q_Dd F) S.2 a ((q_ws_get (q_lt (by omega))).trans (by rw [q_cl_o hk hci])) hc j hj (q_nwF F hlink) (fun _ h => h) hfin hd rfl rfl (by rw [q_fl_len]; exact hj2) hdg (fun H1 locs1 h1 _ h3 => kk H1 locs1 _ rfl ⟨?_, h3⟩)
  rw [← q_upd_i hk hci hj2 ht]
  exact h1
theorem q_putzN {own C host : String} {T : u_T} {N ci index a j : Nat} {Ts : List Cond} {v : Int32} (hx : p.tables.exec = Jvm.exec) (hb : c.code = cc) (hts : ∀ w ∈ Ts, w.before args s = true) (hin : ∀ w ∈ u_ws C T N, w ∈ Ts) (ty0 : Nat → FieldType) (hty : ∀ k, k < N → parseFieldDescriptor (T k).2.2.1 = some (ty0 k)) (hnm : ∀ a, a < N → ∀ b, b < N → a ≠ b → (T a).2.1 ≠ (T b).2.1) (hown : s.vm.findClass own = some m.cls) (F : q_X E A s) (S : q_S E A s μ H locs) (hk : q_kd a = ci) (hci : ci < 11) (hc : vwCl[ci]? = some (C, T, N)) (hj : j < N) (hj2 : j < q_nf ci) (ht : q_ft ci j = 0) (hlink : (own, index, (T j).1, (T j).2.1, (T j).2.2.1, host) ∈ q_nF) (hfin : (T j).2.2.2 = false) (hd : parseFieldDescriptor (T j).2.2.1 = some .boolean) (hz : q_zb v = true) (hdg : decode cc pc = .ok (.putfield index, 3))
    (kk : ∀ (H1 : Heap) (locs1 : List Loc) (μ1 : q_M), μ1 = q_si μ a j v → q_S E A s μ1 H1 locs1 → W p l e R s m args below meth c H1 locs1 cells slots Q (F0 m (pc + 3) ls rest)) : W p l e R s m args below meth c H locs cells slots Q (F0 m pc ls (.int v :: .ref (E.2.2.2 a) :: rest)) := by
  refine va_putN (D := q_D E) (ty := .boolean) hx hb hts hin ty0 hty hnm hown F.1.1 S.1 (q_Dd F) S.2 a ((q_ws_get (q_lt (by omega))).trans (by rw [q_cl_o hk hci])) hc j hj (q_nwF F hlink) (fun _ h => h) hfin hd (q_nz hz) (q_fz hz) (by rw [q_fl_len]; exact hj2) hdg (fun H1 locs1 h1 _ h3 => kk H1 locs1 _ rfl ⟨?_, h3⟩)
  rw [← q_upd_i hk hci hj2 ht]
  exact h1
theorem q_iald {a n : Nat} {i : Int32} (hx : p.tables.exec = Jvm.exec) (hb : c.code = cc) (F : q_X E A s) (S : q_S E A s μ H locs) (hk : q_kd a = 11) (hn : q_len a = n) (hi : q_ix i n = true) (hdg : decode cc pc = .ok (.iaload, 1))
    (kk : W p l e R s m args below meth c H locs cells slots Q (F0 m (pc + 1) ls (.int (μ.1 a i.toNatClampNeg) :: rest))) : W p l e R s m args below meth c H locs cells slots Q (F0 m pc ls (.int i :: .ref (E.2.2.2 a) :: rest)) :=
  va_iald (D := q_D E) (n := n) (f := μ.1 a) hx hb F.1.1 S.1 a 0 ((q_ws_get (q_lt (by omega))).trans (by rw [q_cl_i hk hn])) rfl (q_in hi) hdg kk
theorem q_zald {a n : Nat} {i : Int32} (hx : p.tables.exec = Jvm.exec) (hb : c.code = cc) (F : q_X E A s) (S : q_S E A s μ H locs) (hk : q_kd a = 13) (hn : q_len a = n) (hi : q_ix i n = true) (hdg : decode cc pc = .ok (.baload, 1))
    (kk : W p l e R s m args below meth c H locs cells slots Q (F0 m (pc + 1) ls (.int (μ.1 a i.toNatClampNeg) :: rest))) : W p l e R s m args below meth c H locs cells slots Q (F0 m pc ls (.int i :: .ref (E.2.2.2 a) :: rest)) :=
  va_zald (D := q_D E) (n := n) (f := μ.1 a) hx hb F.1.1 S.1 a 2 ((q_ws_get (q_lt (by omega))).trans (by rw [q_cl_z hk hn])) rfl (q_in hi) hdg kk
theorem q_lald {a n : Nat} {i : Int32} (hx : p.tables.exec = Jvm.exec) (hb : c.code = cc) (F : q_X E A s) (S : q_S E A s μ H locs) (hk : q_kd a = 12) (hn : q_len a = n) (hi : q_ix i n = true) (hdg : decode cc pc = .ok (.laload, 1))
    (kk : W p l e R s m args below meth c H locs cells slots Q (F0 m (pc + 1) ls (.long (μ.2 a i.toNatClampNeg) :: rest))) : W p l e R s m args below meth c H locs cells slots Q (F0 m pc ls (.int i :: .ref (E.2.2.2 a) :: rest)) :=
  va_lald (D := q_D E) (n := n) (f := μ.2 a) hx hb F.1.1 S.1 a 1 ((q_ws_get (q_lt (by omega))).trans (by rw [q_cl_l hk hn])) rfl (q_in hi) hdg kk
theorem q_rald {a n t b : Nat} {i : Int32} {C : String} (hx : p.tables.exec = Jvm.exec) (hb : c.code = cc) (F : q_X E A s) (S : q_S E A s μ H locs) (hk : q_kd a = 14 + t) (ht : t < 3) (hty : (q_ty E)[3 + t]? = some (E.2.2.1 (3 + t), .object C)) (hn : q_len a = n) (hp : q_pt a i.toNatClampNeg = b) (hi : q_ix i n = true) (hdg : decode cc pc = .ok (.aaload, 1))
    (kk : W p l e R s m args below meth c H locs cells slots Q (F0 m (pc + 1) ls (.ref (E.2.2.2 b) :: rest))) : W p l e R s m args below meth c H locs cells slots Q (F0 m pc ls (.int i :: .ref (E.2.2.2 a) :: rest)) := by
  subst hp
  exact va_aldq (D := q_D E) (n := n) (f := fun i => some (E.2.2.2 (q_pt a i))) hx hb F.1.1 S.1 a (3 + t) ((q_ws_get (q_lt (by omega))).trans (by rw [q_cl_r hk ht hn])) hty (q_in hi) hdg kk
theorem q_iast {a n : Nat} {i x : Int32} (hx : p.tables.exec = Jvm.exec) (hb : c.code = cc) (F : q_X E A s) (S : q_S E A s μ H locs) (hk : q_kd a = 11) (hn : q_len a = n) (hi : q_ix i n = true) (hdg : decode cc pc = .ok (.iastore, 1))
    (kk : ∀ (H1 : Heap) (locs1 : List Loc) (μ1 : q_M), μ1 = q_si μ a i.toNatClampNeg x → q_S E A s μ1 H1 locs1 → W p l e R s m args below meth c H1 locs1 cells slots Q (F0 m (pc + 1) ls rest)) : W p l e R s m args below meth c H locs cells slots Q (F0 m pc ls (.int x :: .int i :: .ref (E.2.2.2 a) :: rest)) := by
  refine va_iast (D := q_D E) (n := n) (f := μ.1 a) hx hb F.1.1 S.1 (q_Dd F) S.2 a 0 ((q_ws_get (q_lt (by omega))).trans (by rw [q_cl_i hk hn])) rfl (q_in hi) hdg (fun H1 locs1 h1 _ h3 => kk H1 locs1 _ rfl ⟨?_, h3⟩)
  rw [← q_upd_ai hk hn]
  exact h1
theorem q_zast {a n : Nat} {i x : Int32} (hx : p.tables.exec = Jvm.exec) (hb : c.code = cc) (F : q_X E A s) (S : q_S E A s μ H locs) (hk : q_kd a = 13) (hn : q_len a = n) (hi : q_ix i n = true) (hz : q_zb x = true) (hdg : decode cc pc = .ok (.bastore, 1))
    (kk : ∀ (H1 : Heap) (locs1 : List Loc) (μ1 : q_M), μ1 = q_si μ a i.toNatClampNeg x → q_S E A s μ1 H1 locs1 → W p l e R s m args below meth c H1 locs1 cells slots Q (F0 m (pc + 1) ls rest)) : W p l e R s m args below meth c H locs cells slots Q (F0 m pc ls (.int x :: .int i :: .ref (E.2.2.2 a) :: rest)) := by
  refine va_zast (D := q_D E) (n := n) (f := μ.1 a) hx hb F.1.1 S.1 (q_Dd F) S.2 a 2 ((q_ws_get (q_lt (by omega))).trans (by rw [q_cl_z hk hn])) rfl (q_in hi) hdg (fun H1 locs1 h1 _ h3 => kk H1 locs1 _ rfl ⟨?_, h3⟩)
  rw [← q_upd_az hk hn]
  rw [q_narz hz] at h1
  exact h1
theorem q_last {a n : Nat} {i : Int32} {x : Int64} (hx : p.tables.exec = Jvm.exec) (hb : c.code = cc) (F : q_X E A s) (S : q_S E A s μ H locs) (hk : q_kd a = 12) (hn : q_len a = n) (hi : q_ix i n = true) (hdg : decode cc pc = .ok (.lastore, 1))
    (kk : ∀ (H1 : Heap) (locs1 : List Loc) (μ1 : q_M), μ1 = q_sl μ a i.toNatClampNeg x → q_S E A s μ1 H1 locs1 → W p l e R s m args below meth c H1 locs1 cells slots Q (F0 m (pc + 1) ls rest)) : W p l e R s m args below meth c H locs cells slots Q (F0 m pc ls (.long x :: .int i :: .ref (E.2.2.2 a) :: rest)) := by
  refine va_last (D := q_D E) (n := n) (f := μ.2 a) hx hb F.1.1 S.1 (q_Dd F) S.2 a 1 ((q_ws_get (q_lt (by omega))).trans (by rw [q_cl_l hk hn])) rfl (q_in hi) hdg (fun H1 locs1 h1 _ h3 => kk H1 locs1 _ rfl ⟨?_, h3⟩)
  rw [← q_upd_al hk hn]
  exact h1
theorem q_alenL {a n : Nat} {v : Int32} (hx : p.tables.exec = Jvm.exec) (hb : c.code = cc) (F : q_X E A s) (S : q_S E A s μ H locs) (hk : q_kd a = 12) (hn : q_len a = n) (hv : Int32.ofNat n = v) (hdg : decode cc pc = .ok (.arraylength, 1))
    (kk : W p l e R s m args below meth c H locs cells slots Q (F0 m (pc + 1) ls (.int v :: rest))) : W p l e R s m args below meth c H locs cells slots Q (F0 m pc ls (.ref (E.2.2.2 a) :: rest)) :=
  va_alen (D := q_D E) hx hb F.1.1 S.1 a 1 ((q_ws_get (q_lt (by omega))).trans (by rw [q_cl_l hk hn])) rfl hv hdg kk
end QP
section QC
variable {p : Program} {l : Launch} {e : Env} {R : Room} {s : State} {m : MethodId} {args : Array Value} {below : List Frame} {meth : Method} {c : Code} {H : Heap} {locs : List Loc} {cells slots : Nat} {Q : State → Prop}
variable {cc : ByteArray} {pc : Nat} {ls : Array Slot} {rest st0 : List Value} {E : q_E} {A : Nat → Prop} {μ : q_M}
theorem q_runV {y : MethodName} {bytes : ByteArray} {maxL nL n index ci N b : Nat} {T : u_T} {ret : Option FieldType} {ws Ts : List Cond} {rm : Room} {Qc : Array Value → State → Outcome → State → Prop} {own C : String} {As : List Value} (S0 : CallFix p m c cc nL s args Ts own) (F : q_X E A s) (S : q_S E A s μ H locs) (hM : Met l y ws rm (q_Pc E μ (.ref (E.2.2.2 b) :: As)) Qc 0 0 (q_A E)) (cw : CallW R s args own C index y bytes maxL ret ws rm 0 0 n) (hk : q_kd b = ci) (hci : ci < 11) (hc : vwCl[ci]? = some (C, T, N)) (hn : As.length = n) (hsz : ls.size = nL) (hst : st0 = As.reverse ++ .ref (E.2.2.2 b) :: rest) (hW : (rest.map fun v => v.category).sum ≤ 8) (hdg : decode cc pc = .ok (.invokevirtual index, 3)) (hf : cells ≤ R.cells ∧ slots ≤ R.slots) : va_Run p l e R s m args below meth c H locs cells slots 0 0 (F0 m pc ls st0) rest (Qc (Value.ref (E.2.2.2 b) :: As).toArray) (q_A E) :=
  va_runV S0 hM cw ⟨q_blind, va_recv F.1.1 S.1 (q0 := b) (ci := ci) (q := (C, T, N)) hc ((q_ws_get (k := b) (q_lt (by omega))).trans (by rw [q_cl_o hk hci])), fun U hU hW => ⟨rfl, by rw [hU]; exact S.1, F.1.warm hW⟩⟩ rfl hn hsz hst (lv_room hW) hdg hf
theorem q_runS {y : MethodName} {bytes : ByteArray} {maxL nL n index : Nat} {ret : Option FieldType} {ws Ts : List Cond} {rm : Room} {Qc : Array Value → State → Outcome → State → Prop} {own : String} {As : List Value} (S0 : CallFix p m c cc nL s args Ts own) (F : q_X E A s) (S : q_S E A s μ H locs) (hM : Met l y ws rm (q_Pc E μ As) Qc 0 0 (q_A E)) (cw : CallB R s args own index y bytes maxL ret ws rm 0 0 n ∧ (Cond.static y).before args s = true) (hn : As.length = n) (hsz : ls.size = nL) (hst : st0 = As.reverse ++ rest) (hW : (rest.map fun v => v.category).sum ≤ 8) (hdg : decode cc pc = .ok (.invokestatic index, 3)) (hf : cells ≤ R.cells ∧ slots ≤ R.slots) : va_Run p l e R s m args below meth c H locs cells slots 0 0 (F0 m pc ls st0) rest (Qc As.toArray) (q_A E) :=
  va_runS S0 hM cw ⟨q_blind, fun U hU hW => ⟨rfl, by rw [hU]; exact S.1, F.1.warm hW⟩⟩ rfl hn hsz hst (lv_room hW) hdg hf
theorem q_nwM {host own : String} {index : Nat} {y : MethodName} (F : q_X E A s) (h : (own, index, y, host) ∈ q_nM) : va_Nw (.methodLinkNest own index y host) s := F.1.2.2 _ h
theorem q_runVN {y : MethodName} {bytes : ByteArray} {maxL nL n index ci N b : Nat} {T : u_T} {ret : Option FieldType} {ws Ts : List Cond} {rm : Room} {Qc : Array Value → State → Outcome → State → Prop} {own C host : String} {As : List Value} (S0 : CallFix p m c cc nL s args Ts own) (F : q_X E A s) (S : q_S E A s μ H locs) (hM : Met l y ws rm (q_Pc E μ (.ref (E.2.2.2 b) :: As)) Qc 0 0 (q_A E)) (cw : va_CN R s args own index y host bytes maxL ret ws rm 0 0 n ∧ (Cond.instanceMethod y).before args s = true ∧ (Cond.selects C y y).before args s = true) (hk : q_kd b = ci) (hci : ci < 11) (hc : vwCl[ci]? = some (C, T, N)) (hn : As.length = n) (hsz : ls.size = nL) (hst : st0 = As.reverse ++ .ref (E.2.2.2 b) :: rest) (hW : (rest.map fun v => v.category).sum ≤ 8) (hdg : decode cc pc = .ok (.invokevirtual index, 3)) (hf : cells ≤ R.cells ∧ slots ≤ R.slots) : va_Run p l e R s m args below meth c H locs cells slots 0 0 (F0 m pc ls st0) rest (Qc (Value.ref (E.2.2.2 b) :: As).toArray) (q_A E) :=
  va_runVN S0 hM cw ⟨q_blind, va_recv F.1.1 S.1 (q0 := b) (ci := ci) (q := (C, T, N)) hc ((q_ws_get (k := b) (q_lt (by omega))).trans (by rw [q_cl_o hk hci])), fun U hU hW => ⟨rfl, by rw [hU]; exact S.1, F.1.warm hW⟩⟩ rfl hn hsz hst (lv_room hW) hdg hf
theorem q_runSN {y : MethodName} {bytes : ByteArray} {maxL nL n index : Nat} {ret : Option FieldType} {ws Ts : List Cond} {rm : Room} {Qc : Array Value → State → Outcome → State → Prop} {own host : String} {As : List Value} (S0 : CallFix p m c cc nL s args Ts own) (F : q_X E A s) (S : q_S E A s μ H locs) (hM : Met l y ws rm (q_Pc E μ As) Qc 0 0 (q_A E)) (cw : va_CN R s args own index y host bytes maxL ret ws rm 0 0 n ∧ (Cond.static y).before args s = true ∧ True) (hn : As.length = n) (hsz : ls.size = nL) (hst : st0 = As.reverse ++ rest) (hW : (rest.map fun v => v.category).sum ≤ 8) (hdg : decode cc pc = .ok (.invokestatic index, 3)) (hf : cells ≤ R.cells ∧ slots ≤ R.slots) : va_Run p l e R s m args below meth c H locs cells slots 0 0 (F0 m pc ls st0) rest (Qc As.toArray) (q_A E) :=
  va_runSN S0 hM cw ⟨q_blind, fun U hU hW => ⟨rfl, by rw [hU]; exact S.1, F.1.warm hW⟩⟩ rfl hn hsz hst (lv_room hW) hdg hf
theorem q_Ain {q : Nat} (F : q_X E A s) (h : q_A E q) : A q := by
  obtain ⟨k, hk, rfl⟩ := h
  exact F.2.2 k hk
theorem q_ki {r : Int32} {μ2 : q_M} {a : Array Value} (F : q_X E A s) (S : q_S E A s μ H locs) (hr : va_Run p l e R s m args below meth c H locs cells slots 0 0 (F0 m pc ls st0) rest (q_Qi E r μ2 a) (q_A E)) (kk : ∀ (H1 : Heap) (locs1 : List Loc), q_S E A s μ2 H1 locs1 → W p l e R s m args below meth c H1 locs1 cells slots Q (F0 m (pc + 3) ls (.int r :: rest))) : W p l e R s m args below meth c H locs cells slots Q (F0 m pc ls st0) := by
  refine va_calli hr S.2 (fun q _ h => q_Ain F h) (fun q h => q_Ain F h) (fun r' u t H1 locs1 ht hvm hw hB hz hk hS => ?_)
  subst hw
  exact kk H1 locs1 ⟨by rw [← ht]; exact hB, hS⟩
theorem q_kl {r : Int64} {μ2 : q_M} {a : Array Value} (F : q_X E A s) (S : q_S E A s μ H locs) (hr : va_Run p l e R s m args below meth c H locs cells slots 0 0 (F0 m pc ls st0) rest (q_Ql E r μ2 a) (q_A E)) (kk : ∀ (H1 : Heap) (locs1 : List Loc), q_S E A s μ2 H1 locs1 → W p l e R s m args below meth c H1 locs1 cells slots Q (F0 m (pc + 3) ls (.long r :: rest))) : W p l e R s m args below meth c H locs cells slots Q (F0 m pc ls st0) := by
  refine va_calll hr S.2 (fun q _ h => q_Ain F h) (fun q h => q_Ain F h) (fun r' u t H1 locs1 ht hvm hw hB hz hk hS => ?_)
  subst hw
  exact kk H1 locs1 ⟨by rw [← ht]; exact hB, hS⟩
theorem q_kv {r : Unit} {μ2 : q_M} {a : Array Value} (F : q_X E A s) (S : q_S E A s μ H locs) (hr : va_Run p l e R s m args below meth c H locs cells slots 0 0 (F0 m pc ls st0) rest (q_Qv E r μ2 a) (q_A E)) (kk : ∀ (H1 : Heap) (locs1 : List Loc), q_S E A s μ2 H1 locs1 → W p l e R s m args below meth c H1 locs1 cells slots Q (F0 m (pc + 3) ls rest)) : W p l e R s m args below meth c H locs cells slots Q (F0 m pc ls st0) := by
  refine va_callv hr S.2 (fun q _ h => q_Ain F h) (fun q h => q_Ain F h) (fun u t H1 locs1 ht hvm hw hB hz hk hS => ?_)
  exact kk H1 locs1 ⟨by rw [← ht]; exact hB, hS⟩
theorem q_kr {r : Nat} {μ2 : q_M} {a : Array Value} (F : q_X E A s) (S : q_S E A s μ H locs) (hr : va_Run p l e R s m args below meth c H locs cells slots 0 0 (F0 m pc ls st0) rest (q_Qr E r μ2 a) (q_A E)) (kk : ∀ (H1 : Heap) (locs1 : List Loc), q_S E A s μ2 H1 locs1 → W p l e R s m args below meth c H1 locs1 cells slots Q (F0 m (pc + 3) ls (.ref (E.2.2.2 r) :: rest))) : W p l e R s m args below meth c H locs cells slots Q (F0 m pc ls st0) := by
  refine va_callr hr S.2 (fun q _ h => q_Ain F h) (fun q h => q_Ain F h) (fun u a t H1 locs1 ht hvm hw hB hz hk hS => ?_)
  obtain ⟨rfl, hB⟩ := hB
  exact kk H1 locs1 ⟨by rw [← ht]; exact hB, hS⟩
end QC
def q_le {α β : Type} (v : α) (k : α → β) : β := k v
theorem q_le_e {α β : Type} {v x : α} {k : α → β} {y : β} (h : q_le v k = y) (e : x = v) : k x = y := by
  subst e
  exact h
theorem q_ip {c : Prop} [Decidable c] {α : Type} {a b y : α} (hc : c) (h : (if c then a else b) = y) : a = y := by
  rw [if_pos hc] at h
  exact h
theorem q_ig {c : Prop} [Decidable c] {α : Type} {a b y : α} (hc : ¬ c) (h : (if c then a else b) = y) : b = y := by
  rw [if_neg hc] at h
  exact h
def q_fu : Nat := 100000000
def q_ri (x y : Int32) : Int32 := x - x / y * y
def q_rl (x y : Int64) : Int64 := x - x / y * y
theorem q_k0 : q_kd 0 = 9 := by decide
theorem q_k1 : q_kd 1 = 3 := by decide
theorem q_k2 : q_kd 2 = 1 := by decide
theorem q_k3 : q_kd 3 = 2 := by decide
theorem q_k4 : q_kd 4 = 4 := by decide
theorem q_k5 : q_kd 5 = 11 := by decide
theorem q_k6 : q_kd 6 = 14 := by decide
theorem q_k7 : q_kd 7 = 15 := by decide
theorem q_k8 : q_kd 8 = 16 := by decide
theorem q_k9 : q_kd 9 = 12 := by decide
theorem q_k10 : q_kd 10 = 12 := by decide
theorem q_k11 : q_kd 11 = 12 := by decide
theorem q_k12 : q_kd 12 = 12 := by decide
theorem q_k13 : q_kd 13 = 12 := by decide
theorem q_k14 : q_kd 14 = 6 := by decide
theorem q_k15 : q_kd 15 = 6 := by decide
theorem q_k16 : q_kd 16 = 6 := by decide
theorem q_k17 : q_kd 17 = 6 := by decide
theorem q_k18 : q_kd 18 = 6 := by decide
theorem q_k19 : q_kd 19 = 6 := by decide
theorem q_k20 : q_kd 20 = 6 := by decide
theorem q_k21 : q_kd 21 = 6 := by decide
theorem q_k22 : q_kd 22 = 6 := by decide
theorem q_k23 : q_kd 23 = 6 := by decide
theorem q_k24 : q_kd 24 = 6 := by decide
theorem q_k25 : q_kd 25 = 6 := by decide
theorem q_k26 : q_kd 26 = 11 := by decide
theorem q_k27 : q_kd 27 = 11 := by decide
theorem q_k28 : q_kd 28 = 11 := by decide
theorem q_k29 : q_kd 29 = 11 := by decide
theorem q_k30 : q_kd 30 = 11 := by decide
theorem q_k31 : q_kd 31 = 11 := by decide
theorem q_k32 : q_kd 32 = 11 := by decide
theorem q_k33 : q_kd 33 = 11 := by decide
theorem q_k34 : q_kd 34 = 11 := by decide
theorem q_k35 : q_kd 35 = 11 := by decide
theorem q_k36 : q_kd 36 = 11 := by decide
theorem q_k37 : q_kd 37 = 11 := by decide
theorem q_k38 : q_kd 38 = 11 := by decide
theorem q_k39 : q_kd 39 = 11 := by decide
theorem q_k40 : q_kd 40 = 11 := by decide
theorem q_k41 : q_kd 41 = 11 := by decide
theorem q_k42 : q_kd 42 = 11 := by decide
theorem q_k43 : q_kd 43 = 11 := by decide
theorem q_k44 : q_kd 44 = 11 := by decide
theorem q_k45 : q_kd 45 = 11 := by decide
theorem q_k46 : q_kd 46 = 11 := by decide
theorem q_k47 : q_kd 47 = 11 := by decide
theorem q_k48 : q_kd 48 = 11 := by decide
theorem q_k49 : q_kd 49 = 11 := by decide
theorem q_k50 : q_kd 50 = 0 := by decide
theorem q_k51 : q_kd 51 = 0 := by decide
theorem q_k52 : q_kd 52 = 0 := by decide
theorem q_k53 : q_kd 53 = 0 := by decide
theorem q_k54 : q_kd 54 = 0 := by decide
theorem q_k55 : q_kd 55 = 0 := by decide
theorem q_k56 : q_kd 56 = 12 := by decide
theorem q_k57 : q_kd 57 = 12 := by decide
theorem q_k58 : q_kd 58 = 12 := by decide
theorem q_k59 : q_kd 59 = 12 := by decide
theorem q_k60 : q_kd 60 = 12 := by decide
theorem q_k61 : q_kd 61 = 12 := by decide
theorem q_k62 : q_kd 62 = 12 := by decide
theorem q_k63 : q_kd 63 = 12 := by decide
theorem q_k64 : q_kd 64 = 12 := by decide
theorem q_k65 : q_kd 65 = 12 := by decide
theorem q_k66 : q_kd 66 = 12 := by decide
theorem q_k67 : q_kd 67 = 12 := by decide
theorem q_k68 : q_kd 68 = 12 := by decide
theorem q_k69 : q_kd 69 = 12 := by decide
theorem q_k70 : q_kd 70 = 12 := by decide
theorem q_k71 : q_kd 71 = 12 := by decide
theorem q_k72 : q_kd 72 = 12 := by decide
theorem q_k73 : q_kd 73 = 12 := by decide
theorem q_k74 : q_kd 74 = 5 := by decide
theorem q_k75 : q_kd 75 = 5 := by decide
theorem q_k76 : q_kd 76 = 5 := by decide
theorem q_k77 : q_kd 77 = 5 := by decide
theorem q_k78 : q_kd 78 = 5 := by decide
theorem q_k79 : q_kd 79 = 5 := by decide
theorem q_k80 : q_kd 80 = 5 := by decide
theorem q_k81 : q_kd 81 = 8 := by decide
theorem q_k82 : q_kd 82 = 8 := by decide
theorem q_k83 : q_kd 83 = 8 := by decide
theorem q_k84 : q_kd 84 = 8 := by decide
theorem q_k85 : q_kd 85 = 8 := by decide
theorem q_k86 : q_kd 86 = 8 := by decide
theorem q_k87 : q_kd 87 = 8 := by decide
theorem q_k88 : q_kd 88 = 8 := by decide
theorem q_k89 : q_kd 89 = 8 := by decide
theorem q_k90 : q_kd 90 = 8 := by decide
theorem q_k91 : q_kd 91 = 8 := by decide
theorem q_k92 : q_kd 92 = 8 := by decide
theorem q_k93 : q_kd 93 = 8 := by decide
theorem q_k94 : q_kd 94 = 8 := by decide
theorem q_k95 : q_kd 95 = 8 := by decide
theorem q_k96 : q_kd 96 = 8 := by decide
theorem q_k97 : q_kd 97 = 12 := by decide
theorem q_k98 : q_kd 98 = 12 := by decide
theorem q_k99 : q_kd 99 = 12 := by decide
theorem q_k100 : q_kd 100 = 12 := by decide
theorem q_k101 : q_kd 101 = 12 := by decide
theorem q_k102 : q_kd 102 = 12 := by decide
theorem q_k103 : q_kd 103 = 12 := by decide
theorem q_k104 : q_kd 104 = 12 := by decide
theorem q_k105 : q_kd 105 = 12 := by decide
theorem q_k106 : q_kd 106 = 12 := by decide
theorem q_k107 : q_kd 107 = 12 := by decide
theorem q_k108 : q_kd 108 = 12 := by decide
theorem q_k109 : q_kd 109 = 12 := by decide
theorem q_k110 : q_kd 110 = 12 := by decide
theorem q_k111 : q_kd 111 = 12 := by decide
theorem q_k112 : q_kd 112 = 12 := by decide
theorem q_k113 : q_kd 113 = 7 := by decide
theorem q_k114 : q_kd 114 = 7 := by decide
theorem q_k115 : q_kd 115 = 7 := by decide
theorem q_k116 : q_kd 116 = 7 := by decide
theorem q_k117 : q_kd 117 = 7 := by decide
theorem q_k118 : q_kd 118 = 7 := by decide
theorem q_k119 : q_kd 119 = 7 := by decide
theorem q_k120 : q_kd 120 = 7 := by decide
theorem q_k121 : q_kd 121 = 11 := by decide
theorem q_k122 : q_kd 122 = 11 := by decide
theorem q_k123 : q_kd 123 = 11 := by decide
theorem q_k124 : q_kd 124 = 11 := by decide
theorem q_k125 : q_kd 125 = 11 := by decide
theorem q_k126 : q_kd 126 = 11 := by decide
theorem q_k127 : q_kd 127 = 11 := by decide
theorem q_k128 : q_kd 128 = 11 := by decide
theorem q_k129 : q_kd 129 = 11 := by decide
theorem q_k130 : q_kd 130 = 11 := by decide
theorem q_k131 : q_kd 131 = 11 := by decide
theorem q_k132 : q_kd 132 = 11 := by decide
theorem q_k133 : q_kd 133 = 11 := by decide
theorem q_k134 : q_kd 134 = 11 := by decide
theorem q_k135 : q_kd 135 = 11 := by decide
theorem q_k136 : q_kd 136 = 11 := by decide
theorem q_k137 : q_kd 137 = 10 := by decide
theorem q_k138 : q_kd 138 = 11 := by decide
theorem q_k139 : q_kd 139 = 11 := by decide
theorem q_k140 : q_kd 140 = 11 := by decide
theorem q_k141 : q_kd 141 = 11 := by decide
theorem q_k142 : q_kd 142 = 11 := by decide
theorem q_k143 : q_kd 143 = 13 := by decide
theorem q_k144 : q_kd 144 = 11 := by decide
theorem q_k145 : q_kd 145 = 11 := by decide
theorem q_k146 : q_kd 146 = 11 := by decide
theorem q_k147 : q_kd 147 = 11 := by decide
theorem q_k148 : q_kd 148 = 13 := by decide
theorem q_k149 : q_kd 149 = 13 := by decide
theorem q_k150 : q_kd 150 = 11 := by decide
theorem q_k151 : q_kd 151 = 11 := by decide
theorem q_k152 : q_kd 152 = 11 := by decide
theorem q_k153 : q_kd 153 = 11 := by decide
theorem q_k154 : q_kd 154 = 11 := by decide
theorem q_k155 : q_kd 155 = 11 := by decide
theorem q_k156 : q_kd 156 = 11 := by decide
theorem q_k157 : q_kd 157 = 11 := by decide
theorem q_k158 : q_kd 158 = 11 := by decide
theorem q_k159 : q_kd 159 = 11 := by decide
theorem q_k160 : q_kd 160 = 13 := by decide
theorem q_k161 : q_kd 161 = 11 := by decide
theorem q_k162 : q_kd 162 = 13 := by decide
theorem q_k163 : q_kd 163 = 11 := by decide
theorem q_k164 : q_kd 164 = 11 := by decide
theorem q_n5 : q_len 5 = 50 := by decide
theorem q_n6 : q_len 6 = 12 := by decide
theorem q_n7 : q_len 7 = 6 := by decide
theorem q_n8 : q_len 8 = 5 := by decide
theorem q_n9 : q_len 9 = 5 := by decide
theorem q_n10 : q_len 10 = 5 := by decide
theorem q_n11 : q_len 11 = 6 := by decide
theorem q_n12 : q_len 12 = 6 := by decide
theorem q_n13 : q_len 13 = 6 := by decide
theorem q_n26 : q_len 26 = 3 := by decide
theorem q_n27 : q_len 27 = 3 := by decide
theorem q_n28 : q_len 28 = 3 := by decide
theorem q_n29 : q_len 29 = 3 := by decide
theorem q_n30 : q_len 30 = 3 := by decide
theorem q_n31 : q_len 31 = 3 := by decide
theorem q_n32 : q_len 32 = 3 := by decide
theorem q_n33 : q_len 33 = 3 := by decide
theorem q_n34 : q_len 34 = 3 := by decide
theorem q_n35 : q_len 35 = 3 := by decide
theorem q_n36 : q_len 36 = 3 := by decide
theorem q_n37 : q_len 37 = 3 := by decide
theorem q_n38 : q_len 38 = 3 := by decide
theorem q_n39 : q_len 39 = 3 := by decide
theorem q_n40 : q_len 40 = 3 := by decide
theorem q_n41 : q_len 41 = 3 := by decide
theorem q_n42 : q_len 42 = 3 := by decide
theorem q_n43 : q_len 43 = 3 := by decide
theorem q_n44 : q_len 44 = 3 := by decide
theorem q_n45 : q_len 45 = 3 := by decide
theorem q_n46 : q_len 46 = 3 := by decide
theorem q_n47 : q_len 47 = 3 := by decide
theorem q_n48 : q_len 48 = 3 := by decide
theorem q_n49 : q_len 49 = 3 := by decide
theorem q_n56 : q_len 56 = 6 := by decide
theorem q_n57 : q_len 57 = 6 := by decide
theorem q_n58 : q_len 58 = 6 := by decide
theorem q_n59 : q_len 59 = 6 := by decide
theorem q_n60 : q_len 60 = 6 := by decide
theorem q_n61 : q_len 61 = 6 := by decide
theorem q_n62 : q_len 62 = 6 := by decide
theorem q_n63 : q_len 63 = 6 := by decide
theorem q_n64 : q_len 64 = 6 := by decide
theorem q_n65 : q_len 65 = 6 := by decide
theorem q_n66 : q_len 66 = 6 := by decide
theorem q_n67 : q_len 67 = 6 := by decide
theorem q_n68 : q_len 68 = 6 := by decide
theorem q_n69 : q_len 69 = 6 := by decide
theorem q_n70 : q_len 70 = 6 := by decide
theorem q_n71 : q_len 71 = 6 := by decide
theorem q_n72 : q_len 72 = 6 := by decide
theorem q_n73 : q_len 73 = 6 := by decide
theorem q_n97 : q_len 97 = 5 := by decide
theorem q_n98 : q_len 98 = 5 := by decide
theorem q_n99 : q_len 99 = 5 := by decide
theorem q_n100 : q_len 100 = 5 := by decide
theorem q_n101 : q_len 101 = 5 := by decide
theorem q_n102 : q_len 102 = 5 := by decide
theorem q_n103 : q_len 103 = 5 := by decide
theorem q_n104 : q_len 104 = 5 := by decide
theorem q_n105 : q_len 105 = 5 := by decide
theorem q_n106 : q_len 106 = 5 := by decide
theorem q_n107 : q_len 107 = 5 := by decide
theorem q_n108 : q_len 108 = 5 := by decide
theorem q_n109 : q_len 109 = 5 := by decide
theorem q_n110 : q_len 110 = 5 := by decide
theorem q_n111 : q_len 111 = 5 := by decide
theorem q_n112 : q_len 112 = 5 := by decide
theorem q_n121 : q_len 121 = 6 := by decide
theorem q_n122 : q_len 122 = 6 := by decide
theorem q_n123 : q_len 123 = 6 := by decide
theorem q_n124 : q_len 124 = 6 := by decide
theorem q_n125 : q_len 125 = 6 := by decide
theorem q_n126 : q_len 126 = 6 := by decide
theorem q_n127 : q_len 127 = 6 := by decide
theorem q_n128 : q_len 128 = 6 := by decide
theorem q_n129 : q_len 129 = 6 := by decide
theorem q_n130 : q_len 130 = 6 := by decide
theorem q_n131 : q_len 131 = 6 := by decide
theorem q_n132 : q_len 132 = 6 := by decide
theorem q_n133 : q_len 133 = 6 := by decide
theorem q_n134 : q_len 134 = 6 := by decide
theorem q_n135 : q_len 135 = 6 := by decide
theorem q_n136 : q_len 136 = 6 := by decide
theorem q_n138 : q_len 138 = 12 := by decide
theorem q_n139 : q_len 139 = 12 := by decide
theorem q_n140 : q_len 140 = 12 := by decide
theorem q_n141 : q_len 141 = 12 := by decide
theorem q_n142 : q_len 142 = 12 := by decide
theorem q_n143 : q_len 143 = 12 := by decide
theorem q_n144 : q_len 144 = 12 := by decide
theorem q_n145 : q_len 145 = 12 := by decide
theorem q_n146 : q_len 146 = 36 := by decide
theorem q_n147 : q_len 147 = 36 := by decide
theorem q_n148 : q_len 148 = 144 := by decide
theorem q_n149 : q_len 149 = 6 := by decide
theorem q_n150 : q_len 150 = 6 := by decide
theorem q_n151 : q_len 151 = 36 := by decide
theorem q_n152 : q_len 152 = 36 := by decide
theorem q_n153 : q_len 153 = 36 := by decide
theorem q_n154 : q_len 154 = 5 := by decide
theorem q_n155 : q_len 155 = 5 := by decide
theorem q_n156 : q_len 156 = 60 := by decide
theorem q_n157 : q_len 157 = 5 := by decide
theorem q_n158 : q_len 158 = 50 := by decide
theorem q_n159 : q_len 159 = 12 := by decide
theorem q_n160 : q_len 160 = 7 := by decide
theorem q_n161 : q_len 161 = 12 := by decide
theorem q_n162 : q_len 162 = 12 := by decide
theorem q_n163 : q_len 163 = 13 := by decide
theorem q_n164 : q_len 164 = 13 := by decide
theorem q_p_6_9 {a : Nat} (h : q_kd a = 6) : q_pt a 9 = a + 12 := by simp [q_pt, h]
theorem q_k_6_9 {a : Nat} (h : q_kd a = 6) : q_kd (a + 12) = 11 := by rw [← q_p_6_9 h]; exact q_pk h (by decide) (by decide) rfl rfl
theorem q_n_6_9 {a : Nat} (h : q_kd a = 6) : q_len (a + 12) = 3 := by rw [← q_p_6_9 h]; exact q_pl h (by decide) (by decide) rfl (by decide) rfl
theorem q_p_6_10 {a : Nat} (h : q_kd a = 6) : q_pt a 10 = a + 24 := by simp [q_pt, h]
theorem q_k_6_10 {a : Nat} (h : q_kd a = 6) : q_kd (a + 24) = 11 := by rw [← q_p_6_10 h]; exact q_pk h (by decide) (by decide) rfl rfl
theorem q_n_6_10 {a : Nat} (h : q_kd a = 6) : q_len (a + 24) = 3 := by rw [← q_p_6_10 h]; exact q_pl h (by decide) (by decide) rfl (by decide) rfl
theorem q_p_0_2 {a : Nat} (h : q_kd a = 0) : q_pt a 2 = a + 6 := by simp [q_pt, h]
theorem q_k_0_2 {a : Nat} (h : q_kd a = 0) : q_kd (a + 6) = 12 := by rw [← q_p_0_2 h]; exact q_pk h (by decide) (by decide) rfl rfl
theorem q_n_0_2 {a : Nat} (h : q_kd a = 0) : q_len (a + 6) = 6 := by rw [← q_p_0_2 h]; exact q_pl h (by decide) (by decide) rfl (by decide) rfl
theorem q_p_0_3 {a : Nat} (h : q_kd a = 0) : q_pt a 3 = a + 12 := by simp [q_pt, h]
theorem q_k_0_3 {a : Nat} (h : q_kd a = 0) : q_kd (a + 12) = 12 := by rw [← q_p_0_3 h]; exact q_pk h (by decide) (by decide) rfl rfl
theorem q_n_0_3 {a : Nat} (h : q_kd a = 0) : q_len (a + 12) = 6 := by rw [← q_p_0_3 h]; exact q_pl h (by decide) (by decide) rfl (by decide) rfl
theorem q_p_0_4 {a : Nat} (h : q_kd a = 0) : q_pt a 4 = a + 18 := by simp [q_pt, h]
theorem q_k_0_4 {a : Nat} (h : q_kd a = 0) : q_kd (a + 18) = 12 := by rw [← q_p_0_4 h]; exact q_pk h (by decide) (by decide) rfl rfl
theorem q_n_0_4 {a : Nat} (h : q_kd a = 0) : q_len (a + 18) = 6 := by rw [← q_p_0_4 h]; exact q_pl h (by decide) (by decide) rfl (by decide) rfl
theorem q_p_0_5 {a : Nat} (h : q_kd a = 0) : q_pt a 5 = a + 24 := by simp [q_pt, h]
theorem q_k_0_5 {a : Nat} (h : q_kd a = 0) : q_kd (a + 24) = 5 := by rw [← q_p_0_5 h]; exact q_pk h (by decide) (by decide) rfl rfl
theorem q_p_5_0 {a : Nat} (h : q_kd a = 5) : q_pt a 0 = a + 7 := by simp [q_pt, h]
theorem q_k_5_0 {a : Nat} (h : q_kd a = 5) : q_kd (a + 7) = 8 := by rw [← q_p_5_0 h]; exact q_pk h (by decide) (by decide) rfl rfl
theorem q_p_5_1 {a : Nat} (h : q_kd a = 5) : q_pt a 1 = a + 14 := by simp [q_pt, h]
theorem q_k_5_1 {a : Nat} (h : q_kd a = 5) : q_kd (a + 14) = 8 := by rw [← q_p_5_1 h]; exact q_pk h (by decide) (by decide) rfl rfl
theorem q_p_8_0 {a : Nat} (h : q_kd a = 8) : q_pt a 0 = a + 16 := by simp [q_pt, h]
theorem q_k_8_0 {a : Nat} (h : q_kd a = 8) : q_kd (a + 16) = 12 := by rw [← q_p_8_0 h]; exact q_pk h (by decide) (by decide) rfl rfl
theorem q_n_8_0 {a : Nat} (h : q_kd a = 8) : q_len (a + 16) = 5 := by rw [← q_p_8_0 h]; exact q_pl h (by decide) (by decide) rfl (by decide) rfl
theorem q_p_7_0 {a : Nat} (h : q_kd a = 7) : q_pt a 0 = a + 8 := by simp [q_pt, h]
theorem q_k_7_0 {a : Nat} (h : q_kd a = 7) : q_kd (a + 8) = 11 := by rw [← q_p_7_0 h]; exact q_pk h (by decide) (by decide) rfl rfl
theorem q_n_7_0 {a : Nat} (h : q_kd a = 7) : q_len (a + 8) = 6 := by rw [← q_p_7_0 h]; exact q_pl h (by decide) (by decide) rfl (by decide) rfl
theorem q_p_7_1 {a : Nat} (h : q_kd a = 7) : q_pt a 1 = a + 16 := by simp [q_pt, h]
theorem q_k_7_1 {a : Nat} (h : q_kd a = 7) : q_kd (a + 16) = 11 := by rw [← q_p_7_1 h]; exact q_pk h (by decide) (by decide) rfl rfl
theorem q_n_7_1 {a : Nat} (h : q_kd a = 7) : q_len (a + 16) = 6 := by rw [← q_p_7_1 h]; exact q_pl h (by decide) (by decide) rfl (by decide) rfl
theorem q_pe14 (i : Nat) : q_pt 6 i = 14 + i := by simp [q_pt, q_k6]
theorem q_ee14 : ∀ i, i < 12 → q_kd (14 + i) = 6 := by decide
theorem q_e14 {i : Int32} (h : q_ix i 12 = true) : q_kd (14 + i.toNatClampNeg) = 6 := q_ee14 _ (Nat.not_le.mp (fun q => of_decide_eq_true h (Or.inr q)))
theorem q_pe15 (i : Nat) : q_pt 7 i = 50 + i := by simp [q_pt, q_k7]
theorem q_ee15 : ∀ i, i < 6 → q_kd (50 + i) = 0 := by decide
theorem q_e15 {i : Int32} (h : q_ix i 6 = true) : q_kd (50 + i.toNatClampNeg) = 0 := q_ee15 _ (Nat.not_le.mp (fun q => of_decide_eq_true h (Or.inr q)))
theorem q_pe16 (i : Nat) : q_pt 8 i = 113 + i := by simp [q_pt, q_k8]
theorem q_ee16 : ∀ i, i < 5 → q_kd (113 + i) = 7 := by decide
theorem q_e16 {i : Int32} (h : q_ix i 5 = true) : q_kd (113 + i.toNatClampNeg) = 7 := q_ee16 _ (Nat.not_le.mp (fun q => of_decide_eq_true h (Or.inr q)))
end
section
set_option maxRecDepth 20000 in
theorem ggX0_init_X5_init : GoodIn wsX0_init wsX5_init := goodIn_r _ [14, 15, 2, 3, 16, 17, 18, 19, 20, 21, 22, 23, 4, 24, 25, 26, 27, 28, 39, 37, 38] (by decide +kernel) (by decide +kernel)
set_option maxRecDepth 20000 in
theorem gX0_init_X5_init : GoodIn wsX0_init (wsX5_init) := ggX0_init_X5_init
theorem dX0_init_0 : decode cX0_init 0 = .ok (.aload_n 0, 1) := by decide +kernel
theorem dX0_init_1 : decode cX0_init 1 = .ok (.invokespecial 3, 3) := by decide +kernel
theorem dX0_init_4 : decode cX0_init 4 = .ok (.aload_n 0, 1) := by decide +kernel
theorem dX0_init_5 : decode cX0_init 5 = .ok (.bipush 6, 2) := by decide +kernel
theorem dX0_init_7 : decode cX0_init 7 = .ok (.newarray .long, 2) := by decide +kernel
theorem dX0_init_9 : decode cX0_init 9 = .ok (.putfield 9, 3) := by decide +kernel
theorem dX0_init_12 : decode cX0_init 12 = .ok (.aload_n 0, 1) := by decide +kernel
theorem dX0_init_13 : decode cX0_init 13 = .ok (.bipush 6, 2) := by decide +kernel
theorem dX0_init_15 : decode cX0_init 15 = .ok (.newarray .long, 2) := by decide +kernel
theorem dX0_init_17 : decode cX0_init 17 = .ok (.putfield 15, 3) := by decide +kernel
theorem dX0_init_20 : decode cX0_init 20 = .ok (.aload_n 0, 1) := by decide +kernel
theorem dX0_init_21 : decode cX0_init 21 = .ok (.bipush 6, 2) := by decide +kernel
theorem dX0_init_23 : decode cX0_init 23 = .ok (.newarray .long, 2) := by decide +kernel
theorem dX0_init_25 : decode cX0_init 25 = .ok (.putfield 18, 3) := by decide +kernel
theorem dX0_init_28 : decode cX0_init 28 = .ok (.aload_n 0, 1) := by decide +kernel
theorem dX0_init_29 : decode cX0_init 29 = .ok (.new 21, 3) := by decide +kernel
theorem dX0_init_32 : decode cX0_init 32 = .ok (.dup, 1) := by decide +kernel
theorem dX0_init_33 : decode cX0_init 33 = .ok (.invokespecial 23, 3) := by decide +kernel
theorem dX0_init_36 : decode cX0_init 36 = .ok (.putfield 24, 3) := by decide +kernel
theorem dX0_init_39 : decode cX0_init 39 = .ok (.return_, 1) := by decide +kernel
set_option maxRecDepth 20000 in
theorem ggX0_canTakeCorner_X9_isWithin : GoodIn wsX0_canTakeCorner wsX9_isWithin := goodIn_r _ [6] (by decide +kernel) (by decide +kernel)
set_option maxRecDepth 20000 in
theorem gX0_canTakeCorner_X9_isWithin_n34 : GoodIn wsX0_canTakeCorner (wsX9_isWithin) := ggX0_canTakeCorner_X9_isWithin
theorem dX0_canTakeCorner_0 : decode cX0_canTakeCorner 0 = .ok (.aload_n 0, 1) := by decide +kernel
theorem dX0_canTakeCorner_1 : decode cX0_canTakeCorner 1 = .ok (.getfield 28, 3) := by decide +kernel
theorem dX0_canTakeCorner_4 : decode cX0_canTakeCorner 4 = .ok (.bipush 6, 2) := by decide +kernel
theorem dX0_canTakeCorner_6 : decode cX0_canTakeCorner 6 = .ok (.if_icmp .ge 14, 3) := by decide +kernel
theorem dX0_canTakeCorner_9 : decode cX0_canTakeCorner 9 = .ok (.lload_n 1, 1) := by decide +kernel
theorem dX0_canTakeCorner_10 : decode cX0_canTakeCorner 10 = .ok (.lconst 0, 1) := by decide +kernel
theorem dX0_canTakeCorner_11 : decode cX0_canTakeCorner 11 = .ok (.ldc2_w 32, 3) := by decide +kernel
theorem dX0_canTakeCorner_14 : decode cX0_canTakeCorner 14 = .ok (.invokestatic 34, 3) := by decide +kernel
theorem dX0_canTakeCorner_17 : decode cX0_canTakeCorner 17 = .ok (.ifCond .ne 5, 3) := by decide +kernel
theorem dX0_canTakeCorner_20 : decode cX0_canTakeCorner 20 = .ok (.iconst 0, 1) := by decide +kernel
theorem dX0_canTakeCorner_21 : decode cX0_canTakeCorner 21 = .ok (.ireturn, 1) := by decide +kernel
theorem dX0_canTakeCorner_22 : decode cX0_canTakeCorner 22 = .ok (.aload_n 0, 1) := by decide +kernel
theorem dX0_canTakeCorner_23 : decode cX0_canTakeCorner 23 = .ok (.getfield 28, 3) := by decide +kernel
theorem dX0_canTakeCorner_26 : decode cX0_canTakeCorner 26 = .ok (.ifCond .eq 19, 3) := by decide +kernel
theorem dX0_canTakeCorner_29 : decode cX0_canTakeCorner 29 = .ok (.lload_n 1, 1) := by decide +kernel
theorem dX0_canTakeCorner_30 : decode cX0_canTakeCorner 30 = .ok (.aload_n 0, 1) := by decide +kernel
theorem dX0_canTakeCorner_31 : decode cX0_canTakeCorner 31 = .ok (.getfield 9, 3) := by decide +kernel
theorem dX0_canTakeCorner_34 : decode cX0_canTakeCorner 34 = .ok (.aload_n 0, 1) := by decide +kernel
theorem dX0_canTakeCorner_35 : decode cX0_canTakeCorner 35 = .ok (.getfield 28, 3) := by decide +kernel
theorem dX0_canTakeCorner_38 : decode cX0_canTakeCorner 38 = .ok (.iconst 1, 1) := by decide +kernel
theorem dX0_canTakeCorner_39 : decode cX0_canTakeCorner 39 = .ok (.isub, 1) := by decide +kernel
theorem dX0_canTakeCorner_40 : decode cX0_canTakeCorner 40 = .ok (.laload, 1) := by decide +kernel
theorem dX0_canTakeCorner_41 : decode cX0_canTakeCorner 41 = .ok (.lcmp, 1) := by decide +kernel
theorem dX0_canTakeCorner_42 : decode cX0_canTakeCorner 42 = .ok (.ifCond .le 7, 3) := by decide +kernel
theorem dX0_canTakeCorner_45 : decode cX0_canTakeCorner 45 = .ok (.iconst 1, 1) := by decide +kernel
theorem dX0_canTakeCorner_46 : decode cX0_canTakeCorner 46 = .ok (.goto 4, 3) := by decide +kernel
theorem dX0_canTakeCorner_49 : decode cX0_canTakeCorner 49 = .ok (.iconst 0, 1) := by decide +kernel
theorem dX0_canTakeCorner_50 : decode cX0_canTakeCorner 50 = .ok (.ireturn, 1) := by decide +kernel
theorem dX0_addCorner_0 : decode cX0_addCorner 0 = .ok (.aload_n 0, 1) := by decide +kernel
theorem dX0_addCorner_1 : decode cX0_addCorner 1 = .ok (.getfield 28, 3) := by decide +kernel
theorem dX0_addCorner_4 : decode cX0_addCorner 4 = .ok (.bipush 6, 2) := by decide +kernel
theorem dX0_addCorner_6 : decode cX0_addCorner 6 = .ok (.if_icmp .lt 4, 3) := by decide +kernel
theorem dX0_addCorner_9 : decode cX0_addCorner 9 = .ok (.return_, 1) := by decide +kernel
theorem dX0_addCorner_10 : decode cX0_addCorner 10 = .ok (.aload_n 0, 1) := by decide +kernel
theorem dX0_addCorner_11 : decode cX0_addCorner 11 = .ok (.getfield 9, 3) := by decide +kernel
theorem dX0_addCorner_14 : decode cX0_addCorner 14 = .ok (.aload_n 0, 1) := by decide +kernel
theorem dX0_addCorner_15 : decode cX0_addCorner 15 = .ok (.getfield 28, 3) := by decide +kernel
theorem dX0_addCorner_18 : decode cX0_addCorner 18 = .ok (.lload_n 1, 1) := by decide +kernel
theorem dX0_addCorner_19 : decode cX0_addCorner 19 = .ok (.lastore, 1) := by decide +kernel
theorem dX0_addCorner_20 : decode cX0_addCorner 20 = .ok (.aload_n 0, 1) := by decide +kernel
theorem dX0_addCorner_21 : decode cX0_addCorner 21 = .ok (.getfield 15, 3) := by decide +kernel
theorem dX0_addCorner_24 : decode cX0_addCorner 24 = .ok (.aload_n 0, 1) := by decide +kernel
theorem dX0_addCorner_25 : decode cX0_addCorner 25 = .ok (.getfield 28, 3) := by decide +kernel
theorem dX0_addCorner_28 : decode cX0_addCorner 28 = .ok (.lload_n 3, 1) := by decide +kernel
theorem dX0_addCorner_29 : decode cX0_addCorner 29 = .ok (.lastore, 1) := by decide +kernel
theorem dX0_addCorner_30 : decode cX0_addCorner 30 = .ok (.aload_n 0, 1) := by decide +kernel
theorem dX0_addCorner_31 : decode cX0_addCorner 31 = .ok (.getfield 18, 3) := by decide +kernel
theorem dX0_addCorner_34 : decode cX0_addCorner 34 = .ok (.aload_n 0, 1) := by decide +kernel
theorem dX0_addCorner_35 : decode cX0_addCorner 35 = .ok (.getfield 28, 3) := by decide +kernel
theorem dX0_addCorner_38 : decode cX0_addCorner 38 = .ok (.lload 5, 2) := by decide +kernel
theorem dX0_addCorner_40 : decode cX0_addCorner 40 = .ok (.lastore, 1) := by decide +kernel
theorem dX0_addCorner_41 : decode cX0_addCorner 41 = .ok (.aload_n 0, 1) := by decide +kernel
theorem dX0_addCorner_42 : decode cX0_addCorner 42 = .ok (.dup, 1) := by decide +kernel
theorem dX0_addCorner_43 : decode cX0_addCorner 43 = .ok (.getfield 28, 3) := by decide +kernel
theorem dX0_addCorner_46 : decode cX0_addCorner 46 = .ok (.iconst 1, 1) := by decide +kernel
theorem dX0_addCorner_47 : decode cX0_addCorner 47 = .ok (.iadd, 1) := by decide +kernel
theorem dX0_addCorner_48 : decode cX0_addCorner 48 = .ok (.putfield 28, 3) := by decide +kernel
theorem dX0_addCorner_51 : decode cX0_addCorner 51 = .ok (.return_, 1) := by decide +kernel
theorem dX0_gapBehind_0 : decode cX0_gapBehind 0 = .ok (.iload_n 1, 1) := by decide +kernel
theorem dX0_gapBehind_1 : decode cX0_gapBehind 1 = .ok (.ifCond .lt 31, 3) := by decide +kernel
theorem dX0_gapBehind_4 : decode cX0_gapBehind 4 = .ok (.iload_n 1, 1) := by decide +kernel
theorem dX0_gapBehind_5 : decode cX0_gapBehind 5 = .ok (.iconst 1, 1) := by decide +kernel
theorem dX0_gapBehind_6 : decode cX0_gapBehind 6 = .ok (.iadd, 1) := by decide +kernel
theorem dX0_gapBehind_7 : decode cX0_gapBehind 7 = .ok (.aload_n 0, 1) := by decide +kernel
theorem dX0_gapBehind_8 : decode cX0_gapBehind 8 = .ok (.getfield 28, 3) := by decide +kernel
theorem dX0_gapBehind_11 : decode cX0_gapBehind 11 = .ok (.if_icmp .ge 21, 3) := by decide +kernel
theorem dX0_gapBehind_14 : decode cX0_gapBehind 14 = .ok (.aload_n 0, 1) := by decide +kernel
theorem dX0_gapBehind_15 : decode cX0_gapBehind 15 = .ok (.getfield 9, 3) := by decide +kernel
theorem dX0_gapBehind_18 : decode cX0_gapBehind 18 = .ok (.iload_n 1, 1) := by decide +kernel
theorem dX0_gapBehind_19 : decode cX0_gapBehind 19 = .ok (.iconst 1, 1) := by decide +kernel
theorem dX0_gapBehind_20 : decode cX0_gapBehind 20 = .ok (.iadd, 1) := by decide +kernel
theorem dX0_gapBehind_21 : decode cX0_gapBehind 21 = .ok (.laload, 1) := by decide +kernel
theorem dX0_gapBehind_22 : decode cX0_gapBehind 22 = .ok (.aload_n 0, 1) := by decide +kernel
theorem dX0_gapBehind_23 : decode cX0_gapBehind 23 = .ok (.getfield 9, 3) := by decide +kernel
theorem dX0_gapBehind_26 : decode cX0_gapBehind 26 = .ok (.iload_n 1, 1) := by decide +kernel
theorem dX0_gapBehind_27 : decode cX0_gapBehind 27 = .ok (.laload, 1) := by decide +kernel
theorem dX0_gapBehind_28 : decode cX0_gapBehind 28 = .ok (.lsub, 1) := by decide +kernel
theorem dX0_gapBehind_29 : decode cX0_gapBehind 29 = .ok (.goto 4, 3) := by decide +kernel
theorem dX0_gapBehind_32 : decode cX0_gapBehind 32 = .ok (.lconst 1, 1) := by decide +kernel
theorem dX0_gapBehind_33 : decode cX0_gapBehind 33 = .ok (.lreturn, 1) := by decide +kernel
theorem dX2_init_0 : decode cX2_init 0 = .ok (.aload_n 0, 1) := by decide +kernel
theorem dX2_init_1 : decode cX2_init 1 = .ok (.invokespecial 3, 3) := by decide +kernel
theorem dX2_init_4 : decode cX2_init 4 = .ok (.aload_n 0, 1) := by decide +kernel
theorem dX2_init_5 : decode cX2_init 5 = .ok (.iconst 1, 1) := by decide +kernel
theorem dX2_init_6 : decode cX2_init 6 = .ok (.putfield 9, 3) := by decide +kernel
theorem dX2_init_9 : decode cX2_init 9 = .ok (.aload_n 0, 1) := by decide +kernel
theorem dX2_init_10 : decode cX2_init 10 = .ok (.iconst 1, 1) := by decide +kernel
theorem dX2_init_11 : decode cX2_init 11 = .ok (.putfield 15, 3) := by decide +kernel
theorem dX2_init_14 : decode cX2_init 14 = .ok (.aload_n 0, 1) := by decide +kernel
theorem dX2_init_15 : decode cX2_init 15 = .ok (.iconst 5, 1) := by decide +kernel
theorem dX2_init_16 : decode cX2_init 16 = .ok (.newarray .long, 2) := by decide +kernel
theorem dX2_init_18 : decode cX2_init 18 = .ok (.putfield 18, 3) := by decide +kernel
theorem dX2_init_21 : decode cX2_init 21 = .ok (.aload_n 0, 1) := by decide +kernel
theorem dX2_init_22 : decode cX2_init 22 = .ok (.iconst 5, 1) := by decide +kernel
theorem dX2_init_23 : decode cX2_init 23 = .ok (.newarray .long, 2) := by decide +kernel
theorem dX2_init_25 : decode cX2_init 25 = .ok (.putfield 22, 3) := by decide +kernel
theorem dX2_init_28 : decode cX2_init 28 = .ok (.return_, 1) := by decide +kernel
set_option maxRecDepth 20000 in
theorem ggX2_canTakeAxle_X9_isWithin : GoodIn wsX2_canTakeAxle wsX9_isWithin := goodIn_r _ [5] (by decide +kernel) (by decide +kernel)
set_option maxRecDepth 20000 in
theorem gX2_canTakeAxle_X9_isWithin_n30 : GoodIn wsX2_canTakeAxle (wsX9_isWithin) := ggX2_canTakeAxle_X9_isWithin
theorem dX2_canTakeAxle_0 : decode cX2_canTakeAxle 0 = .ok (.aload_n 0, 1) := by decide +kernel
theorem dX2_canTakeAxle_1 : decode cX2_canTakeAxle 1 = .ok (.getfield 25, 3) := by decide +kernel
theorem dX2_canTakeAxle_4 : decode cX2_canTakeAxle 4 = .ok (.ifCond .ne 15, 3) := by decide +kernel
theorem dX2_canTakeAxle_7 : decode cX2_canTakeAxle 7 = .ok (.lload_n 1, 1) := by decide +kernel
theorem dX2_canTakeAxle_8 : decode cX2_canTakeAxle 8 = .ok (.lconst 0, 1) := by decide +kernel
theorem dX2_canTakeAxle_9 : decode cX2_canTakeAxle 9 = .ok (.lcmp, 1) := by decide +kernel
theorem dX2_canTakeAxle_10 : decode cX2_canTakeAxle 10 = .ok (.ifCond .ne 7, 3) := by decide +kernel
theorem dX2_canTakeAxle_13 : decode cX2_canTakeAxle 13 = .ok (.iconst 1, 1) := by decide +kernel
theorem dX2_canTakeAxle_14 : decode cX2_canTakeAxle 14 = .ok (.goto 4, 3) := by decide +kernel
theorem dX2_canTakeAxle_17 : decode cX2_canTakeAxle 17 = .ok (.iconst 0, 1) := by decide +kernel
theorem dX2_canTakeAxle_18 : decode cX2_canTakeAxle 18 = .ok (.ireturn, 1) := by decide +kernel
theorem dX2_canTakeAxle_19 : decode cX2_canTakeAxle 19 = .ok (.aload_n 0, 1) := by decide +kernel
theorem dX2_canTakeAxle_20 : decode cX2_canTakeAxle 20 = .ok (.getfield 25, 3) := by decide +kernel
theorem dX2_canTakeAxle_23 : decode cX2_canTakeAxle 23 = .ok (.iconst 5, 1) := by decide +kernel
theorem dX2_canTakeAxle_24 : decode cX2_canTakeAxle 24 = .ok (.if_icmp .ge 18, 3) := by decide +kernel
theorem dX2_canTakeAxle_27 : decode cX2_canTakeAxle 27 = .ok (.lload_n 1, 1) := by decide +kernel
theorem dX2_canTakeAxle_28 : decode cX2_canTakeAxle 28 = .ok (.lconst 1, 1) := by decide +kernel
theorem dX2_canTakeAxle_29 : decode cX2_canTakeAxle 29 = .ok (.ldc2_w 28, 3) := by decide +kernel
theorem dX2_canTakeAxle_32 : decode cX2_canTakeAxle 32 = .ok (.invokestatic 30, 3) := by decide +kernel
theorem dX2_canTakeAxle_35 : decode cX2_canTakeAxle 35 = .ok (.ifCond .eq 7, 3) := by decide +kernel
theorem dX2_canTakeAxle_38 : decode cX2_canTakeAxle 38 = .ok (.iconst 1, 1) := by decide +kernel
theorem dX2_canTakeAxle_39 : decode cX2_canTakeAxle 39 = .ok (.goto 4, 3) := by decide +kernel
theorem dX2_canTakeAxle_42 : decode cX2_canTakeAxle 42 = .ok (.iconst 0, 1) := by decide +kernel
theorem dX2_canTakeAxle_43 : decode cX2_canTakeAxle 43 = .ok (.ireturn, 1) := by decide +kernel
theorem dX2_addAxle_0 : decode cX2_addAxle 0 = .ok (.aload_n 0, 1) := by decide +kernel
theorem dX2_addAxle_1 : decode cX2_addAxle 1 = .ok (.getfield 25, 3) := by decide +kernel
theorem dX2_addAxle_4 : decode cX2_addAxle 4 = .ok (.iconst 5, 1) := by decide +kernel
theorem dX2_addAxle_5 : decode cX2_addAxle 5 = .ok (.if_icmp .lt 4, 3) := by decide +kernel
theorem dX2_addAxle_8 : decode cX2_addAxle 8 = .ok (.return_, 1) := by decide +kernel
theorem dX2_addAxle_9 : decode cX2_addAxle 9 = .ok (.aload_n 0, 1) := by decide +kernel
theorem dX2_addAxle_10 : decode cX2_addAxle 10 = .ok (.getfield 18, 3) := by decide +kernel
theorem dX2_addAxle_13 : decode cX2_addAxle 13 = .ok (.aload_n 0, 1) := by decide +kernel
theorem dX2_addAxle_14 : decode cX2_addAxle 14 = .ok (.getfield 25, 3) := by decide +kernel
theorem dX2_addAxle_17 : decode cX2_addAxle 17 = .ok (.aload_n 0, 1) := by decide +kernel
theorem dX2_addAxle_18 : decode cX2_addAxle 18 = .ok (.getfield 25, 3) := by decide +kernel
theorem dX2_addAxle_21 : decode cX2_addAxle 21 = .ok (.ifCond .ne 7, 3) := by decide +kernel
theorem dX2_addAxle_24 : decode cX2_addAxle 24 = .ok (.lconst 0, 1) := by decide +kernel
theorem dX2_addAxle_25 : decode cX2_addAxle 25 = .ok (.goto 16, 3) := by decide +kernel
theorem dX2_addAxle_28 : decode cX2_addAxle 28 = .ok (.aload_n 0, 1) := by decide +kernel
theorem dX2_addAxle_29 : decode cX2_addAxle 29 = .ok (.getfield 18, 3) := by decide +kernel
theorem dX2_addAxle_32 : decode cX2_addAxle 32 = .ok (.aload_n 0, 1) := by decide +kernel
theorem dX2_addAxle_33 : decode cX2_addAxle 33 = .ok (.getfield 25, 3) := by decide +kernel
theorem dX2_addAxle_36 : decode cX2_addAxle 36 = .ok (.iconst 1, 1) := by decide +kernel
theorem dX2_addAxle_37 : decode cX2_addAxle 37 = .ok (.isub, 1) := by decide +kernel
theorem dX2_addAxle_38 : decode cX2_addAxle 38 = .ok (.laload, 1) := by decide +kernel
theorem dX2_addAxle_39 : decode cX2_addAxle 39 = .ok (.lload_n 1, 1) := by decide +kernel
theorem dX2_addAxle_40 : decode cX2_addAxle 40 = .ok (.ladd, 1) := by decide +kernel
theorem dX2_addAxle_41 : decode cX2_addAxle 41 = .ok (.lastore, 1) := by decide +kernel
theorem dX2_addAxle_42 : decode cX2_addAxle 42 = .ok (.aload_n 0, 1) := by decide +kernel
theorem dX2_addAxle_43 : decode cX2_addAxle 43 = .ok (.getfield 22, 3) := by decide +kernel
theorem dX2_addAxle_46 : decode cX2_addAxle 46 = .ok (.aload_n 0, 1) := by decide +kernel
theorem dX2_addAxle_47 : decode cX2_addAxle 47 = .ok (.getfield 25, 3) := by decide +kernel
theorem dX2_addAxle_50 : decode cX2_addAxle 50 = .ok (.lload_n 3, 1) := by decide +kernel
theorem dX2_addAxle_51 : decode cX2_addAxle 51 = .ok (.lastore, 1) := by decide +kernel
theorem dX2_addAxle_52 : decode cX2_addAxle 52 = .ok (.aload_n 0, 1) := by decide +kernel
theorem dX2_addAxle_53 : decode cX2_addAxle 53 = .ok (.dup, 1) := by decide +kernel
theorem dX2_addAxle_54 : decode cX2_addAxle 54 = .ok (.getfield 25, 3) := by decide +kernel
theorem dX2_addAxle_57 : decode cX2_addAxle 57 = .ok (.iconst 1, 1) := by decide +kernel
theorem dX2_addAxle_58 : decode cX2_addAxle 58 = .ok (.iadd, 1) := by decide +kernel
theorem dX2_addAxle_59 : decode cX2_addAxle 59 = .ok (.putfield 25, 3) := by decide +kernel
theorem dX2_addAxle_62 : decode cX2_addAxle 62 = .ok (.return_, 1) := by decide +kernel
set_option maxRecDepth 20000 in
theorem ggX5_init_X8_init : GoodIn wsX5_init wsX8_init := goodIn_r _ [10, 11, 2, 3, 12, 13, 18] (by decide +kernel) (by decide +kernel)
set_option maxRecDepth 20000 in
theorem gX5_init_X8_init_n9 : GoodIn wsX5_init (wsX8_init) := ggX5_init_X8_init
set_option maxRecDepth 20000 in
theorem ggX5_init_X8_setTo : GoodIn wsX5_init wsX8_setTo := goodIn_r _ [17, 13, 18] (by decide +kernel) (by decide +kernel)
set_option maxRecDepth 20000 in
theorem gX5_init_X8_setTo : GoodIn wsX5_init (wsV RX5 19 RX8 yX8_setTo wsX8_setTo) := goodIn_app (goodIn_of _ (by decide +kernel)) ggX5_init_X8_setTo
theorem dX5_init_0 : decode cX5_init 0 = .ok (.aload_n 0, 1) := by decide +kernel
theorem dX5_init_1 : decode cX5_init 1 = .ok (.invokespecial 1, 3) := by decide +kernel
theorem dX5_init_4 : decode cX5_init 4 = .ok (.aload_n 0, 1) := by decide +kernel
theorem dX5_init_5 : decode cX5_init 5 = .ok (.new 7, 3) := by decide +kernel
theorem dX5_init_8 : decode cX5_init 8 = .ok (.dup, 1) := by decide +kernel
theorem dX5_init_9 : decode cX5_init 9 = .ok (.invokespecial 9, 3) := by decide +kernel
theorem dX5_init_12 : decode cX5_init 12 = .ok (.putfield 10, 3) := by decide +kernel
theorem dX5_init_15 : decode cX5_init 15 = .ok (.aload_n 0, 1) := by decide +kernel
theorem dX5_init_16 : decode cX5_init 16 = .ok (.new 7, 3) := by decide +kernel
theorem dX5_init_19 : decode cX5_init 19 = .ok (.dup, 1) := by decide +kernel
theorem dX5_init_20 : decode cX5_init 20 = .ok (.invokespecial 9, 3) := by decide +kernel
theorem dX5_init_23 : decode cX5_init 23 = .ok (.putfield 16, 3) := by decide +kernel
theorem dX5_init_26 : decode cX5_init 26 = .ok (.aload_n 0, 1) := by decide +kernel
theorem dX5_init_27 : decode cX5_init 27 = .ok (.getfield 16, 3) := by decide +kernel
theorem dX5_init_30 : decode cX5_init 30 = .ok (.lconst 1, 1) := by decide +kernel
theorem dX5_init_31 : decode cX5_init 31 = .ok (.invokevirtual 19, 3) := by decide +kernel
theorem dX5_init_34 : decode cX5_init 34 = .ok (.return_, 1) := by decide +kernel
set_option maxRecDepth 20000 in
theorem ggX5_isSameAs_X8_compareWith : GoodIn wsX5_isSameAs wsX8_compareWith := goodIn_r _ [7, 8, 11] (by decide +kernel) (by decide +kernel)
set_option maxRecDepth 20000 in
theorem gX5_isSameAs_X8_compareWith : GoodIn wsX5_isSameAs (wsV RX5 23 RX8 yX8_compareWith wsX8_compareWith) := goodIn_app (goodIn_of _ (by decide +kernel)) ggX5_isSameAs_X8_compareWith
theorem dX5_isSameAs_0 : decode cX5_isSameAs 0 = .ok (.aload_n 0, 1) := by decide +kernel
theorem dX5_isSameAs_1 : decode cX5_isSameAs 1 = .ok (.getfield 10, 3) := by decide +kernel
theorem dX5_isSameAs_4 : decode cX5_isSameAs 4 = .ok (.aload_n 1, 1) := by decide +kernel
theorem dX5_isSameAs_5 : decode cX5_isSameAs 5 = .ok (.getfield 10, 3) := by decide +kernel
theorem dX5_isSameAs_8 : decode cX5_isSameAs 8 = .ok (.invokevirtual 23, 3) := by decide +kernel
theorem dX5_isSameAs_11 : decode cX5_isSameAs 11 = .ok (.ifCond .ne 21, 3) := by decide +kernel
theorem dX5_isSameAs_14 : decode cX5_isSameAs 14 = .ok (.aload_n 0, 1) := by decide +kernel
theorem dX5_isSameAs_15 : decode cX5_isSameAs 15 = .ok (.getfield 16, 3) := by decide +kernel
theorem dX5_isSameAs_18 : decode cX5_isSameAs 18 = .ok (.aload_n 1, 1) := by decide +kernel
theorem dX5_isSameAs_19 : decode cX5_isSameAs 19 = .ok (.getfield 16, 3) := by decide +kernel
theorem dX5_isSameAs_22 : decode cX5_isSameAs 22 = .ok (.invokevirtual 23, 3) := by decide +kernel
theorem dX5_isSameAs_25 : decode cX5_isSameAs 25 = .ok (.ifCond .ne 7, 3) := by decide +kernel
theorem dX5_isSameAs_28 : decode cX5_isSameAs 28 = .ok (.iconst 1, 1) := by decide +kernel
theorem dX5_isSameAs_29 : decode cX5_isSameAs 29 = .ok (.goto 4, 3) := by decide +kernel
theorem dX5_isSameAs_32 : decode cX5_isSameAs 32 = .ok (.iconst 0, 1) := by decide +kernel
theorem dX5_isSameAs_33 : decode cX5_isSameAs 33 = .ok (.ireturn, 1) := by decide +kernel
theorem dX6_init_0 : decode cX6_init 0 = .ok (.aload_n 0, 1) := by decide +kernel
theorem dX6_init_1 : decode cX6_init 1 = .ok (.invokespecial 3, 3) := by decide +kernel
theorem dX6_init_4 : decode cX6_init 4 = .ok (.aload_n 0, 1) := by decide +kernel
theorem dX6_init_5 : decode cX6_init 5 = .ok (.iconst (-1), 1) := by decide +kernel
theorem dX6_init_6 : decode cX6_init 6 = .ok (.putfield 9, 3) := by decide +kernel
theorem dX6_init_9 : decode cX6_init 9 = .ok (.aload_n 0, 1) := by decide +kernel
theorem dX6_init_10 : decode cX6_init 10 = .ok (.iconst 3, 1) := by decide +kernel
theorem dX6_init_11 : decode cX6_init 11 = .ok (.newarray .int, 2) := by decide +kernel
theorem dX6_init_13 : decode cX6_init 13 = .ok (.putfield 15, 3) := by decide +kernel
theorem dX6_init_16 : decode cX6_init 16 = .ok (.aload_n 0, 1) := by decide +kernel
theorem dX6_init_17 : decode cX6_init 17 = .ok (.iconst 3, 1) := by decide +kernel
theorem dX6_init_18 : decode cX6_init 18 = .ok (.newarray .int, 2) := by decide +kernel
theorem dX6_init_20 : decode cX6_init 20 = .ok (.putfield 19, 3) := by decide +kernel
theorem dX6_init_23 : decode cX6_init 23 = .ok (.return_, 1) := by decide +kernel
theorem dX6_lay_0 : decode cX6_lay 0 = .ok (.aload_n 0, 1) := by decide +kernel
theorem dX6_lay_1 : decode cX6_lay 1 = .ok (.iload_n 1, 1) := by decide +kernel
theorem dX6_lay_2 : decode cX6_lay 2 = .ok (.putfield 22, 3) := by decide +kernel
theorem dX6_lay_5 : decode cX6_lay 5 = .ok (.aload_n 0, 1) := by decide +kernel
theorem dX6_lay_6 : decode cX6_lay 6 = .ok (.iload_n 2, 1) := by decide +kernel
theorem dX6_lay_7 : decode cX6_lay 7 = .ok (.putfield 25, 3) := by decide +kernel
theorem dX6_lay_10 : decode cX6_lay 10 = .ok (.aload_n 0, 1) := by decide +kernel
theorem dX6_lay_11 : decode cX6_lay 11 = .ok (.iload_n 3, 1) := by decide +kernel
theorem dX6_lay_12 : decode cX6_lay 12 = .ok (.putfield 28, 3) := by decide +kernel
theorem dX6_lay_15 : decode cX6_lay 15 = .ok (.aload_n 0, 1) := by decide +kernel
theorem dX6_lay_16 : decode cX6_lay 16 = .ok (.iload 4, 2) := by decide +kernel
theorem dX6_lay_18 : decode cX6_lay 18 = .ok (.putfield 31, 3) := by decide +kernel
theorem dX6_lay_21 : decode cX6_lay 21 = .ok (.aload_n 0, 1) := by decide +kernel
theorem dX6_lay_22 : decode cX6_lay 22 = .ok (.iload 5, 2) := by decide +kernel
theorem dX6_lay_24 : decode cX6_lay 24 = .ok (.putfield 34, 3) := by decide +kernel
theorem dX6_lay_27 : decode cX6_lay 27 = .ok (.aload_n 0, 1) := by decide +kernel
theorem dX6_lay_28 : decode cX6_lay 28 = .ok (.iconst 1, 1) := by decide +kernel
theorem dX6_lay_29 : decode cX6_lay 29 = .ok (.putfield 37, 3) := by decide +kernel
theorem dX6_lay_32 : decode cX6_lay 32 = .ok (.return_, 1) := by decide +kernel
theorem dX6_nodeAcross_0 : decode cX6_nodeAcross 0 = .ok (.iload_n 1, 1) := by decide +kernel
theorem dX6_nodeAcross_1 : decode cX6_nodeAcross 1 = .ok (.aload_n 0, 1) := by decide +kernel
theorem dX6_nodeAcross_2 : decode cX6_nodeAcross 2 = .ok (.getfield 22, 3) := by decide +kernel
theorem dX6_nodeAcross_5 : decode cX6_nodeAcross 5 = .ok (.if_icmp .ne 8, 3) := by decide +kernel
theorem dX6_nodeAcross_8 : decode cX6_nodeAcross 8 = .ok (.aload_n 0, 1) := by decide +kernel
theorem dX6_nodeAcross_9 : decode cX6_nodeAcross 9 = .ok (.getfield 25, 3) := by decide +kernel
theorem dX6_nodeAcross_12 : decode cX6_nodeAcross 12 = .ok (.ireturn, 1) := by decide +kernel
theorem dX6_nodeAcross_13 : decode cX6_nodeAcross 13 = .ok (.iload_n 1, 1) := by decide +kernel
theorem dX6_nodeAcross_14 : decode cX6_nodeAcross 14 = .ok (.aload_n 0, 1) := by decide +kernel
theorem dX6_nodeAcross_15 : decode cX6_nodeAcross 15 = .ok (.getfield 25, 3) := by decide +kernel
theorem dX6_nodeAcross_18 : decode cX6_nodeAcross 18 = .ok (.if_icmp .ne 10, 3) := by decide +kernel
theorem dX6_nodeAcross_21 : decode cX6_nodeAcross 21 = .ok (.aload_n 0, 1) := by decide +kernel
theorem dX6_nodeAcross_22 : decode cX6_nodeAcross 22 = .ok (.getfield 22, 3) := by decide +kernel
theorem dX6_nodeAcross_25 : decode cX6_nodeAcross 25 = .ok (.goto 4, 3) := by decide +kernel
theorem dX6_nodeAcross_28 : decode cX6_nodeAcross 28 = .ok (.iconst (-1), 1) := by decide +kernel
theorem dX6_nodeAcross_29 : decode cX6_nodeAcross 29 = .ok (.ireturn, 1) := by decide +kernel
set_option maxRecDepth 20000 in
theorem ggX6_meets_X6_nodeAcross : GoodIn wsX6_meets wsX6_nodeAcross := goodIn_r _ [7, 1, 2, 8, 9, 10, 11, 12, 13, 14, 15, 16, 17, 18] (by decide +kernel) (by decide +kernel)
set_option maxRecDepth 20000 in
theorem gX6_meets_X6_nodeAcross : GoodIn wsX6_meets (wsV RX6 41 RX6 yX6_nodeAcross wsX6_nodeAcross) := goodIn_app (goodIn_of _ (by decide +kernel)) ggX6_meets_X6_nodeAcross
theorem dX6_meets_0 : decode cX6_meets 0 = .ok (.aload_n 1, 1) := by decide +kernel
theorem dX6_meets_1 : decode cX6_meets 1 = .ok (.aload_n 0, 1) := by decide +kernel
theorem dX6_meets_2 : decode cX6_meets 2 = .ok (.getfield 22, 3) := by decide +kernel
theorem dX6_meets_5 : decode cX6_meets 5 = .ok (.invokevirtual 41, 3) := by decide +kernel
theorem dX6_meets_8 : decode cX6_meets 8 = .ok (.iconst (-1), 1) := by decide +kernel
theorem dX6_meets_9 : decode cX6_meets 9 = .ok (.if_icmp .ne 15, 3) := by decide +kernel
theorem dX6_meets_12 : decode cX6_meets 12 = .ok (.aload_n 1, 1) := by decide +kernel
theorem dX6_meets_13 : decode cX6_meets 13 = .ok (.aload_n 0, 1) := by decide +kernel
theorem dX6_meets_14 : decode cX6_meets 14 = .ok (.getfield 25, 3) := by decide +kernel
theorem dX6_meets_17 : decode cX6_meets 17 = .ok (.invokevirtual 41, 3) := by decide +kernel
theorem dX6_meets_20 : decode cX6_meets 20 = .ok (.iconst (-1), 1) := by decide +kernel
theorem dX6_meets_21 : decode cX6_meets 21 = .ok (.if_icmp .eq 7, 3) := by decide +kernel
theorem dX6_meets_24 : decode cX6_meets 24 = .ok (.iconst 1, 1) := by decide +kernel
theorem dX6_meets_25 : decode cX6_meets 25 = .ok (.goto 4, 3) := by decide +kernel
theorem dX6_meets_28 : decode cX6_meets 28 = .ok (.iconst 0, 1) := by decide +kernel
theorem dX6_meets_29 : decode cX6_meets 29 = .ok (.ireturn, 1) := by decide +kernel
theorem dX6_setTurn_0 : decode cX6_setTurn 0 = .ok (.iconst 1, 1) := by decide +kernel
theorem dX6_setTurn_1 : decode cX6_setTurn 1 = .ok (.iload_n 1, 1) := by decide +kernel
theorem dX6_setTurn_2 : decode cX6_setTurn 2 = .ok (.ishl, 1) := by decide +kernel
theorem dX6_setTurn_3 : decode cX6_setTurn 3 = .ok (.istore_n 3, 1) := by decide +kernel
theorem dX6_setTurn_4 : decode cX6_setTurn 4 = .ok (.aload_n 0, 1) := by decide +kernel
theorem dX6_setTurn_5 : decode cX6_setTurn 5 = .ok (.iload_n 2, 1) := by decide +kernel
theorem dX6_setTurn_6 : decode cX6_setTurn 6 = .ok (.ifCond .eq 14, 3) := by decide +kernel
theorem dX6_setTurn_9 : decode cX6_setTurn 9 = .ok (.aload_n 0, 1) := by decide +kernel
theorem dX6_setTurn_10 : decode cX6_setTurn 10 = .ok (.getfield 45, 3) := by decide +kernel
theorem dX6_setTurn_13 : decode cX6_setTurn 13 = .ok (.iload_n 3, 1) := by decide +kernel
theorem dX6_setTurn_14 : decode cX6_setTurn 14 = .ok (.iconst (-1), 1) := by decide +kernel
theorem dX6_setTurn_15 : decode cX6_setTurn 15 = .ok (.ixor, 1) := by decide +kernel
theorem dX6_setTurn_16 : decode cX6_setTurn 16 = .ok (.iand, 1) := by decide +kernel
theorem dX6_setTurn_17 : decode cX6_setTurn 17 = .ok (.goto 9, 3) := by decide +kernel
theorem dX6_setTurn_20 : decode cX6_setTurn 20 = .ok (.aload_n 0, 1) := by decide +kernel
theorem dX6_setTurn_21 : decode cX6_setTurn 21 = .ok (.getfield 45, 3) := by decide +kernel
theorem dX6_setTurn_24 : decode cX6_setTurn 24 = .ok (.iload_n 3, 1) := by decide +kernel
theorem dX6_setTurn_25 : decode cX6_setTurn 25 = .ok (.ior, 1) := by decide +kernel
theorem dX6_setTurn_26 : decode cX6_setTurn 26 = .ok (.putfield 45, 3) := by decide +kernel
theorem dX6_setTurn_29 : decode cX6_setTurn 29 = .ok (.return_, 1) := by decide +kernel
theorem dX6_isTurnBlocked_0 : decode cX6_isTurnBlocked 0 = .ok (.aload_n 0, 1) := by decide +kernel
theorem dX6_isTurnBlocked_1 : decode cX6_isTurnBlocked 1 = .ok (.getfield 45, 3) := by decide +kernel
theorem dX6_isTurnBlocked_4 : decode cX6_isTurnBlocked 4 = .ok (.iload_n 1, 1) := by decide +kernel
theorem dX6_isTurnBlocked_5 : decode cX6_isTurnBlocked 5 = .ok (.ishr, 1) := by decide +kernel
theorem dX6_isTurnBlocked_6 : decode cX6_isTurnBlocked 6 = .ok (.iconst 1, 1) := by decide +kernel
theorem dX6_isTurnBlocked_7 : decode cX6_isTurnBlocked 7 = .ok (.iand, 1) := by decide +kernel
theorem dX6_isTurnBlocked_8 : decode cX6_isTurnBlocked 8 = .ok (.iconst 1, 1) := by decide +kernel
theorem dX6_isTurnBlocked_9 : decode cX6_isTurnBlocked 9 = .ok (.if_icmp .ne 7, 3) := by decide +kernel
theorem dX6_isTurnBlocked_12 : decode cX6_isTurnBlocked 12 = .ok (.iconst 1, 1) := by decide +kernel
theorem dX6_isTurnBlocked_13 : decode cX6_isTurnBlocked 13 = .ok (.goto 4, 3) := by decide +kernel
theorem dX6_isTurnBlocked_16 : decode cX6_isTurnBlocked 16 = .ok (.iconst 0, 1) := by decide +kernel
theorem dX6_isTurnBlocked_17 : decode cX6_isTurnBlocked 17 = .ok (.ireturn, 1) := by decide +kernel
theorem dX6_addBar_0 : decode cX6_addBar 0 = .ok (.aload_n 0, 1) := by decide +kernel
theorem dX6_addBar_1 : decode cX6_addBar 1 = .ok (.getfield 48, 3) := by decide +kernel
theorem dX6_addBar_4 : decode cX6_addBar 4 = .ok (.iconst 3, 1) := by decide +kernel
theorem dX6_addBar_5 : decode cX6_addBar 5 = .ok (.if_icmp .lt 4, 3) := by decide +kernel
theorem dX6_addBar_8 : decode cX6_addBar 8 = .ok (.return_, 1) := by decide +kernel
theorem dX6_addBar_9 : decode cX6_addBar 9 = .ok (.aload_n 0, 1) := by decide +kernel
theorem dX6_addBar_10 : decode cX6_addBar 10 = .ok (.getfield 15, 3) := by decide +kernel
theorem dX6_addBar_13 : decode cX6_addBar 13 = .ok (.aload_n 0, 1) := by decide +kernel
theorem dX6_addBar_14 : decode cX6_addBar 14 = .ok (.getfield 48, 3) := by decide +kernel
theorem dX6_addBar_17 : decode cX6_addBar 17 = .ok (.iload_n 1, 1) := by decide +kernel
theorem dX6_addBar_18 : decode cX6_addBar 18 = .ok (.iastore, 1) := by decide +kernel
theorem dX6_addBar_19 : decode cX6_addBar 19 = .ok (.aload_n 0, 1) := by decide +kernel
theorem dX6_addBar_20 : decode cX6_addBar 20 = .ok (.getfield 19, 3) := by decide +kernel
theorem dX6_addBar_23 : decode cX6_addBar 23 = .ok (.aload_n 0, 1) := by decide +kernel
theorem dX6_addBar_24 : decode cX6_addBar 24 = .ok (.getfield 48, 3) := by decide +kernel
theorem dX6_addBar_27 : decode cX6_addBar 27 = .ok (.iload_n 2, 1) := by decide +kernel
theorem dX6_addBar_28 : decode cX6_addBar 28 = .ok (.iastore, 1) := by decide +kernel
theorem dX6_addBar_29 : decode cX6_addBar 29 = .ok (.aload_n 0, 1) := by decide +kernel
theorem dX6_addBar_30 : decode cX6_addBar 30 = .ok (.dup, 1) := by decide +kernel
theorem dX6_addBar_31 : decode cX6_addBar 31 = .ok (.getfield 48, 3) := by decide +kernel
theorem dX6_addBar_34 : decode cX6_addBar 34 = .ok (.iconst 1, 1) := by decide +kernel
theorem dX6_addBar_35 : decode cX6_addBar 35 = .ok (.iadd, 1) := by decide +kernel
theorem dX6_addBar_36 : decode cX6_addBar 36 = .ok (.putfield 48, 3) := by decide +kernel
theorem dX6_addBar_39 : decode cX6_addBar 39 = .ok (.return_, 1) := by decide +kernel
set_option maxRecDepth 20000 in
theorem ggX6_earliestStart_X6_waitAt : GoodIn wsX6_earliestStart wsX6_waitAt := goodIn_r _ [6, 1, 7, 8, 9, 10, 11, 12, 13, 14, 15, 16, 17, 18, 19, 20, 21, 22, 23] (by decide +kernel) (by decide +kernel)
set_option maxRecDepth 20000 in
theorem gX6_earliestStart_X6_waitAt : GoodIn wsX6_earliestStart (wsV RX6 51 RX6 yX6_waitAt wsX6_waitAt) := goodIn_app (goodIn_of _ (by decide +kernel)) ggX6_earliestStart_X6_waitAt
theorem dX6_earliestStart_0 : decode cX6_earliestStart 0 = .ok (.iload_n 1, 1) := by decide +kernel
theorem dX6_earliestStart_1 : decode cX6_earliestStart 1 = .ok (.istore_n 2, 1) := by decide +kernel
theorem dX6_earliestStart_2 : decode cX6_earliestStart 2 = .ok (.iconst 0, 1) := by decide +kernel
theorem dX6_earliestStart_3 : decode cX6_earliestStart 3 = .ok (.istore_n 3, 1) := by decide +kernel
theorem dX6_earliestStart_4 : decode cX6_earliestStart 4 = .ok (.iload_n 3, 1) := by decide +kernel
theorem dX6_earliestStart_5 : decode cX6_earliestStart 5 = .ok (.aload_n 0, 1) := by decide +kernel
theorem dX6_earliestStart_6 : decode cX6_earliestStart 6 = .ok (.getfield 48, 3) := by decide +kernel
theorem dX6_earliestStart_9 : decode cX6_earliestStart 9 = .ok (.if_icmp .gt 32, 3) := by decide +kernel
theorem dX6_earliestStart_12 : decode cX6_earliestStart 12 = .ok (.aload_n 0, 1) := by decide +kernel
theorem dX6_earliestStart_13 : decode cX6_earliestStart 13 = .ok (.iload_n 2, 1) := by decide +kernel
theorem dX6_earliestStart_14 : decode cX6_earliestStart 14 = .ok (.sipush 1440, 3) := by decide +kernel
theorem dX6_earliestStart_17 : decode cX6_earliestStart 17 = .ok (.irem, 1) := by decide +kernel
theorem dX6_earliestStart_18 : decode cX6_earliestStart 18 = .ok (.invokevirtual 51, 3) := by decide +kernel
theorem dX6_earliestStart_21 : decode cX6_earliestStart 21 = .ok (.istore 4, 2) := by decide +kernel
theorem dX6_earliestStart_23 : decode cX6_earliestStart 23 = .ok (.iload 4, 2) := by decide +kernel
theorem dX6_earliestStart_25 : decode cX6_earliestStart 25 = .ok (.ifCond .ne 5, 3) := by decide +kernel
theorem dX6_earliestStart_28 : decode cX6_earliestStart 28 = .ok (.iload_n 2, 1) := by decide +kernel
theorem dX6_earliestStart_29 : decode cX6_earliestStart 29 = .ok (.ireturn, 1) := by decide +kernel
theorem dX6_earliestStart_30 : decode cX6_earliestStart 30 = .ok (.iload_n 2, 1) := by decide +kernel
theorem dX6_earliestStart_31 : decode cX6_earliestStart 31 = .ok (.iload 4, 2) := by decide +kernel
theorem dX6_earliestStart_33 : decode cX6_earliestStart 33 = .ok (.iadd, 1) := by decide +kernel
theorem dX6_earliestStart_34 : decode cX6_earliestStart 34 = .ok (.istore_n 2, 1) := by decide +kernel
theorem dX6_earliestStart_35 : decode cX6_earliestStart 35 = .ok (.iinc 3 1, 3) := by decide +kernel
theorem dX6_earliestStart_38 : decode cX6_earliestStart 38 = .ok (.goto (-34), 3) := by decide +kernel
theorem dX6_earliestStart_41 : decode cX6_earliestStart 41 = .ok (.iconst (-1), 1) := by decide +kernel
theorem dX6_earliestStart_42 : decode cX6_earliestStart 42 = .ok (.ireturn, 1) := by decide +kernel
theorem dX6_waitAt_0 : decode cX6_waitAt 0 = .ok (.iconst 0, 1) := by decide +kernel
theorem dX6_waitAt_1 : decode cX6_waitAt 1 = .ok (.istore_n 2, 1) := by decide +kernel
theorem dX6_waitAt_2 : decode cX6_waitAt 2 = .ok (.iconst 0, 1) := by decide +kernel
theorem dX6_waitAt_3 : decode cX6_waitAt 3 = .ok (.istore_n 3, 1) := by decide +kernel
theorem dX6_waitAt_4 : decode cX6_waitAt 4 = .ok (.iload_n 3, 1) := by decide +kernel
theorem dX6_waitAt_5 : decode cX6_waitAt 5 = .ok (.aload_n 0, 1) := by decide +kernel
theorem dX6_waitAt_6 : decode cX6_waitAt 6 = .ok (.getfield 48, 3) := by decide +kernel
theorem dX6_waitAt_9 : decode cX6_waitAt 9 = .ok (.if_icmp .ge 62, 3) := by decide +kernel
theorem dX6_waitAt_12 : decode cX6_waitAt 12 = .ok (.aload_n 0, 1) := by decide +kernel
theorem dX6_waitAt_13 : decode cX6_waitAt 13 = .ok (.getfield 19, 3) := by decide +kernel
theorem dX6_waitAt_16 : decode cX6_waitAt 16 = .ok (.iload_n 3, 1) := by decide +kernel
theorem dX6_waitAt_17 : decode cX6_waitAt 17 = .ok (.iaload, 1) := by decide +kernel
theorem dX6_waitAt_18 : decode cX6_waitAt 18 = .ok (.aload_n 0, 1) := by decide +kernel
theorem dX6_waitAt_19 : decode cX6_waitAt 19 = .ok (.getfield 15, 3) := by decide +kernel
theorem dX6_waitAt_22 : decode cX6_waitAt 22 = .ok (.iload_n 3, 1) := by decide +kernel
theorem dX6_waitAt_23 : decode cX6_waitAt 23 = .ok (.iaload, 1) := by decide +kernel
theorem dX6_waitAt_24 : decode cX6_waitAt 24 = .ok (.isub, 1) := by decide +kernel
theorem dX6_waitAt_25 : decode cX6_waitAt 25 = .ok (.sipush 1440, 3) := by decide +kernel
theorem dX6_waitAt_28 : decode cX6_waitAt 28 = .ok (.iadd, 1) := by decide +kernel
theorem dX6_waitAt_29 : decode cX6_waitAt 29 = .ok (.sipush 1440, 3) := by decide +kernel
theorem dX6_waitAt_32 : decode cX6_waitAt 32 = .ok (.irem, 1) := by decide +kernel
theorem dX6_waitAt_33 : decode cX6_waitAt 33 = .ok (.istore 4, 2) := by decide +kernel
theorem dX6_waitAt_35 : decode cX6_waitAt 35 = .ok (.iload_n 1, 1) := by decide +kernel
theorem dX6_waitAt_36 : decode cX6_waitAt 36 = .ok (.aload_n 0, 1) := by decide +kernel
theorem dX6_waitAt_37 : decode cX6_waitAt 37 = .ok (.getfield 15, 3) := by decide +kernel
theorem dX6_waitAt_40 : decode cX6_waitAt 40 = .ok (.iload_n 3, 1) := by decide +kernel
theorem dX6_waitAt_41 : decode cX6_waitAt 41 = .ok (.iaload, 1) := by decide +kernel
theorem dX6_waitAt_42 : decode cX6_waitAt 42 = .ok (.isub, 1) := by decide +kernel
theorem dX6_waitAt_43 : decode cX6_waitAt 43 = .ok (.sipush 1440, 3) := by decide +kernel
theorem dX6_waitAt_46 : decode cX6_waitAt 46 = .ok (.iadd, 1) := by decide +kernel
theorem dX6_waitAt_47 : decode cX6_waitAt 47 = .ok (.sipush 1440, 3) := by decide +kernel
theorem dX6_waitAt_50 : decode cX6_waitAt 50 = .ok (.irem, 1) := by decide +kernel
theorem dX6_waitAt_51 : decode cX6_waitAt 51 = .ok (.istore 5, 2) := by decide +kernel
theorem dX6_waitAt_53 : decode cX6_waitAt 53 = .ok (.iload_n 2, 1) := by decide +kernel
theorem dX6_waitAt_54 : decode cX6_waitAt 54 = .ok (.iload 4, 2) := by decide +kernel
theorem dX6_waitAt_56 : decode cX6_waitAt 56 = .ok (.iload 5, 2) := by decide +kernel
theorem dX6_waitAt_58 : decode cX6_waitAt 58 = .ok (.isub, 1) := by decide +kernel
theorem dX6_waitAt_59 : decode cX6_waitAt 59 = .ok (.iconst 1, 1) := by decide +kernel
theorem dX6_waitAt_60 : decode cX6_waitAt 60 = .ok (.iadd, 1) := by decide +kernel
theorem dX6_waitAt_61 : decode cX6_waitAt 61 = .ok (.invokestatic 54, 3) := by decide +kernel
theorem dX6_waitAt_64 : decode cX6_waitAt 64 = .ok (.istore_n 2, 1) := by decide +kernel
theorem dX6_waitAt_65 : decode cX6_waitAt 65 = .ok (.iinc 3 1, 3) := by decide +kernel
theorem dX6_waitAt_68 : decode cX6_waitAt 68 = .ok (.goto (-64), 3) := by decide +kernel
theorem dX6_waitAt_71 : decode cX6_waitAt 71 = .ok (.iload_n 2, 1) := by decide +kernel
theorem dX6_waitAt_72 : decode cX6_waitAt 72 = .ok (.ireturn, 1) := by decide +kernel
theorem dX7_init_0 : decode cX7_init 0 = .ok (.aload_n 0, 1) := by decide +kernel
theorem dX7_init_1 : decode cX7_init 1 = .ok (.invokespecial 3, 3) := by decide +kernel
theorem dX7_init_4 : decode cX7_init 4 = .ok (.aload_n 0, 1) := by decide +kernel
theorem dX7_init_5 : decode cX7_init 5 = .ok (.bipush 6, 2) := by decide +kernel
theorem dX7_init_7 : decode cX7_init 7 = .ok (.newarray .int, 2) := by decide +kernel
theorem dX7_init_9 : decode cX7_init 9 = .ok (.putfield 9, 3) := by decide +kernel
theorem dX7_init_12 : decode cX7_init 12 = .ok (.aload_n 0, 1) := by decide +kernel
theorem dX7_init_13 : decode cX7_init 13 = .ok (.bipush 6, 2) := by decide +kernel
theorem dX7_init_15 : decode cX7_init 15 = .ok (.newarray .int, 2) := by decide +kernel
theorem dX7_init_17 : decode cX7_init 17 = .ok (.putfield 15, 3) := by decide +kernel
theorem dX7_init_20 : decode cX7_init 20 = .ok (.return_, 1) := by decide +kernel
theorem dX7_hasPlace_0 : decode cX7_hasPlace 0 = .ok (.iload_n 1, 1) := by decide +kernel
theorem dX7_hasPlace_1 : decode cX7_hasPlace 1 = .ok (.ifCond .lt 15, 3) := by decide +kernel
theorem dX7_hasPlace_4 : decode cX7_hasPlace 4 = .ok (.iload_n 1, 1) := by decide +kernel
theorem dX7_hasPlace_5 : decode cX7_hasPlace 5 = .ok (.aload_n 0, 1) := by decide +kernel
theorem dX7_hasPlace_6 : decode cX7_hasPlace 6 = .ok (.getfield 18, 3) := by decide +kernel
theorem dX7_hasPlace_9 : decode cX7_hasPlace 9 = .ok (.if_icmp .ge 7, 3) := by decide +kernel
theorem dX7_hasPlace_12 : decode cX7_hasPlace 12 = .ok (.iconst 1, 1) := by decide +kernel
theorem dX7_hasPlace_13 : decode cX7_hasPlace 13 = .ok (.goto 4, 3) := by decide +kernel
theorem dX7_hasPlace_16 : decode cX7_hasPlace 16 = .ok (.iconst 0, 1) := by decide +kernel
theorem dX7_hasPlace_17 : decode cX7_hasPlace 17 = .ok (.ireturn, 1) := by decide +kernel
theorem dX7_copyFrom_0 : decode cX7_copyFrom 0 = .ok (.iconst 0, 1) := by decide +kernel
theorem dX7_copyFrom_1 : decode cX7_copyFrom 1 = .ok (.istore_n 2, 1) := by decide +kernel
theorem dX7_copyFrom_2 : decode cX7_copyFrom 2 = .ok (.iload_n 2, 1) := by decide +kernel
theorem dX7_copyFrom_3 : decode cX7_copyFrom 3 = .ok (.bipush 6, 2) := by decide +kernel
theorem dX7_copyFrom_5 : decode cX7_copyFrom 5 = .ok (.if_icmp .ge 33, 3) := by decide +kernel
theorem dX7_copyFrom_8 : decode cX7_copyFrom 8 = .ok (.aload_n 0, 1) := by decide +kernel
theorem dX7_copyFrom_9 : decode cX7_copyFrom 9 = .ok (.getfield 9, 3) := by decide +kernel
theorem dX7_copyFrom_12 : decode cX7_copyFrom 12 = .ok (.iload_n 2, 1) := by decide +kernel
theorem dX7_copyFrom_13 : decode cX7_copyFrom 13 = .ok (.aload_n 1, 1) := by decide +kernel
theorem dX7_copyFrom_14 : decode cX7_copyFrom 14 = .ok (.getfield 9, 3) := by decide +kernel
theorem dX7_copyFrom_17 : decode cX7_copyFrom 17 = .ok (.iload_n 2, 1) := by decide +kernel
theorem dX7_copyFrom_18 : decode cX7_copyFrom 18 = .ok (.iaload, 1) := by decide +kernel
theorem dX7_copyFrom_19 : decode cX7_copyFrom 19 = .ok (.iastore, 1) := by decide +kernel
theorem dX7_copyFrom_20 : decode cX7_copyFrom 20 = .ok (.aload_n 0, 1) := by decide +kernel
theorem dX7_copyFrom_21 : decode cX7_copyFrom 21 = .ok (.getfield 15, 3) := by decide +kernel
theorem dX7_copyFrom_24 : decode cX7_copyFrom 24 = .ok (.iload_n 2, 1) := by decide +kernel
theorem dX7_copyFrom_25 : decode cX7_copyFrom 25 = .ok (.aload_n 1, 1) := by decide +kernel
theorem dX7_copyFrom_26 : decode cX7_copyFrom 26 = .ok (.getfield 15, 3) := by decide +kernel
theorem dX7_copyFrom_29 : decode cX7_copyFrom 29 = .ok (.iload_n 2, 1) := by decide +kernel
theorem dX7_copyFrom_30 : decode cX7_copyFrom 30 = .ok (.iaload, 1) := by decide +kernel
theorem dX7_copyFrom_31 : decode cX7_copyFrom 31 = .ok (.iastore, 1) := by decide +kernel
theorem dX7_copyFrom_32 : decode cX7_copyFrom 32 = .ok (.iinc 2 1, 3) := by decide +kernel
theorem dX7_copyFrom_35 : decode cX7_copyFrom 35 = .ok (.goto (-33), 3) := by decide +kernel
theorem dX7_copyFrom_38 : decode cX7_copyFrom 38 = .ok (.aload_n 0, 1) := by decide +kernel
theorem dX7_copyFrom_39 : decode cX7_copyFrom 39 = .ok (.aload_n 1, 1) := by decide +kernel
theorem dX7_copyFrom_40 : decode cX7_copyFrom 40 = .ok (.getfield 18, 3) := by decide +kernel
theorem dX7_copyFrom_43 : decode cX7_copyFrom 43 = .ok (.putfield 18, 3) := by decide +kernel
theorem dX7_copyFrom_46 : decode cX7_copyFrom 46 = .ok (.aload_n 0, 1) := by decide +kernel
theorem dX7_copyFrom_47 : decode cX7_copyFrom 47 = .ok (.aload_n 1, 1) := by decide +kernel
theorem dX7_copyFrom_48 : decode cX7_copyFrom 48 = .ok (.getfield 22, 3) := by decide +kernel
theorem dX7_copyFrom_51 : decode cX7_copyFrom 51 = .ok (.putfield 22, 3) := by decide +kernel
theorem dX7_copyFrom_54 : decode cX7_copyFrom 54 = .ok (.aload_n 0, 1) := by decide +kernel
theorem dX7_copyFrom_55 : decode cX7_copyFrom 55 = .ok (.aload_n 1, 1) := by decide +kernel
theorem dX7_copyFrom_56 : decode cX7_copyFrom 56 = .ok (.getfield 25, 3) := by decide +kernel
theorem dX7_copyFrom_59 : decode cX7_copyFrom 59 = .ok (.putfield 25, 3) := by decide +kernel
theorem dX7_copyFrom_62 : decode cX7_copyFrom 62 = .ok (.aload_n 0, 1) := by decide +kernel
theorem dX7_copyFrom_63 : decode cX7_copyFrom 63 = .ok (.aload_n 1, 1) := by decide +kernel
theorem dX7_copyFrom_64 : decode cX7_copyFrom 64 = .ok (.getfield 28, 3) := by decide +kernel
theorem dX7_copyFrom_67 : decode cX7_copyFrom 67 = .ok (.putfield 28, 3) := by decide +kernel
theorem dX7_copyFrom_70 : decode cX7_copyFrom 70 = .ok (.return_, 1) := by decide +kernel
theorem dX7_isBetterThan_0 : decode cX7_isBetterThan 0 = .ok (.aload_n 0, 1) := by decide +kernel
theorem dX7_isBetterThan_1 : decode cX7_isBetterThan 1 = .ok (.getfield 22, 3) := by decide +kernel
theorem dX7_isBetterThan_4 : decode cX7_isBetterThan 4 = .ok (.aload_n 1, 1) := by decide +kernel
theorem dX7_isBetterThan_5 : decode cX7_isBetterThan 5 = .ok (.getfield 22, 3) := by decide +kernel
theorem dX7_isBetterThan_8 : decode cX7_isBetterThan 8 = .ok (.if_icmp .eq 20, 3) := by decide +kernel
theorem dX7_isBetterThan_11 : decode cX7_isBetterThan 11 = .ok (.aload_n 0, 1) := by decide +kernel
theorem dX7_isBetterThan_12 : decode cX7_isBetterThan 12 = .ok (.getfield 22, 3) := by decide +kernel
theorem dX7_isBetterThan_15 : decode cX7_isBetterThan 15 = .ok (.aload_n 1, 1) := by decide +kernel
theorem dX7_isBetterThan_16 : decode cX7_isBetterThan 16 = .ok (.getfield 22, 3) := by decide +kernel
theorem dX7_isBetterThan_19 : decode cX7_isBetterThan 19 = .ok (.if_icmp .ge 7, 3) := by decide +kernel
theorem dX7_isBetterThan_22 : decode cX7_isBetterThan 22 = .ok (.iconst 1, 1) := by decide +kernel
theorem dX7_isBetterThan_23 : decode cX7_isBetterThan 23 = .ok (.goto 4, 3) := by decide +kernel
theorem dX7_isBetterThan_26 : decode cX7_isBetterThan 26 = .ok (.iconst 0, 1) := by decide +kernel
theorem dX7_isBetterThan_27 : decode cX7_isBetterThan 27 = .ok (.ireturn, 1) := by decide +kernel
theorem dX7_isBetterThan_28 : decode cX7_isBetterThan 28 = .ok (.aload_n 0, 1) := by decide +kernel
theorem dX7_isBetterThan_29 : decode cX7_isBetterThan 29 = .ok (.getfield 25, 3) := by decide +kernel
theorem dX7_isBetterThan_32 : decode cX7_isBetterThan 32 = .ok (.aload_n 1, 1) := by decide +kernel
theorem dX7_isBetterThan_33 : decode cX7_isBetterThan 33 = .ok (.getfield 25, 3) := by decide +kernel
theorem dX7_isBetterThan_36 : decode cX7_isBetterThan 36 = .ok (.if_icmp .eq 20, 3) := by decide +kernel
theorem dX7_isBetterThan_39 : decode cX7_isBetterThan 39 = .ok (.aload_n 0, 1) := by decide +kernel
theorem dX7_isBetterThan_40 : decode cX7_isBetterThan 40 = .ok (.getfield 25, 3) := by decide +kernel
theorem dX7_isBetterThan_43 : decode cX7_isBetterThan 43 = .ok (.aload_n 1, 1) := by decide +kernel
theorem dX7_isBetterThan_44 : decode cX7_isBetterThan 44 = .ok (.getfield 25, 3) := by decide +kernel
theorem dX7_isBetterThan_47 : decode cX7_isBetterThan 47 = .ok (.if_icmp .ge 7, 3) := by decide +kernel
theorem dX7_isBetterThan_50 : decode cX7_isBetterThan 50 = .ok (.iconst 1, 1) := by decide +kernel
theorem dX7_isBetterThan_51 : decode cX7_isBetterThan 51 = .ok (.goto 4, 3) := by decide +kernel
theorem dX7_isBetterThan_54 : decode cX7_isBetterThan 54 = .ok (.iconst 0, 1) := by decide +kernel
theorem dX7_isBetterThan_55 : decode cX7_isBetterThan 55 = .ok (.ireturn, 1) := by decide +kernel
theorem dX7_isBetterThan_56 : decode cX7_isBetterThan 56 = .ok (.aload_n 0, 1) := by decide +kernel
theorem dX7_isBetterThan_57 : decode cX7_isBetterThan 57 = .ok (.getfield 18, 3) := by decide +kernel
theorem dX7_isBetterThan_60 : decode cX7_isBetterThan 60 = .ok (.aload_n 1, 1) := by decide +kernel
theorem dX7_isBetterThan_61 : decode cX7_isBetterThan 61 = .ok (.getfield 18, 3) := by decide +kernel
theorem dX7_isBetterThan_64 : decode cX7_isBetterThan 64 = .ok (.if_icmp .eq 20, 3) := by decide +kernel
theorem dX7_isBetterThan_67 : decode cX7_isBetterThan 67 = .ok (.aload_n 0, 1) := by decide +kernel
theorem dX7_isBetterThan_68 : decode cX7_isBetterThan 68 = .ok (.getfield 18, 3) := by decide +kernel
theorem dX7_isBetterThan_71 : decode cX7_isBetterThan 71 = .ok (.aload_n 1, 1) := by decide +kernel
theorem dX7_isBetterThan_72 : decode cX7_isBetterThan 72 = .ok (.getfield 18, 3) := by decide +kernel
theorem dX7_isBetterThan_75 : decode cX7_isBetterThan 75 = .ok (.if_icmp .ge 7, 3) := by decide +kernel
theorem dX7_isBetterThan_78 : decode cX7_isBetterThan 78 = .ok (.iconst 1, 1) := by decide +kernel
theorem dX7_isBetterThan_79 : decode cX7_isBetterThan 79 = .ok (.goto 4, 3) := by decide +kernel
theorem dX7_isBetterThan_82 : decode cX7_isBetterThan 82 = .ok (.iconst 0, 1) := by decide +kernel
theorem dX7_isBetterThan_83 : decode cX7_isBetterThan 83 = .ok (.ireturn, 1) := by decide +kernel
theorem dX7_isBetterThan_84 : decode cX7_isBetterThan 84 = .ok (.iconst 0, 1) := by decide +kernel
theorem dX7_isBetterThan_85 : decode cX7_isBetterThan 85 = .ok (.istore_n 2, 1) := by decide +kernel
theorem dX7_isBetterThan_86 : decode cX7_isBetterThan 86 = .ok (.iload_n 2, 1) := by decide +kernel
theorem dX7_isBetterThan_87 : decode cX7_isBetterThan 87 = .ok (.aload_n 0, 1) := by decide +kernel
theorem dX7_isBetterThan_88 : decode cX7_isBetterThan 88 = .ok (.getfield 18, 3) := by decide +kernel
theorem dX7_isBetterThan_91 : decode cX7_isBetterThan 91 = .ok (.if_icmp .ge 45, 3) := by decide +kernel
theorem dX7_isBetterThan_94 : decode cX7_isBetterThan 94 = .ok (.aload_n 0, 1) := by decide +kernel
theorem dX7_isBetterThan_95 : decode cX7_isBetterThan 95 = .ok (.getfield 9, 3) := by decide +kernel
theorem dX7_isBetterThan_98 : decode cX7_isBetterThan 98 = .ok (.iload_n 2, 1) := by decide +kernel
theorem dX7_isBetterThan_99 : decode cX7_isBetterThan 99 = .ok (.iaload, 1) := by decide +kernel
theorem dX7_isBetterThan_100 : decode cX7_isBetterThan 100 = .ok (.aload_n 1, 1) := by decide +kernel
theorem dX7_isBetterThan_101 : decode cX7_isBetterThan 101 = .ok (.getfield 9, 3) := by decide +kernel
theorem dX7_isBetterThan_104 : decode cX7_isBetterThan 104 = .ok (.iload_n 2, 1) := by decide +kernel
theorem dX7_isBetterThan_105 : decode cX7_isBetterThan 105 = .ok (.iaload, 1) := by decide +kernel
theorem dX7_isBetterThan_106 : decode cX7_isBetterThan 106 = .ok (.if_icmp .eq 24, 3) := by decide +kernel
theorem dX7_isBetterThan_109 : decode cX7_isBetterThan 109 = .ok (.aload_n 0, 1) := by decide +kernel
theorem dX7_isBetterThan_110 : decode cX7_isBetterThan 110 = .ok (.getfield 9, 3) := by decide +kernel
theorem dX7_isBetterThan_113 : decode cX7_isBetterThan 113 = .ok (.iload_n 2, 1) := by decide +kernel
theorem dX7_isBetterThan_114 : decode cX7_isBetterThan 114 = .ok (.iaload, 1) := by decide +kernel
theorem dX7_isBetterThan_115 : decode cX7_isBetterThan 115 = .ok (.aload_n 1, 1) := by decide +kernel
theorem dX7_isBetterThan_116 : decode cX7_isBetterThan 116 = .ok (.getfield 9, 3) := by decide +kernel
theorem dX7_isBetterThan_119 : decode cX7_isBetterThan 119 = .ok (.iload_n 2, 1) := by decide +kernel
theorem dX7_isBetterThan_120 : decode cX7_isBetterThan 120 = .ok (.iaload, 1) := by decide +kernel
theorem dX7_isBetterThan_121 : decode cX7_isBetterThan 121 = .ok (.if_icmp .ge 7, 3) := by decide +kernel
theorem dX7_isBetterThan_124 : decode cX7_isBetterThan 124 = .ok (.iconst 1, 1) := by decide +kernel
theorem dX7_isBetterThan_125 : decode cX7_isBetterThan 125 = .ok (.goto 4, 3) := by decide +kernel
theorem dX7_isBetterThan_128 : decode cX7_isBetterThan 128 = .ok (.iconst 0, 1) := by decide +kernel
theorem dX7_isBetterThan_129 : decode cX7_isBetterThan 129 = .ok (.ireturn, 1) := by decide +kernel
theorem dX7_isBetterThan_130 : decode cX7_isBetterThan 130 = .ok (.iinc 2 1, 3) := by decide +kernel
theorem dX7_isBetterThan_133 : decode cX7_isBetterThan 133 = .ok (.goto (-47), 3) := by decide +kernel
theorem dX7_isBetterThan_136 : decode cX7_isBetterThan 136 = .ok (.iconst 0, 1) := by decide +kernel
theorem dX7_isBetterThan_137 : decode cX7_isBetterThan 137 = .ok (.ireturn, 1) := by decide +kernel
theorem dX7_collectRoads_0 : decode cX7_collectRoads 0 = .ok (.aload_n 0, 1) := by decide +kernel
theorem dX7_collectRoads_1 : decode cX7_collectRoads 1 = .ok (.iconst 0, 1) := by decide +kernel
theorem dX7_collectRoads_2 : decode cX7_collectRoads 2 = .ok (.putfield 28, 3) := by decide +kernel
theorem dX7_collectRoads_5 : decode cX7_collectRoads 5 = .ok (.iconst 0, 1) := by decide +kernel
theorem dX7_collectRoads_6 : decode cX7_collectRoads 6 = .ok (.istore_n 1, 1) := by decide +kernel
theorem dX7_collectRoads_7 : decode cX7_collectRoads 7 = .ok (.iload_n 1, 1) := by decide +kernel
theorem dX7_collectRoads_8 : decode cX7_collectRoads 8 = .ok (.aload_n 0, 1) := by decide +kernel
theorem dX7_collectRoads_9 : decode cX7_collectRoads 9 = .ok (.getfield 18, 3) := by decide +kernel
theorem dX7_collectRoads_12 : decode cX7_collectRoads 12 = .ok (.if_icmp .ge 26, 3) := by decide +kernel
theorem dX7_collectRoads_15 : decode cX7_collectRoads 15 = .ok (.aload_n 0, 1) := by decide +kernel
theorem dX7_collectRoads_16 : decode cX7_collectRoads 16 = .ok (.dup, 1) := by decide +kernel
theorem dX7_collectRoads_17 : decode cX7_collectRoads 17 = .ok (.getfield 28, 3) := by decide +kernel
theorem dX7_collectRoads_20 : decode cX7_collectRoads 20 = .ok (.iconst 1, 1) := by decide +kernel
theorem dX7_collectRoads_21 : decode cX7_collectRoads 21 = .ok (.aload_n 0, 1) := by decide +kernel
theorem dX7_collectRoads_22 : decode cX7_collectRoads 22 = .ok (.getfield 9, 3) := by decide +kernel
theorem dX7_collectRoads_25 : decode cX7_collectRoads 25 = .ok (.iload_n 1, 1) := by decide +kernel
theorem dX7_collectRoads_26 : decode cX7_collectRoads 26 = .ok (.iaload, 1) := by decide +kernel
theorem dX7_collectRoads_27 : decode cX7_collectRoads 27 = .ok (.ishl, 1) := by decide +kernel
theorem dX7_collectRoads_28 : decode cX7_collectRoads 28 = .ok (.ior, 1) := by decide +kernel
theorem dX7_collectRoads_29 : decode cX7_collectRoads 29 = .ok (.putfield 28, 3) := by decide +kernel
theorem dX7_collectRoads_32 : decode cX7_collectRoads 32 = .ok (.iinc 1 1, 3) := by decide +kernel
theorem dX7_collectRoads_35 : decode cX7_collectRoads 35 = .ok (.goto (-28), 3) := by decide +kernel
theorem dX7_collectRoads_38 : decode cX7_collectRoads 38 = .ok (.return_, 1) := by decide +kernel
theorem dX8_init_0 : decode cX8_init 0 = .ok (.aload_n 0, 1) := by decide +kernel
theorem dX8_init_1 : decode cX8_init 1 = .ok (.invokespecial 1, 3) := by decide +kernel
theorem dX8_init_4 : decode cX8_init 4 = .ok (.aload_n 0, 1) := by decide +kernel
theorem dX8_init_5 : decode cX8_init 5 = .ok (.iconst 5, 1) := by decide +kernel
theorem dX8_init_6 : decode cX8_init 6 = .ok (.newarray .long, 2) := by decide +kernel
theorem dX8_init_8 : decode cX8_init 8 = .ok (.putfield 9, 3) := by decide +kernel
theorem dX8_init_11 : decode cX8_init 11 = .ok (.return_, 1) := by decide +kernel
theorem dX8_setTo_0 : decode cX8_setTo 0 = .ok (.iconst 1, 1) := by decide +kernel
theorem dX8_setTo_1 : decode cX8_setTo 1 = .ok (.istore_n 3, 1) := by decide +kernel
theorem dX8_setTo_2 : decode cX8_setTo 2 = .ok (.iload_n 3, 1) := by decide +kernel
theorem dX8_setTo_3 : decode cX8_setTo 3 = .ok (.iconst 5, 1) := by decide +kernel
theorem dX8_setTo_4 : decode cX8_setTo 4 = .ok (.if_icmp .ge 16, 3) := by decide +kernel
theorem dX8_setTo_7 : decode cX8_setTo 7 = .ok (.aload_n 0, 1) := by decide +kernel
theorem dX8_setTo_8 : decode cX8_setTo 8 = .ok (.getfield 9, 3) := by decide +kernel
theorem dX8_setTo_11 : decode cX8_setTo 11 = .ok (.iload_n 3, 1) := by decide +kernel
theorem dX8_setTo_12 : decode cX8_setTo 12 = .ok (.lconst 0, 1) := by decide +kernel
theorem dX8_setTo_13 : decode cX8_setTo 13 = .ok (.lastore, 1) := by decide +kernel
theorem dX8_setTo_14 : decode cX8_setTo 14 = .ok (.iinc 3 1, 3) := by decide +kernel
theorem dX8_setTo_17 : decode cX8_setTo 17 = .ok (.goto (-15), 3) := by decide +kernel
theorem dX8_setTo_20 : decode cX8_setTo 20 = .ok (.aload_n 0, 1) := by decide +kernel
theorem dX8_setTo_21 : decode cX8_setTo 21 = .ok (.getfield 9, 3) := by decide +kernel
theorem dX8_setTo_24 : decode cX8_setTo 24 = .ok (.iconst 0, 1) := by decide +kernel
theorem dX8_setTo_25 : decode cX8_setTo 25 = .ok (.lload_n 1, 1) := by decide +kernel
theorem dX8_setTo_26 : decode cX8_setTo 26 = .ok (.lastore, 1) := by decide +kernel
theorem dX8_setTo_27 : decode cX8_setTo 27 = .ok (.return_, 1) := by decide +kernel
theorem dX8_copyFrom_0 : decode cX8_copyFrom 0 = .ok (.iconst 0, 1) := by decide +kernel
theorem dX8_copyFrom_1 : decode cX8_copyFrom 1 = .ok (.istore_n 2, 1) := by decide +kernel
theorem dX8_copyFrom_2 : decode cX8_copyFrom 2 = .ok (.iload_n 2, 1) := by decide +kernel
theorem dX8_copyFrom_3 : decode cX8_copyFrom 3 = .ok (.iconst 5, 1) := by decide +kernel
theorem dX8_copyFrom_4 : decode cX8_copyFrom 4 = .ok (.if_icmp .ge 21, 3) := by decide +kernel
theorem dX8_copyFrom_7 : decode cX8_copyFrom 7 = .ok (.aload_n 0, 1) := by decide +kernel
theorem dX8_copyFrom_8 : decode cX8_copyFrom 8 = .ok (.getfield 9, 3) := by decide +kernel
theorem dX8_copyFrom_11 : decode cX8_copyFrom 11 = .ok (.iload_n 2, 1) := by decide +kernel
theorem dX8_copyFrom_12 : decode cX8_copyFrom 12 = .ok (.aload_n 1, 1) := by decide +kernel
theorem dX8_copyFrom_13 : decode cX8_copyFrom 13 = .ok (.getfield 9, 3) := by decide +kernel
theorem dX8_copyFrom_16 : decode cX8_copyFrom 16 = .ok (.iload_n 2, 1) := by decide +kernel
theorem dX8_copyFrom_17 : decode cX8_copyFrom 17 = .ok (.laload, 1) := by decide +kernel
theorem dX8_copyFrom_18 : decode cX8_copyFrom 18 = .ok (.lastore, 1) := by decide +kernel
theorem dX8_copyFrom_19 : decode cX8_copyFrom 19 = .ok (.iinc 2 1, 3) := by decide +kernel
theorem dX8_copyFrom_22 : decode cX8_copyFrom 22 = .ok (.goto (-20), 3) := by decide +kernel
theorem dX8_copyFrom_25 : decode cX8_copyFrom 25 = .ok (.return_, 1) := by decide +kernel
theorem dX8_compareWith_0 : decode cX8_compareWith 0 = .ok (.iconst 4, 1) := by decide +kernel
theorem dX8_compareWith_1 : decode cX8_compareWith 1 = .ok (.istore_n 2, 1) := by decide +kernel
theorem dX8_compareWith_2 : decode cX8_compareWith 2 = .ok (.iload_n 2, 1) := by decide +kernel
theorem dX8_compareWith_3 : decode cX8_compareWith 3 = .ok (.ifCond .lt 47, 3) := by decide +kernel
theorem dX8_compareWith_6 : decode cX8_compareWith 6 = .ok (.aload_n 0, 1) := by decide +kernel
theorem dX8_compareWith_7 : decode cX8_compareWith 7 = .ok (.getfield 9, 3) := by decide +kernel
theorem dX8_compareWith_10 : decode cX8_compareWith 10 = .ok (.iload_n 2, 1) := by decide +kernel
theorem dX8_compareWith_11 : decode cX8_compareWith 11 = .ok (.laload, 1) := by decide +kernel
theorem dX8_compareWith_12 : decode cX8_compareWith 12 = .ok (.aload_n 1, 1) := by decide +kernel
theorem dX8_compareWith_13 : decode cX8_compareWith 13 = .ok (.getfield 9, 3) := by decide +kernel
theorem dX8_compareWith_16 : decode cX8_compareWith 16 = .ok (.iload_n 2, 1) := by decide +kernel
theorem dX8_compareWith_17 : decode cX8_compareWith 17 = .ok (.laload, 1) := by decide +kernel
theorem dX8_compareWith_18 : decode cX8_compareWith 18 = .ok (.lcmp, 1) := by decide +kernel
theorem dX8_compareWith_19 : decode cX8_compareWith 19 = .ok (.ifCond .eq 25, 3) := by decide +kernel
theorem dX8_compareWith_22 : decode cX8_compareWith 22 = .ok (.aload_n 0, 1) := by decide +kernel
theorem dX8_compareWith_23 : decode cX8_compareWith 23 = .ok (.getfield 9, 3) := by decide +kernel
theorem dX8_compareWith_26 : decode cX8_compareWith 26 = .ok (.iload_n 2, 1) := by decide +kernel
theorem dX8_compareWith_27 : decode cX8_compareWith 27 = .ok (.laload, 1) := by decide +kernel
theorem dX8_compareWith_28 : decode cX8_compareWith 28 = .ok (.aload_n 1, 1) := by decide +kernel
theorem dX8_compareWith_29 : decode cX8_compareWith 29 = .ok (.getfield 9, 3) := by decide +kernel
theorem dX8_compareWith_32 : decode cX8_compareWith 32 = .ok (.iload_n 2, 1) := by decide +kernel
theorem dX8_compareWith_33 : decode cX8_compareWith 33 = .ok (.laload, 1) := by decide +kernel
theorem dX8_compareWith_34 : decode cX8_compareWith 34 = .ok (.lcmp, 1) := by decide +kernel
theorem dX8_compareWith_35 : decode cX8_compareWith 35 = .ok (.ifCond .ge 7, 3) := by decide +kernel
theorem dX8_compareWith_38 : decode cX8_compareWith 38 = .ok (.iconst (-1), 1) := by decide +kernel
theorem dX8_compareWith_39 : decode cX8_compareWith 39 = .ok (.goto 4, 3) := by decide +kernel
theorem dX8_compareWith_42 : decode cX8_compareWith 42 = .ok (.iconst 1, 1) := by decide +kernel
theorem dX8_compareWith_43 : decode cX8_compareWith 43 = .ok (.ireturn, 1) := by decide +kernel
theorem dX8_compareWith_44 : decode cX8_compareWith 44 = .ok (.iinc 2 (-1), 3) := by decide +kernel
theorem dX8_compareWith_47 : decode cX8_compareWith 47 = .ok (.goto (-45), 3) := by decide +kernel
theorem dX8_compareWith_50 : decode cX8_compareWith 50 = .ok (.iconst 0, 1) := by decide +kernel
theorem dX8_compareWith_51 : decode cX8_compareWith 51 = .ok (.ireturn, 1) := by decide +kernel
set_option maxRecDepth 20000 in
theorem ggX8_addProduct_X8_addShifted : GoodIn wsX8_addProduct wsX8_addShifted := goodIn_r _ [6, 7, 1, 8] (by decide +kernel) (by decide +kernel)
set_option maxRecDepth 20000 in
theorem gX8_addProduct_X8_addShifted : GoodIn wsX8_addProduct (wsV RX8 15 RX8 yX8_addShifted wsX8_addShifted) := goodIn_app (goodIn_of _ (by decide +kernel)) ggX8_addProduct_X8_addShifted
theorem dX8_addProduct_0 : decode cX8_addProduct 0 = .ok (.lload_n 1, 1) := by decide +kernel
theorem dX8_addProduct_1 : decode cX8_addProduct 1 = .ok (.lstore 5, 2) := by decide +kernel
theorem dX8_addProduct_3 : decode cX8_addProduct 3 = .ok (.iconst 0, 1) := by decide +kernel
theorem dX8_addProduct_4 : decode cX8_addProduct 4 = .ok (.istore 7, 2) := by decide +kernel
theorem dX8_addProduct_6 : decode cX8_addProduct 6 = .ok (.iload 7, 2) := by decide +kernel
theorem dX8_addProduct_8 : decode cX8_addProduct 8 = .ok (.iconst 3, 1) := by decide +kernel
theorem dX8_addProduct_9 : decode cX8_addProduct 9 = .ok (.if_icmp .ge 30, 3) := by decide +kernel
theorem dX8_addProduct_12 : decode cX8_addProduct 12 = .ok (.aload_n 0, 1) := by decide +kernel
theorem dX8_addProduct_13 : decode cX8_addProduct 13 = .ok (.lload_n 3, 1) := by decide +kernel
theorem dX8_addProduct_14 : decode cX8_addProduct 14 = .ok (.lload 5, 2) := by decide +kernel
theorem dX8_addProduct_16 : decode cX8_addProduct 16 = .ok (.ldc2_w 13, 3) := by decide +kernel
theorem dX8_addProduct_19 : decode cX8_addProduct 19 = .ok (.lrem, 1) := by decide +kernel
theorem dX8_addProduct_20 : decode cX8_addProduct 20 = .ok (.iload 7, 2) := by decide +kernel
theorem dX8_addProduct_22 : decode cX8_addProduct 22 = .ok (.invokevirtual 15, 3) := by decide +kernel
theorem dX8_addProduct_25 : decode cX8_addProduct 25 = .ok (.lload 5, 2) := by decide +kernel
theorem dX8_addProduct_27 : decode cX8_addProduct 27 = .ok (.ldc2_w 13, 3) := by decide +kernel
theorem dX8_addProduct_30 : decode cX8_addProduct 30 = .ok (.ldiv, 1) := by decide +kernel
theorem dX8_addProduct_31 : decode cX8_addProduct 31 = .ok (.lstore 5, 2) := by decide +kernel
theorem dX8_addProduct_33 : decode cX8_addProduct 33 = .ok (.iinc 7 1, 3) := by decide +kernel
theorem dX8_addProduct_36 : decode cX8_addProduct 36 = .ok (.goto (-30), 3) := by decide +kernel
theorem dX8_addProduct_39 : decode cX8_addProduct 39 = .ok (.return_, 1) := by decide +kernel
theorem dX8_addShifted_0 : decode cX8_addShifted 0 = .ok (.lload_n 1, 1) := by decide +kernel
theorem dX8_addShifted_1 : decode cX8_addShifted 1 = .ok (.lstore 6, 2) := by decide +kernel
theorem dX8_addShifted_3 : decode cX8_addShifted 3 = .ok (.lconst 0, 1) := by decide +kernel
theorem dX8_addShifted_4 : decode cX8_addShifted 4 = .ok (.lstore 8, 2) := by decide +kernel
theorem dX8_addShifted_6 : decode cX8_addShifted 6 = .ok (.iload 5, 2) := by decide +kernel
theorem dX8_addShifted_8 : decode cX8_addShifted 8 = .ok (.istore 10, 2) := by decide +kernel
theorem dX8_addShifted_10 : decode cX8_addShifted 10 = .ok (.iload 10, 2) := by decide +kernel
theorem dX8_addShifted_12 : decode cX8_addShifted 12 = .ok (.iconst 5, 1) := by decide +kernel
theorem dX8_addShifted_13 : decode cX8_addShifted 13 = .ok (.if_icmp .ge 59, 3) := by decide +kernel
theorem dX8_addShifted_16 : decode cX8_addShifted 16 = .ok (.aload_n 0, 1) := by decide +kernel
theorem dX8_addShifted_17 : decode cX8_addShifted 17 = .ok (.getfield 9, 3) := by decide +kernel
theorem dX8_addShifted_20 : decode cX8_addShifted 20 = .ok (.iload 10, 2) := by decide +kernel
theorem dX8_addShifted_22 : decode cX8_addShifted 22 = .ok (.laload, 1) := by decide +kernel
theorem dX8_addShifted_23 : decode cX8_addShifted 23 = .ok (.lload 6, 2) := by decide +kernel
theorem dX8_addShifted_25 : decode cX8_addShifted 25 = .ok (.ldc2_w 13, 3) := by decide +kernel
theorem dX8_addShifted_28 : decode cX8_addShifted 28 = .ok (.lrem, 1) := by decide +kernel
theorem dX8_addShifted_29 : decode cX8_addShifted 29 = .ok (.lload_n 3, 1) := by decide +kernel
theorem dX8_addShifted_30 : decode cX8_addShifted 30 = .ok (.lmul, 1) := by decide +kernel
theorem dX8_addShifted_31 : decode cX8_addShifted 31 = .ok (.ladd, 1) := by decide +kernel
theorem dX8_addShifted_32 : decode cX8_addShifted 32 = .ok (.lload 8, 2) := by decide +kernel
theorem dX8_addShifted_34 : decode cX8_addShifted 34 = .ok (.ladd, 1) := by decide +kernel
theorem dX8_addShifted_35 : decode cX8_addShifted 35 = .ok (.lstore 11, 2) := by decide +kernel
theorem dX8_addShifted_37 : decode cX8_addShifted 37 = .ok (.aload_n 0, 1) := by decide +kernel
theorem dX8_addShifted_38 : decode cX8_addShifted 38 = .ok (.getfield 9, 3) := by decide +kernel
theorem dX8_addShifted_41 : decode cX8_addShifted 41 = .ok (.iload 10, 2) := by decide +kernel
theorem dX8_addShifted_43 : decode cX8_addShifted 43 = .ok (.lload 11, 2) := by decide +kernel
theorem dX8_addShifted_45 : decode cX8_addShifted 45 = .ok (.ldc2_w 13, 3) := by decide +kernel
theorem dX8_addShifted_48 : decode cX8_addShifted 48 = .ok (.lrem, 1) := by decide +kernel
theorem dX8_addShifted_49 : decode cX8_addShifted 49 = .ok (.lastore, 1) := by decide +kernel
theorem dX8_addShifted_50 : decode cX8_addShifted 50 = .ok (.lload 11, 2) := by decide +kernel
theorem dX8_addShifted_52 : decode cX8_addShifted 52 = .ok (.ldc2_w 13, 3) := by decide +kernel
theorem dX8_addShifted_55 : decode cX8_addShifted 55 = .ok (.ldiv, 1) := by decide +kernel
theorem dX8_addShifted_56 : decode cX8_addShifted 56 = .ok (.lstore 8, 2) := by decide +kernel
theorem dX8_addShifted_58 : decode cX8_addShifted 58 = .ok (.lload 6, 2) := by decide +kernel
theorem dX8_addShifted_60 : decode cX8_addShifted 60 = .ok (.ldc2_w 13, 3) := by decide +kernel
theorem dX8_addShifted_63 : decode cX8_addShifted 63 = .ok (.ldiv, 1) := by decide +kernel
theorem dX8_addShifted_64 : decode cX8_addShifted 64 = .ok (.lstore 6, 2) := by decide +kernel
theorem dX8_addShifted_66 : decode cX8_addShifted 66 = .ok (.iinc 10 1, 3) := by decide +kernel
theorem dX8_addShifted_69 : decode cX8_addShifted 69 = .ok (.goto (-59), 3) := by decide +kernel
theorem dX8_addShifted_72 : decode cX8_addShifted 72 = .ok (.return_, 1) := by decide +kernel
theorem dX8_subtract_0 : decode cX8_subtract 0 = .ok (.lconst 0, 1) := by decide +kernel
theorem dX8_subtract_1 : decode cX8_subtract 1 = .ok (.lstore_n 2, 1) := by decide +kernel
theorem dX8_subtract_2 : decode cX8_subtract 2 = .ok (.iconst 0, 1) := by decide +kernel
theorem dX8_subtract_3 : decode cX8_subtract 3 = .ok (.istore 4, 2) := by decide +kernel
theorem dX8_subtract_5 : decode cX8_subtract 5 = .ok (.iload 4, 2) := by decide +kernel
theorem dX8_subtract_7 : decode cX8_subtract 7 = .ok (.iconst 5, 1) := by decide +kernel
theorem dX8_subtract_8 : decode cX8_subtract 8 = .ok (.if_icmp .ge 56, 3) := by decide +kernel
theorem dX8_subtract_11 : decode cX8_subtract 11 = .ok (.aload_n 0, 1) := by decide +kernel
theorem dX8_subtract_12 : decode cX8_subtract 12 = .ok (.getfield 9, 3) := by decide +kernel
theorem dX8_subtract_15 : decode cX8_subtract 15 = .ok (.iload 4, 2) := by decide +kernel
theorem dX8_subtract_17 : decode cX8_subtract 17 = .ok (.laload, 1) := by decide +kernel
theorem dX8_subtract_18 : decode cX8_subtract 18 = .ok (.aload_n 1, 1) := by decide +kernel
theorem dX8_subtract_19 : decode cX8_subtract 19 = .ok (.getfield 9, 3) := by decide +kernel
theorem dX8_subtract_22 : decode cX8_subtract 22 = .ok (.iload 4, 2) := by decide +kernel
theorem dX8_subtract_24 : decode cX8_subtract 24 = .ok (.laload, 1) := by decide +kernel
theorem dX8_subtract_25 : decode cX8_subtract 25 = .ok (.lsub, 1) := by decide +kernel
theorem dX8_subtract_26 : decode cX8_subtract 26 = .ok (.lload_n 2, 1) := by decide +kernel
theorem dX8_subtract_27 : decode cX8_subtract 27 = .ok (.lsub, 1) := by decide +kernel
theorem dX8_subtract_28 : decode cX8_subtract 28 = .ok (.lstore 5, 2) := by decide +kernel
theorem dX8_subtract_30 : decode cX8_subtract 30 = .ok (.lload 5, 2) := by decide +kernel
theorem dX8_subtract_32 : decode cX8_subtract 32 = .ok (.lconst 0, 1) := by decide +kernel
theorem dX8_subtract_33 : decode cX8_subtract 33 = .ok (.lcmp, 1) := by decide +kernel
theorem dX8_subtract_34 : decode cX8_subtract 34 = .ok (.ifCond .ge 7, 3) := by decide +kernel
theorem dX8_subtract_37 : decode cX8_subtract 37 = .ok (.lconst 1, 1) := by decide +kernel
theorem dX8_subtract_38 : decode cX8_subtract 38 = .ok (.goto 4, 3) := by decide +kernel
theorem dX8_subtract_41 : decode cX8_subtract 41 = .ok (.lconst 0, 1) := by decide +kernel
theorem dX8_subtract_42 : decode cX8_subtract 42 = .ok (.lstore_n 2, 1) := by decide +kernel
theorem dX8_subtract_43 : decode cX8_subtract 43 = .ok (.aload_n 0, 1) := by decide +kernel
theorem dX8_subtract_44 : decode cX8_subtract 44 = .ok (.getfield 9, 3) := by decide +kernel
theorem dX8_subtract_47 : decode cX8_subtract 47 = .ok (.iload 4, 2) := by decide +kernel
theorem dX8_subtract_49 : decode cX8_subtract 49 = .ok (.lload 5, 2) := by decide +kernel
theorem dX8_subtract_51 : decode cX8_subtract 51 = .ok (.lload_n 2, 1) := by decide +kernel
theorem dX8_subtract_52 : decode cX8_subtract 52 = .ok (.ldc2_w 13, 3) := by decide +kernel
theorem dX8_subtract_55 : decode cX8_subtract 55 = .ok (.lmul, 1) := by decide +kernel
theorem dX8_subtract_56 : decode cX8_subtract 56 = .ok (.ladd, 1) := by decide +kernel
theorem dX8_subtract_57 : decode cX8_subtract 57 = .ok (.lastore, 1) := by decide +kernel
theorem dX8_subtract_58 : decode cX8_subtract 58 = .ok (.iinc 4 1, 3) := by decide +kernel
theorem dX8_subtract_61 : decode cX8_subtract 61 = .ok (.goto (-56), 3) := by decide +kernel
theorem dX8_subtract_64 : decode cX8_subtract 64 = .ok (.return_, 1) := by decide +kernel
theorem dX8_multiply_0 : decode cX8_multiply 0 = .ok (.lconst 0, 1) := by decide +kernel
theorem dX8_multiply_1 : decode cX8_multiply 1 = .ok (.lstore_n 3, 1) := by decide +kernel
theorem dX8_multiply_2 : decode cX8_multiply 2 = .ok (.iconst 0, 1) := by decide +kernel
theorem dX8_multiply_3 : decode cX8_multiply 3 = .ok (.istore 5, 2) := by decide +kernel
theorem dX8_multiply_5 : decode cX8_multiply 5 = .ok (.iload 5, 2) := by decide +kernel
theorem dX8_multiply_7 : decode cX8_multiply 7 = .ok (.iconst 5, 1) := by decide +kernel
theorem dX8_multiply_8 : decode cX8_multiply 8 = .ok (.if_icmp .ge 42, 3) := by decide +kernel
theorem dX8_multiply_11 : decode cX8_multiply 11 = .ok (.aload_n 0, 1) := by decide +kernel
theorem dX8_multiply_12 : decode cX8_multiply 12 = .ok (.getfield 9, 3) := by decide +kernel
theorem dX8_multiply_15 : decode cX8_multiply 15 = .ok (.iload 5, 2) := by decide +kernel
theorem dX8_multiply_17 : decode cX8_multiply 17 = .ok (.laload, 1) := by decide +kernel
theorem dX8_multiply_18 : decode cX8_multiply 18 = .ok (.lload_n 1, 1) := by decide +kernel
theorem dX8_multiply_19 : decode cX8_multiply 19 = .ok (.lmul, 1) := by decide +kernel
theorem dX8_multiply_20 : decode cX8_multiply 20 = .ok (.lload_n 3, 1) := by decide +kernel
theorem dX8_multiply_21 : decode cX8_multiply 21 = .ok (.ladd, 1) := by decide +kernel
theorem dX8_multiply_22 : decode cX8_multiply 22 = .ok (.lstore 6, 2) := by decide +kernel
theorem dX8_multiply_24 : decode cX8_multiply 24 = .ok (.aload_n 0, 1) := by decide +kernel
theorem dX8_multiply_25 : decode cX8_multiply 25 = .ok (.getfield 9, 3) := by decide +kernel
theorem dX8_multiply_28 : decode cX8_multiply 28 = .ok (.iload 5, 2) := by decide +kernel
theorem dX8_multiply_30 : decode cX8_multiply 30 = .ok (.lload 6, 2) := by decide +kernel
theorem dX8_multiply_32 : decode cX8_multiply 32 = .ok (.ldc2_w 13, 3) := by decide +kernel
theorem dX8_multiply_35 : decode cX8_multiply 35 = .ok (.lrem, 1) := by decide +kernel
theorem dX8_multiply_36 : decode cX8_multiply 36 = .ok (.lastore, 1) := by decide +kernel
theorem dX8_multiply_37 : decode cX8_multiply 37 = .ok (.lload 6, 2) := by decide +kernel
theorem dX8_multiply_39 : decode cX8_multiply 39 = .ok (.ldc2_w 13, 3) := by decide +kernel
theorem dX8_multiply_42 : decode cX8_multiply 42 = .ok (.ldiv, 1) := by decide +kernel
theorem dX8_multiply_43 : decode cX8_multiply 43 = .ok (.lstore_n 3, 1) := by decide +kernel
theorem dX8_multiply_44 : decode cX8_multiply 44 = .ok (.iinc 5 1, 3) := by decide +kernel
theorem dX8_multiply_47 : decode cX8_multiply 47 = .ok (.goto (-42), 3) := by decide +kernel
theorem dX8_multiply_50 : decode cX8_multiply 50 = .ok (.return_, 1) := by decide +kernel
theorem dX8_divide_0 : decode cX8_divide 0 = .ok (.lload_n 1, 1) := by decide +kernel
theorem dX8_divide_1 : decode cX8_divide 1 = .ok (.lconst 1, 1) := by decide +kernel
theorem dX8_divide_2 : decode cX8_divide 2 = .ok (.lcmp, 1) := by decide +kernel
theorem dX8_divide_3 : decode cX8_divide 3 = .ok (.ifCond .ge 4, 3) := by decide +kernel
theorem dX8_divide_6 : decode cX8_divide 6 = .ok (.return_, 1) := by decide +kernel
theorem dX8_divide_7 : decode cX8_divide 7 = .ok (.lconst 0, 1) := by decide +kernel
theorem dX8_divide_8 : decode cX8_divide 8 = .ok (.lstore_n 3, 1) := by decide +kernel
theorem dX8_divide_9 : decode cX8_divide 9 = .ok (.iconst 4, 1) := by decide +kernel
theorem dX8_divide_10 : decode cX8_divide 10 = .ok (.istore 5, 2) := by decide +kernel
theorem dX8_divide_12 : decode cX8_divide 12 = .ok (.iload 5, 2) := by decide +kernel
theorem dX8_divide_14 : decode cX8_divide 14 = .ok (.ifCond .lt 40, 3) := by decide +kernel
theorem dX8_divide_17 : decode cX8_divide 17 = .ok (.lload_n 3, 1) := by decide +kernel
theorem dX8_divide_18 : decode cX8_divide 18 = .ok (.ldc2_w 13, 3) := by decide +kernel
theorem dX8_divide_21 : decode cX8_divide 21 = .ok (.lmul, 1) := by decide +kernel
theorem dX8_divide_22 : decode cX8_divide 22 = .ok (.aload_n 0, 1) := by decide +kernel
theorem dX8_divide_23 : decode cX8_divide 23 = .ok (.getfield 9, 3) := by decide +kernel
theorem dX8_divide_26 : decode cX8_divide 26 = .ok (.iload 5, 2) := by decide +kernel
theorem dX8_divide_28 : decode cX8_divide 28 = .ok (.laload, 1) := by decide +kernel
theorem dX8_divide_29 : decode cX8_divide 29 = .ok (.ladd, 1) := by decide +kernel
theorem dX8_divide_30 : decode cX8_divide 30 = .ok (.lstore 6, 2) := by decide +kernel
theorem dX8_divide_32 : decode cX8_divide 32 = .ok (.aload_n 0, 1) := by decide +kernel
theorem dX8_divide_33 : decode cX8_divide 33 = .ok (.getfield 9, 3) := by decide +kernel
theorem dX8_divide_36 : decode cX8_divide 36 = .ok (.iload 5, 2) := by decide +kernel
theorem dX8_divide_38 : decode cX8_divide 38 = .ok (.lload 6, 2) := by decide +kernel
theorem dX8_divide_40 : decode cX8_divide 40 = .ok (.lload_n 1, 1) := by decide +kernel
theorem dX8_divide_41 : decode cX8_divide 41 = .ok (.ldiv, 1) := by decide +kernel
theorem dX8_divide_42 : decode cX8_divide 42 = .ok (.lastore, 1) := by decide +kernel
theorem dX8_divide_43 : decode cX8_divide 43 = .ok (.lload 6, 2) := by decide +kernel
theorem dX8_divide_45 : decode cX8_divide 45 = .ok (.lload_n 1, 1) := by decide +kernel
theorem dX8_divide_46 : decode cX8_divide 46 = .ok (.lrem, 1) := by decide +kernel
theorem dX8_divide_47 : decode cX8_divide 47 = .ok (.lstore_n 3, 1) := by decide +kernel
theorem dX8_divide_48 : decode cX8_divide 48 = .ok (.iinc 5 (-1), 3) := by decide +kernel
theorem dX8_divide_51 : decode cX8_divide 51 = .ok (.goto (-39), 3) := by decide +kernel
theorem dX8_divide_54 : decode cX8_divide 54 = .ok (.return_, 1) := by decide +kernel
theorem dX8_remainder_0 : decode cX8_remainder 0 = .ok (.lload_n 1, 1) := by decide +kernel
theorem dX8_remainder_1 : decode cX8_remainder 1 = .ok (.lconst 1, 1) := by decide +kernel
theorem dX8_remainder_2 : decode cX8_remainder 2 = .ok (.lcmp, 1) := by decide +kernel
theorem dX8_remainder_3 : decode cX8_remainder 3 = .ok (.ifCond .ge 5, 3) := by decide +kernel
theorem dX8_remainder_6 : decode cX8_remainder 6 = .ok (.lconst 0, 1) := by decide +kernel
theorem dX8_remainder_7 : decode cX8_remainder 7 = .ok (.lreturn, 1) := by decide +kernel
theorem dX8_remainder_8 : decode cX8_remainder 8 = .ok (.lconst 0, 1) := by decide +kernel
theorem dX8_remainder_9 : decode cX8_remainder 9 = .ok (.lstore_n 3, 1) := by decide +kernel
theorem dX8_remainder_10 : decode cX8_remainder 10 = .ok (.iconst 4, 1) := by decide +kernel
theorem dX8_remainder_11 : decode cX8_remainder 11 = .ok (.istore 5, 2) := by decide +kernel
theorem dX8_remainder_13 : decode cX8_remainder 13 = .ok (.iload 5, 2) := by decide +kernel
theorem dX8_remainder_15 : decode cX8_remainder 15 = .ok (.ifCond .lt 25, 3) := by decide +kernel
theorem dX8_remainder_18 : decode cX8_remainder 18 = .ok (.lload_n 3, 1) := by decide +kernel
theorem dX8_remainder_19 : decode cX8_remainder 19 = .ok (.ldc2_w 13, 3) := by decide +kernel
theorem dX8_remainder_22 : decode cX8_remainder 22 = .ok (.lmul, 1) := by decide +kernel
theorem dX8_remainder_23 : decode cX8_remainder 23 = .ok (.aload_n 0, 1) := by decide +kernel
theorem dX8_remainder_24 : decode cX8_remainder 24 = .ok (.getfield 9, 3) := by decide +kernel
theorem dX8_remainder_27 : decode cX8_remainder 27 = .ok (.iload 5, 2) := by decide +kernel
theorem dX8_remainder_29 : decode cX8_remainder 29 = .ok (.laload, 1) := by decide +kernel
theorem dX8_remainder_30 : decode cX8_remainder 30 = .ok (.ladd, 1) := by decide +kernel
theorem dX8_remainder_31 : decode cX8_remainder 31 = .ok (.lload_n 1, 1) := by decide +kernel
theorem dX8_remainder_32 : decode cX8_remainder 32 = .ok (.lrem, 1) := by decide +kernel
theorem dX8_remainder_33 : decode cX8_remainder 33 = .ok (.lstore_n 3, 1) := by decide +kernel
theorem dX8_remainder_34 : decode cX8_remainder 34 = .ok (.iinc 5 (-1), 3) := by decide +kernel
theorem dX8_remainder_37 : decode cX8_remainder 37 = .ok (.goto (-24), 3) := by decide +kernel
theorem dX8_remainder_40 : decode cX8_remainder 40 = .ok (.lload_n 3, 1) := by decide +kernel
theorem dX8_remainder_41 : decode cX8_remainder 41 = .ok (.lreturn, 1) := by decide +kernel
theorem dX8_lowestEighteenDigits_0 : decode cX8_lowestEighteenDigits 0 = .ok (.aload_n 0, 1) := by decide +kernel
theorem dX8_lowestEighteenDigits_1 : decode cX8_lowestEighteenDigits 1 = .ok (.getfield 9, 3) := by decide +kernel
theorem dX8_lowestEighteenDigits_4 : decode cX8_lowestEighteenDigits 4 = .ok (.iconst 1, 1) := by decide +kernel
theorem dX8_lowestEighteenDigits_5 : decode cX8_lowestEighteenDigits 5 = .ok (.laload, 1) := by decide +kernel
theorem dX8_lowestEighteenDigits_6 : decode cX8_lowestEighteenDigits 6 = .ok (.ldc2_w 13, 3) := by decide +kernel
theorem dX8_lowestEighteenDigits_9 : decode cX8_lowestEighteenDigits 9 = .ok (.lmul, 1) := by decide +kernel
theorem dX8_lowestEighteenDigits_10 : decode cX8_lowestEighteenDigits 10 = .ok (.aload_n 0, 1) := by decide +kernel
theorem dX8_lowestEighteenDigits_11 : decode cX8_lowestEighteenDigits 11 = .ok (.getfield 9, 3) := by decide +kernel
theorem dX8_lowestEighteenDigits_14 : decode cX8_lowestEighteenDigits 14 = .ok (.iconst 0, 1) := by decide +kernel
theorem dX8_lowestEighteenDigits_15 : decode cX8_lowestEighteenDigits 15 = .ok (.laload, 1) := by decide +kernel
theorem dX8_lowestEighteenDigits_16 : decode cX8_lowestEighteenDigits 16 = .ok (.ladd, 1) := by decide +kernel
theorem dX8_lowestEighteenDigits_17 : decode cX8_lowestEighteenDigits 17 = .ok (.lreturn, 1) := by decide +kernel
theorem dJ6_bitCount_0f7a4_0 : decode cJ6_bitCount_0f7a4 0 = .ok (.iload_n 0, 1) := by decide +kernel
theorem dJ6_bitCount_0f7a4_1 : decode cJ6_bitCount_0f7a4 1 = .ok (.iload_n 0, 1) := by decide +kernel
theorem dJ6_bitCount_0f7a4_2 : decode cJ6_bitCount_0f7a4 2 = .ok (.iconst 1, 1) := by decide +kernel
theorem dJ6_bitCount_0f7a4_3 : decode cJ6_bitCount_0f7a4 3 = .ok (.iushr, 1) := by decide +kernel
theorem dJ6_bitCount_0f7a4_4 : decode cJ6_bitCount_0f7a4 4 = .ok (.ldc_w 265, 3) := by decide +kernel
theorem dJ6_bitCount_0f7a4_7 : decode cJ6_bitCount_0f7a4 7 = .ok (.iand, 1) := by decide +kernel
theorem dJ6_bitCount_0f7a4_8 : decode cJ6_bitCount_0f7a4 8 = .ok (.isub, 1) := by decide +kernel
theorem dJ6_bitCount_0f7a4_9 : decode cJ6_bitCount_0f7a4 9 = .ok (.istore_n 0, 1) := by decide +kernel
theorem dJ6_bitCount_0f7a4_10 : decode cJ6_bitCount_0f7a4 10 = .ok (.iload_n 0, 1) := by decide +kernel
theorem dJ6_bitCount_0f7a4_11 : decode cJ6_bitCount_0f7a4 11 = .ok (.ldc_w 266, 3) := by decide +kernel
theorem dJ6_bitCount_0f7a4_14 : decode cJ6_bitCount_0f7a4 14 = .ok (.iand, 1) := by decide +kernel
theorem dJ6_bitCount_0f7a4_15 : decode cJ6_bitCount_0f7a4 15 = .ok (.iload_n 0, 1) := by decide +kernel
theorem dJ6_bitCount_0f7a4_16 : decode cJ6_bitCount_0f7a4 16 = .ok (.iconst 2, 1) := by decide +kernel
theorem dJ6_bitCount_0f7a4_17 : decode cJ6_bitCount_0f7a4 17 = .ok (.iushr, 1) := by decide +kernel
theorem dJ6_bitCount_0f7a4_18 : decode cJ6_bitCount_0f7a4 18 = .ok (.ldc_w 266, 3) := by decide +kernel
theorem dJ6_bitCount_0f7a4_21 : decode cJ6_bitCount_0f7a4 21 = .ok (.iand, 1) := by decide +kernel
theorem dJ6_bitCount_0f7a4_22 : decode cJ6_bitCount_0f7a4 22 = .ok (.iadd, 1) := by decide +kernel
theorem dJ6_bitCount_0f7a4_23 : decode cJ6_bitCount_0f7a4 23 = .ok (.istore_n 0, 1) := by decide +kernel
theorem dJ6_bitCount_0f7a4_24 : decode cJ6_bitCount_0f7a4 24 = .ok (.iload_n 0, 1) := by decide +kernel
theorem dJ6_bitCount_0f7a4_25 : decode cJ6_bitCount_0f7a4 25 = .ok (.iload_n 0, 1) := by decide +kernel
theorem dJ6_bitCount_0f7a4_26 : decode cJ6_bitCount_0f7a4 26 = .ok (.iconst 4, 1) := by decide +kernel
theorem dJ6_bitCount_0f7a4_27 : decode cJ6_bitCount_0f7a4 27 = .ok (.iushr, 1) := by decide +kernel
theorem dJ6_bitCount_0f7a4_28 : decode cJ6_bitCount_0f7a4 28 = .ok (.iadd, 1) := by decide +kernel
theorem dJ6_bitCount_0f7a4_29 : decode cJ6_bitCount_0f7a4 29 = .ok (.ldc_w 267, 3) := by decide +kernel
theorem dJ6_bitCount_0f7a4_32 : decode cJ6_bitCount_0f7a4 32 = .ok (.iand, 1) := by decide +kernel
theorem dJ6_bitCount_0f7a4_33 : decode cJ6_bitCount_0f7a4 33 = .ok (.istore_n 0, 1) := by decide +kernel
theorem dJ6_bitCount_0f7a4_34 : decode cJ6_bitCount_0f7a4 34 = .ok (.iload_n 0, 1) := by decide +kernel
theorem dJ6_bitCount_0f7a4_35 : decode cJ6_bitCount_0f7a4 35 = .ok (.iload_n 0, 1) := by decide +kernel
theorem dJ6_bitCount_0f7a4_36 : decode cJ6_bitCount_0f7a4 36 = .ok (.bipush 8, 2) := by decide +kernel
theorem dJ6_bitCount_0f7a4_38 : decode cJ6_bitCount_0f7a4 38 = .ok (.iushr, 1) := by decide +kernel
theorem dJ6_bitCount_0f7a4_39 : decode cJ6_bitCount_0f7a4 39 = .ok (.iadd, 1) := by decide +kernel
theorem dJ6_bitCount_0f7a4_40 : decode cJ6_bitCount_0f7a4 40 = .ok (.istore_n 0, 1) := by decide +kernel
theorem dJ6_bitCount_0f7a4_41 : decode cJ6_bitCount_0f7a4 41 = .ok (.iload_n 0, 1) := by decide +kernel
theorem dJ6_bitCount_0f7a4_42 : decode cJ6_bitCount_0f7a4 42 = .ok (.iload_n 0, 1) := by decide +kernel
theorem dJ6_bitCount_0f7a4_43 : decode cJ6_bitCount_0f7a4 43 = .ok (.bipush 16, 2) := by decide +kernel
theorem dJ6_bitCount_0f7a4_45 : decode cJ6_bitCount_0f7a4 45 = .ok (.iushr, 1) := by decide +kernel
theorem dJ6_bitCount_0f7a4_46 : decode cJ6_bitCount_0f7a4 46 = .ok (.iadd, 1) := by decide +kernel
theorem dJ6_bitCount_0f7a4_47 : decode cJ6_bitCount_0f7a4 47 = .ok (.istore_n 0, 1) := by decide +kernel
theorem dJ6_bitCount_0f7a4_48 : decode cJ6_bitCount_0f7a4 48 = .ok (.iload_n 0, 1) := by decide +kernel
theorem dJ6_bitCount_0f7a4_49 : decode cJ6_bitCount_0f7a4 49 = .ok (.bipush 63, 2) := by decide +kernel
theorem dJ6_bitCount_0f7a4_51 : decode cJ6_bitCount_0f7a4 51 = .ok (.iand, 1) := by decide +kernel
theorem dJ6_bitCount_0f7a4_52 : decode cJ6_bitCount_0f7a4 52 = .ok (.ireturn, 1) := by decide +kernel
theorem dJ9_abs_067f4_0 : decode cJ9_abs_067f4 0 = .ok (.lload_n 0, 1) := by decide +kernel
theorem dJ9_abs_067f4_1 : decode cJ9_abs_067f4 1 = .ok (.lconst 0, 1) := by decide +kernel
theorem dJ9_abs_067f4_2 : decode cJ9_abs_067f4 2 = .ok (.lcmp, 1) := by decide +kernel
theorem dJ9_abs_067f4_3 : decode cJ9_abs_067f4 3 = .ok (.ifCond .ge 8, 3) := by decide +kernel
theorem dJ9_abs_067f4_6 : decode cJ9_abs_067f4 6 = .ok (.lload_n 0, 1) := by decide +kernel
theorem dJ9_abs_067f4_7 : decode cJ9_abs_067f4 7 = .ok (.lneg, 1) := by decide +kernel
theorem dJ9_abs_067f4_8 : decode cJ9_abs_067f4 8 = .ok (.goto 4, 3) := by decide +kernel
theorem dJ9_abs_067f4_11 : decode cJ9_abs_067f4 11 = .ok (.lload_n 0, 1) := by decide +kernel
theorem dJ9_abs_067f4_12 : decode cJ9_abs_067f4 12 = .ok (.lreturn, 1) := by decide +kernel
theorem dJ9_max_7cf53_0 : decode cJ9_max_7cf53 0 = .ok (.iload_n 0, 1) := by decide +kernel
theorem dJ9_max_7cf53_1 : decode cJ9_max_7cf53 1 = .ok (.iload_n 1, 1) := by decide +kernel
theorem dJ9_max_7cf53_2 : decode cJ9_max_7cf53 2 = .ok (.if_icmp .lt 7, 3) := by decide +kernel
theorem dJ9_max_7cf53_5 : decode cJ9_max_7cf53 5 = .ok (.iload_n 0, 1) := by decide +kernel
theorem dJ9_max_7cf53_6 : decode cJ9_max_7cf53 6 = .ok (.goto 4, 3) := by decide +kernel
theorem dJ9_max_7cf53_9 : decode cJ9_max_7cf53 9 = .ok (.iload_n 1, 1) := by decide +kernel
theorem dJ9_max_7cf53_10 : decode cJ9_max_7cf53 10 = .ok (.ireturn, 1) := by decide +kernel
theorem dJ9_max_f86c9_0 : decode cJ9_max_f86c9 0 = .ok (.lload_n 0, 1) := by decide +kernel
theorem dJ9_max_f86c9_1 : decode cJ9_max_f86c9 1 = .ok (.lload_n 2, 1) := by decide +kernel
theorem dJ9_max_f86c9_2 : decode cJ9_max_f86c9 2 = .ok (.lcmp, 1) := by decide +kernel
theorem dJ9_max_f86c9_3 : decode cJ9_max_f86c9 3 = .ok (.ifCond .lt 7, 3) := by decide +kernel
theorem dJ9_max_f86c9_6 : decode cJ9_max_f86c9 6 = .ok (.lload_n 0, 1) := by decide +kernel
theorem dJ9_max_f86c9_7 : decode cJ9_max_f86c9 7 = .ok (.goto 4, 3) := by decide +kernel
theorem dJ9_max_f86c9_10 : decode cJ9_max_f86c9 10 = .ok (.lload_n 2, 1) := by decide +kernel
theorem dJ9_max_f86c9_11 : decode cJ9_max_f86c9 11 = .ok (.lreturn, 1) := by decide +kernel
end
section
def f_X6_nodeAcross (x0 : Nat) (x1 : Int32) (μ : q_M) : Option (Int32 × q_M) := (if x1 = (μ.1 x0 0) then some ((μ.1 x0 1), μ) else (if x1 = (μ.1 x0 1) then some ((μ.1 x0 0), μ) else some ((-1), μ)))
set_option maxHeartbeats 4000000 in
set_option maxRecDepth 100000 in
theorem c_X6_nodeAcross (l : Launch) (E : q_E) (hE : q_I E) (x0 : Nat) (x1 : Int32) (kx0 : q_kd x0 = 6) (μ μr : q_M) (r : Int32) (h : f_X6_nodeAcross x0 x1 μ = some (r, μr)) : Met l yX6_nodeAcross wsX6_nodeAcross ({ frames := 0, cells := 0, slots := 0, locals := 0 }) (q_Pc E μ [.ref (E.2.2.2 x0), .int x1]) (q_Qi E r μr) 0 0 (q_A E) := by
  refine q_met (cc := cX6_nodeAcross) (maxL := 2) (ret := (some .int)) hE (by decide) rfl (Nat.le_of_ble_eq_true rfl) ?_
  intro p e s m below meth c hx hb hr hml hown hts hlk F S ls hl
  have hl : lv_has ls 2 [(0, .ref (E.2.2.2 x0)), (1, .int x1)] := hl
  have i6 : ∀ w ∈ u_ws RX6 TX6 11, w ∈ wsX6_nodeAcross := by decide +kernel
  unfold f_X6_nodeAcross at h
  obtain ⟨H, eH⟩ : ∃ z, z = s.heap := ⟨_, rfl⟩
  obtain ⟨locs, eL⟩ : ∃ z : List Loc, z = [] := ⟨_, rfl⟩
  rw [← eH, ← eL] at S
  suffices hh : W p l e ({ frames := 0, cells := 0, slots := 0, locals := 0 }) s m ([.ref (E.2.2.2 x0), .int x1] : List Value).toArray below meth c H locs 0 0 (MQ below (q_Qi E r μr) ([.ref (E.2.2.2 x0), .int x1] : List Value).toArray s 0 0 (q_A E)) (F0 m 0 ls []) by rw [eH, eL] at hh; exact hh
  refine lv_iload_n hx hb dX6_nodeAcross_0 rfl (lv_at hl 1 rfl) ?_
  refine lv_aload_n hx hb dX6_nodeAcross_1 rfl (lv_at hl 0 rfl) ?_
  refine q_geti (own := RX6) (C := RX6) (T := TX6) (N := 11) (ci := 6) (j := 0)  hx hb hts i6 hown F S kx0 (by decide) rfl (by decide) (by decide) rfl (hts (.fieldLink RX6 22 "HeavyRoutes$Road" "endA" "I") (by decide +kernel)) dX6_nodeAcross_2 ?_
  refine lv_icmp_ne (tgt := 13) hx hb dX6_nodeAcross_5 (by decide) (fun c1 => ?_) (fun c1 => ?_)
  · have h := q_ig c1 h
    refine lv_iload_n hx hb dX6_nodeAcross_13 rfl (lv_at hl 1 rfl) ?_
    refine lv_aload_n hx hb dX6_nodeAcross_14 rfl (lv_at hl 0 rfl) ?_
    refine q_geti (own := RX6) (C := RX6) (T := TX6) (N := 11) (ci := 6) (j := 1)  hx hb hts i6 hown F S kx0 (by decide) rfl (by decide) (by decide) rfl (hts (.fieldLink RX6 25 "HeavyRoutes$Road" "endB" "I") (by decide +kernel)) dX6_nodeAcross_15 ?_
    refine lv_icmp_ne (tgt := 28) hx hb dX6_nodeAcross_18 (by decide) (fun c2 => ?_) (fun c2 => ?_)
    · have h := q_ig c2 h
      refine lv_iconst (v := (-1)) hx hb dX6_nodeAcross_28 (by decide) ?_
      exact q_iret hx hb hr S h hlk dX6_nodeAcross_29
    · have h := q_ip c2 h
      refine lv_aload_n hx hb dX6_nodeAcross_21 rfl (lv_at hl 0 rfl) ?_
      refine q_geti (own := RX6) (C := RX6) (T := TX6) (N := 11) (ci := 6) (j := 0)  hx hb hts i6 hown F S kx0 (by decide) rfl (by decide) (by decide) rfl (hts (.fieldLink RX6 22 "HeavyRoutes$Road" "endA" "I") (by decide +kernel)) dX6_nodeAcross_22 ?_
      refine lv_goto (tgt := 29) hx hb dX6_nodeAcross_25 (by decide) ?_
      exact q_iret hx hb hr S h hlk dX6_nodeAcross_29
  · have h := q_ip c1 h
    refine lv_aload_n hx hb dX6_nodeAcross_8 rfl (lv_at hl 0 rfl) ?_
    refine q_geti (own := RX6) (C := RX6) (T := TX6) (N := 11) (ci := 6) (j := 1)  hx hb hts i6 hown F S kx0 (by decide) rfl (by decide) (by decide) rfl (hts (.fieldLink RX6 25 "HeavyRoutes$Road" "endB" "I") (by decide +kernel)) dX6_nodeAcross_9 ?_
    exact q_iret hx hb hr S h hlk dX6_nodeAcross_12
def L_X6_waitAt_4 (x0 : Nat) (x1 : Int32) (Kx : Int32 → q_M → Option (Int32 × q_M)) : Nat → Int32 → Int32 → q_M → Option (Int32 × q_M)
  | 0, _, _, _ => none
  | n + 1, v2, v3, μ => (if (μ.1 x0 8) ≤ v3 then Kx v2 μ else q_gd (q_ix v3 3) (q_le ((q_ri (((μ.1 (x0 + 24) v3.toNatClampNeg) - (μ.1 (x0 + 12) v3.toNatClampNeg)) + 1440) 1440) : Int32) (fun y3 => q_le ((q_ri ((x1 - (μ.1 (x0 + 12) v3.toNatClampNeg)) + 1440) 1440) : Int32) (fun y4 => q_le ((if v2 < ((y3 - y4) + 1) then ((y3 - y4) + 1) else v2) : Int32) (fun y5 => q_le (v3 + 1 : Int32) (fun y6 => (L_X6_waitAt_4 x0 x1 Kx n) y5 y6 μ))))))
def f_X6_waitAt (x0 : Nat) (x1 : Int32) (μ : q_M) : Option (Int32 × q_M) := L_X6_waitAt_4 x0 x1 (fun v2 μ => some (v2, μ)) q_fu 0 0 μ
set_option maxHeartbeats 4000000 in
set_option maxRecDepth 100000 in
theorem c_X6_waitAt (l : Launch) (E : q_E) (hE : q_I E) (x0 : Nat) (x1 : Int32) (kx0 : q_kd x0 = 6) (μ μr : q_M) (r : Int32) (h : f_X6_waitAt x0 x1 μ = some (r, μr)) : Met l yX6_waitAt wsX6_waitAt ({ frames := 1, cells := 0, slots := 0, locals := 40 }) (q_Pc E μ [.ref (E.2.2.2 x0), .int x1]) (q_Qi E r μr) 0 0 (q_A E) := by
  refine q_met (cc := cX6_waitAt) (maxL := 6) (ret := (some .int)) hE (by decide) rfl (Nat.le_of_ble_eq_true rfl) ?_
  intro p e s m below meth c hx hb hr hml hown hts hlk F S ls hl
  have hl : lv_has ls 6 [(0, .ref (E.2.2.2 x0)), (1, .int x1)] := hl
  have i6 : ∀ w ∈ u_ws RX6 TX6 11, w ∈ wsX6_waitAt := by decide +kernel
  have hL4 : ∀ (Kx : Int32 → q_M → Option (Int32 × q_M)), (∀ (v2 : Int32), ∀ (μ : q_M) (H : Heap) (locs : List Loc) (ls : Array Slot), q_S E (q_A E) s μ H locs → lv_has ls 6 [(2, .int v2)] → Kx v2 μ = some (r, μr) → W p l e ({ frames := 1, cells := 0, slots := 0, locals := 40 }) s m ([.ref (E.2.2.2 x0), .int x1] : List Value).toArray below meth c H locs 0 0 (MQ below (q_Qi E r μr) ([.ref (E.2.2.2 x0), .int x1] : List Value).toArray s 0 0 (q_A E)) (F0 m 71 ls [])) → ∀ (n : Nat), ∀ (v2 : Int32), ∀ (v3 : Int32), ∀ (μ : q_M) (H : Heap) (locs : List Loc) (ls : Array Slot), q_S E (q_A E) s μ H locs → lv_has ls 6 [(0, .ref (E.2.2.2 x0)), (1, .int x1), (2, .int v2), (3, .int v3)] → L_X6_waitAt_4 x0 x1 Kx n v2 v3 μ = some (r, μr) → W p l e ({ frames := 1, cells := 0, slots := 0, locals := 40 }) s m ([.ref (E.2.2.2 x0), .int x1] : List Value).toArray below meth c H locs 0 0 (MQ below (q_Qi E r μr) ([.ref (E.2.2.2 x0), .int x1] : List Value).toArray s 0 0 (q_A E)) (F0 m 4 ls []) := by
    intro Kx hKx n
    induction n with
    | zero => intro v2 v3 μ H locs ls S hl h; exact absurd h (by simp [L_X6_waitAt_4])
    | succ n ih =>
      intro v2 v3 μ H locs ls S hl h
      rw [L_X6_waitAt_4] at h
      refine lv_iload_n hx hb dX6_waitAt_4 rfl (lv_at hl 3 rfl) ?_
      refine lv_aload_n hx hb dX6_waitAt_5 rfl (lv_at hl 0 rfl) ?_
      refine q_geti (own := RX6) (C := RX6) (T := TX6) (N := 11) (ci := 6) (j := 8)  hx hb hts i6 hown F S kx0 (by decide) rfl (by decide) (by decide) rfl (hts (.fieldLink RX6 48 "HeavyRoutes$Road" "barCount" "I") (by decide +kernel)) dX6_waitAt_6 ?_
      refine lv_icmp_ge (tgt := 71) hx hb dX6_waitAt_9 (by decide) (fun c1 => ?_) (fun c1 => ?_)
      · have h := q_ip c1 h
        exact hKx v2 μ H locs ls S (lv_sub hl [2] rfl) h
      · have h := q_ig c1 h
        refine lv_aload_n hx hb dX6_waitAt_12 rfl (lv_at hl 0 rfl) ?_
        refine q_getr (own := RX6) (C := RX6) (T := TX6) (N := 11) (ci := 6) (j := 10)  hx hb hts i6 hown F S kx0 (by decide) rfl (by decide) (by decide) rfl (q_p_6_10 kx0) (hts (.fieldLink RX6 19 "HeavyRoutes$Road" "barTo" "[I") (by decide +kernel)) dX6_waitAt_13 ?_
        refine lv_iload_n hx hb dX6_waitAt_16 rfl (lv_at hl 3 rfl) ?_
        obtain ⟨g2, h⟩ := q_gd_some h
        refine q_iald hx hb F S (q_k_6_10 kx0) (q_n_6_10 kx0) g2 dX6_waitAt_17 ?_
        refine lv_aload_n hx hb dX6_waitAt_18 rfl (lv_at hl 0 rfl) ?_
        refine q_getr (own := RX6) (C := RX6) (T := TX6) (N := 11) (ci := 6) (j := 9)  hx hb hts i6 hown F S kx0 (by decide) rfl (by decide) (by decide) rfl (q_p_6_9 kx0) (hts (.fieldLink RX6 15 "HeavyRoutes$Road" "barFrom" "[I") (by decide +kernel)) dX6_waitAt_19 ?_
        refine lv_iload_n hx hb dX6_waitAt_22 rfl (lv_at hl 3 rfl) ?_
        refine q_iald hx hb F S (q_k_6_9 kx0) (q_n_6_9 kx0) g2 dX6_waitAt_23 ?_
        refine lv_isub hx hb dX6_waitAt_24 ?_
        refine lv_sipush (v := 1440) hx hb dX6_waitAt_25 (by decide) ?_
        refine lv_iadd hx hb dX6_waitAt_28 ?_
        refine lv_sipush (v := 1440) hx hb dX6_waitAt_29 (by decide) ?_
        refine lv_irem hx hb dX6_waitAt_32 (by decide) ?_
        refine lv_topi (fun y3 ey3 => ?_)
        have h := q_le_e h ey3
        refine lv_istore (lv' := [(4, .int y3), (0, .ref (E.2.2.2 x0)), (1, .int x1), (2, .int v2), (3, .int v3)]) hx hb dX6_waitAt_33 hl (by decide) rfl (fun ls hl => ?_)
        refine lv_iload_n hx hb dX6_waitAt_35 rfl (lv_at hl 2 rfl) ?_
        refine lv_aload_n hx hb dX6_waitAt_36 rfl (lv_at hl 1 rfl) ?_
        refine q_getr (own := RX6) (C := RX6) (T := TX6) (N := 11) (ci := 6) (j := 9)  hx hb hts i6 hown F S kx0 (by decide) rfl (by decide) (by decide) rfl (q_p_6_9 kx0) (hts (.fieldLink RX6 15 "HeavyRoutes$Road" "barFrom" "[I") (by decide +kernel)) dX6_waitAt_37 ?_
        refine lv_iload_n hx hb dX6_waitAt_40 rfl (lv_at hl 4 rfl) ?_
        refine q_iald hx hb F S (q_k_6_9 kx0) (q_n_6_9 kx0) g2 dX6_waitAt_41 ?_
        refine lv_isub hx hb dX6_waitAt_42 ?_
        refine lv_sipush (v := 1440) hx hb dX6_waitAt_43 (by decide) ?_
        refine lv_iadd hx hb dX6_waitAt_46 ?_
        refine lv_sipush (v := 1440) hx hb dX6_waitAt_47 (by decide) ?_
        refine lv_irem hx hb dX6_waitAt_50 (by decide) ?_
        refine lv_topi (fun y4 ey4 => ?_)
        have h := q_le_e h ey4
        refine lv_istore (lv' := [(5, .int y4), (4, .int y3), (0, .ref (E.2.2.2 x0)), (1, .int x1), (2, .int v2), (3, .int v3)]) hx hb dX6_waitAt_51 hl (by decide) rfl (fun ls hl => ?_)
        refine lv_iload_n hx hb dX6_waitAt_53 rfl (lv_at hl 4 rfl) ?_
        refine lv_iload hx hb dX6_waitAt_54 (lv_at hl 1 rfl) ?_
        refine lv_iload hx hb dX6_waitAt_56 (lv_at hl 0 rfl) ?_
        refine lv_isub hx hb dX6_waitAt_58 ?_
        refine lv_iconst (v := 1) hx hb dX6_waitAt_59 (by decide) ?_
        refine lv_iadd hx hb dX6_waitAt_60 ?_
        refine va_mmax hx hb (hml.trans hl.1.symm) hown (hts (.methodLink RX6 54 Lib.Math.max.name) (by decide +kernel)) (hts (.static Lib.Math.max.name) (by decide +kernel)) (hts (.initialized "java/lang/Math") (by decide +kernel)) (hts (.code Lib.Math.max.name Lib.Math.max.code 2 (some .int)) (by decide +kernel)) (Nat.le_of_ble_eq_true rfl) (Nat.le_of_ble_eq_true rfl) (Nat.zero_le _) (Nat.zero_le _) dX6_waitAt_61 ?_
        refine lv_topi (fun y5 ey5 => ?_)
        have h := q_le_e h ey5
        refine lv_istore_n (lv' := [(2, .int y5), (5, .int y4), (4, .int y3), (0, .ref (E.2.2.2 x0)), (1, .int x1), (3, .int v3)]) hx hb dX6_waitAt_64 rfl hl (by decide) rfl (fun ls hl => ?_)
        obtain ⟨y6, ey6⟩ : ∃ z : Int32, z = v3 + 1 := ⟨_, rfl⟩
        have h := q_le_e h ey6
        refine lv_iinc (v := y6) (lv' := [(3, .int y6), (2, .int y5), (5, .int y4), (4, .int y3), (0, .ref (E.2.2.2 x0)), (1, .int x1)]) hx hb dX6_waitAt_65 hl (k := 5) rfl (by rw [ey6]; rfl) (by decide) rfl (fun ls hl => ?_)
        refine lv_goto (tgt := 4) hx hb dX6_waitAt_68 (by decide) ?_
        exact ih y5 y6 μ H locs ls S (lv_sub hl [4, 5, 1, 0] rfl) h
  unfold f_X6_waitAt at h
  obtain ⟨H, eH⟩ : ∃ z, z = s.heap := ⟨_, rfl⟩
  obtain ⟨locs, eL⟩ : ∃ z : List Loc, z = [] := ⟨_, rfl⟩
  rw [← eH, ← eL] at S
  suffices hh : W p l e ({ frames := 1, cells := 0, slots := 0, locals := 40 }) s m ([.ref (E.2.2.2 x0), .int x1] : List Value).toArray below meth c H locs 0 0 (MQ below (q_Qi E r μr) ([.ref (E.2.2.2 x0), .int x1] : List Value).toArray s 0 0 (q_A E)) (F0 m 0 ls []) by rw [eH, eL] at hh; exact hh
  refine lv_iconst (v := 0) hx hb dX6_waitAt_0 (by decide) ?_
  refine lv_istore_n (lv' := [(2, .int 0), (0, .ref (E.2.2.2 x0)), (1, .int x1)]) hx hb dX6_waitAt_1 rfl hl (by decide) rfl (fun ls hl => ?_)
  refine lv_iconst (v := 0) hx hb dX6_waitAt_2 (by decide) ?_
  refine lv_istore_n (lv' := [(3, .int 0), (2, .int 0), (0, .ref (E.2.2.2 x0)), (1, .int x1)]) hx hb dX6_waitAt_3 rfl hl (by decide) rfl (fun ls hl => ?_)
  refine hL4 _ (fun v2 μ H locs ls S hl h => ?_) q_fu 0 0 μ H locs ls S (lv_sub hl [2, 3, 1, 0] rfl) h
  refine lv_iload_n hx hb dX6_waitAt_71 rfl (lv_at hl 0 rfl) ?_
  exact q_iret hx hb hr S h hlk dX6_waitAt_72
def L_X6_earliestStart_4 (x0 : Nat) (x1 : Int32) (Kx : q_M → Option (Int32 × q_M)) : Nat → Int32 → Int32 → q_M → Option (Int32 × q_M)
  | 0, _, _, _ => none
  | n + 1, v2, v3, μ => (if (μ.1 x0 8) < v3 then Kx μ else q_bd (f_X6_waitAt x0 (q_ri v2 1440) μ) (fun r4 μ2 => (if r4 = 0 then some (v2, μ2) else q_le ((v2 + r4) : Int32) (fun y6 => q_le (v3 + 1 : Int32) (fun y7 => (L_X6_earliestStart_4 x0 x1 Kx n) y6 y7 μ2)))))
def f_X6_earliestStart (x0 : Nat) (x1 : Int32) (μ : q_M) : Option (Int32 × q_M) := L_X6_earliestStart_4 x0 x1 (fun μ => some ((-1), μ)) q_fu x1 0 μ
set_option maxHeartbeats 4000000 in
set_option maxRecDepth 100000 in
theorem c_X6_earliestStart (l : Launch) (E : q_E) (hE : q_I E) (x0 : Nat) (x1 : Int32) (kx0 : q_kd x0 = 6) (μ μr : q_M) (r : Int32) (h : f_X6_earliestStart x0 x1 μ = some (r, μr)) : Met l yX6_earliestStart wsX6_earliestStart ({ frames := 2, cells := 0, slots := 0, locals := 65 }) (q_Pc E μ [.ref (E.2.2.2 x0), .int x1]) (q_Qi E r μr) 0 0 (q_A E) := by
  refine q_met (cc := cX6_earliestStart) (maxL := 5) (ret := (some .int)) hE (by decide) rfl (Nat.le_of_ble_eq_true rfl) ?_
  intro p e s m below meth c hx hb hr hml hown hts hlk F S ls hl
  have hl : lv_has ls 5 [(0, .ref (E.2.2.2 x0)), (1, .int x1)] := hl
  have i6 : ∀ w ∈ u_ws RX6 TX6 11, w ∈ wsX6_earliestStart := by decide +kernel
  have hL4 : ∀ (Kx : q_M → Option (Int32 × q_M)), (∀ (μ : q_M) (H : Heap) (locs : List Loc) (ls : Array Slot), q_S E (q_A E) s μ H locs → lv_has ls 5 [] → Kx μ = some (r, μr) → W p l e ({ frames := 2, cells := 0, slots := 0, locals := 65 }) s m ([.ref (E.2.2.2 x0), .int x1] : List Value).toArray below meth c H locs 0 0 (MQ below (q_Qi E r μr) ([.ref (E.2.2.2 x0), .int x1] : List Value).toArray s 0 0 (q_A E)) (F0 m 41 ls [])) → ∀ (n : Nat), ∀ (v2 : Int32), ∀ (v3 : Int32), ∀ (μ : q_M) (H : Heap) (locs : List Loc) (ls : Array Slot), q_S E (q_A E) s μ H locs → lv_has ls 5 [(0, .ref (E.2.2.2 x0)), (2, .int v2), (3, .int v3)] → L_X6_earliestStart_4 x0 x1 Kx n v2 v3 μ = some (r, μr) → W p l e ({ frames := 2, cells := 0, slots := 0, locals := 65 }) s m ([.ref (E.2.2.2 x0), .int x1] : List Value).toArray below meth c H locs 0 0 (MQ below (q_Qi E r μr) ([.ref (E.2.2.2 x0), .int x1] : List Value).toArray s 0 0 (q_A E)) (F0 m 4 ls []) := by
    intro Kx hKx n
    induction n with
    | zero => intro v2 v3 μ H locs ls S hl h; exact absurd h (by simp [L_X6_earliestStart_4])
    | succ n ih =>
      intro v2 v3 μ H locs ls S hl h
      rw [L_X6_earliestStart_4] at h
      refine lv_iload_n hx hb dX6_earliestStart_4 rfl (lv_at hl 2 rfl) ?_
      refine lv_aload_n hx hb dX6_earliestStart_5 rfl (lv_at hl 0 rfl) ?_
      refine q_geti (own := RX6) (C := RX6) (T := TX6) (N := 11) (ci := 6) (j := 8)  hx hb hts i6 hown F S kx0 (by decide) rfl (by decide) (by decide) rfl (hts (.fieldLink RX6 48 "HeavyRoutes$Road" "barCount" "I") (by decide +kernel)) dX6_earliestStart_6 ?_
      refine lv_icmp_gt (tgt := 41) hx hb dX6_earliestStart_9 (by decide) (fun c1 => ?_) (fun c1 => ?_)
      · have h := q_ip c1 h
        exact hKx μ H locs ls S (lv_sub hl [] rfl) h
      · have h := q_ig c1 h
        refine lv_aload_n hx hb dX6_earliestStart_12 rfl (lv_at hl 0 rfl) ?_
        refine lv_iload_n hx hb dX6_earliestStart_13 rfl (lv_at hl 1 rfl) ?_
        refine lv_sipush (v := 1440) hx hb dX6_earliestStart_14 (by decide) ?_
        refine lv_irem hx hb dX6_earliestStart_17 (by decide) ?_
        obtain ⟨r4, μ2, hc3, h⟩ := q_bd_some h
        refine q_ki F S (q_runV (As := [.int (q_ri v2 1440)]) (rest := []) (b := x0) ⟨hx, hb, hml, hown, hts⟩ F S (c_X6_waitAt l E hE x0 (q_ri v2 1440) kx0 μ μ2 r4 hc3) (cwV 1 hts gX6_earliestStart_X6_waitAt rfl rfl rfl (by decide +kernel) ⟨Nat.le_of_ble_eq_true rfl, Nat.le_of_ble_eq_true rfl⟩) kx0 (by decide) rfl rfl hl.1 rfl (by decide) dX6_earliestStart_18 ⟨Nat.zero_le _, Nat.zero_le _⟩) (fun H locs S => ?_)
        refine lv_istore (lv' := [(4, .int r4), (0, .ref (E.2.2.2 x0)), (2, .int v2), (3, .int v3)]) hx hb dX6_earliestStart_21 hl (by decide) rfl (fun ls hl => ?_)
        refine lv_iload hx hb dX6_earliestStart_23 (lv_at hl 0 rfl) ?_
        refine lv_if_ne (tgt := 30) hx hb dX6_earliestStart_25 (by decide) (fun c5 => ?_) (fun c5 => ?_)
        · have h := q_ig c5 h
          refine lv_iload_n hx hb dX6_earliestStart_30 rfl (lv_at hl 2 rfl) ?_
          refine lv_iload hx hb dX6_earliestStart_31 (lv_at hl 0 rfl) ?_
          refine lv_iadd hx hb dX6_earliestStart_33 ?_
          refine lv_topi (fun y6 ey6 => ?_)
          have h := q_le_e h ey6
          refine lv_istore_n (lv' := [(2, .int y6), (4, .int r4), (0, .ref (E.2.2.2 x0)), (3, .int v3)]) hx hb dX6_earliestStart_34 rfl hl (by decide) rfl (fun ls hl => ?_)
          obtain ⟨y7, ey7⟩ : ∃ z : Int32, z = v3 + 1 := ⟨_, rfl⟩
          have h := q_le_e h ey7
          refine lv_iinc (v := y7) (lv' := [(3, .int y7), (2, .int y6), (4, .int r4), (0, .ref (E.2.2.2 x0))]) hx hb dX6_earliestStart_35 hl (k := 3) rfl (by rw [ey7]; rfl) (by decide) rfl (fun ls hl => ?_)
          refine lv_goto (tgt := 4) hx hb dX6_earliestStart_38 (by decide) ?_
          exact ih y6 y7 μ2 H locs ls S (lv_sub hl [3, 1, 0] rfl) h
        · have h := q_ip c5 h
          refine lv_iload_n hx hb dX6_earliestStart_28 rfl (lv_at hl 2 rfl) ?_
          exact q_iret hx hb hr S h hlk dX6_earliestStart_29
  unfold f_X6_earliestStart at h
  obtain ⟨H, eH⟩ : ∃ z, z = s.heap := ⟨_, rfl⟩
  obtain ⟨locs, eL⟩ : ∃ z : List Loc, z = [] := ⟨_, rfl⟩
  rw [← eH, ← eL] at S
  suffices hh : W p l e ({ frames := 2, cells := 0, slots := 0, locals := 65 }) s m ([.ref (E.2.2.2 x0), .int x1] : List Value).toArray below meth c H locs 0 0 (MQ below (q_Qi E r μr) ([.ref (E.2.2.2 x0), .int x1] : List Value).toArray s 0 0 (q_A E)) (F0 m 0 ls []) by rw [eH, eL] at hh; exact hh
  refine lv_iload_n hx hb dX6_earliestStart_0 rfl (lv_at hl 1 rfl) ?_
  refine lv_istore_n (lv' := [(2, .int x1), (0, .ref (E.2.2.2 x0)), (1, .int x1)]) hx hb dX6_earliestStart_1 rfl hl (by decide) rfl (fun ls hl => ?_)
  refine lv_iconst (v := 0) hx hb dX6_earliestStart_2 (by decide) ?_
  refine lv_istore_n (lv' := [(3, .int 0), (2, .int x1), (0, .ref (E.2.2.2 x0)), (1, .int x1)]) hx hb dX6_earliestStart_3 rfl hl (by decide) rfl (fun ls hl => ?_)
  refine hL4 _ (fun μ H locs ls S hl h => ?_) q_fu x1 0 μ H locs ls S (lv_sub hl [2, 1, 0] rfl) h
  refine lv_iconst (v := (-1)) hx hb dX6_earliestStart_41 (by decide) ?_
  exact q_iret hx hb hr S h hlk dX6_earliestStart_42
def f_X6_lay (x0 : Nat) (x1 : Int32) (x2 : Int32) (x3 : Int32) (x4 : Int32) (x5 : Int32) (μ : q_M) : Option (Unit × q_M) := q_le (q_si μ x0 0 x1) (fun μ1 => q_le (q_si μ1 x0 1 x2) (fun μ2 => q_le (q_si μ2 x0 2 x3) (fun μ3 => q_le (q_si μ3 x0 3 x4) (fun μ4 => q_le (q_si μ4 x0 4 x5) (fun μ5 => q_le (q_si μ5 x0 5 1) (fun μ6 => some ((), μ6)))))))
set_option maxHeartbeats 4000000 in
set_option maxRecDepth 100000 in
theorem c_X6_lay (l : Launch) (E : q_E) (hE : q_I E) (x0 : Nat) (x1 : Int32) (x2 : Int32) (x3 : Int32) (x4 : Int32) (x5 : Int32) (kx0 : q_kd x0 = 6) (μ μr : q_M) (r : Unit) (h : f_X6_lay x0 x1 x2 x3 x4 x5 μ = some (r, μr)) : Met l yX6_lay wsX6_lay ({ frames := 0, cells := 0, slots := 0, locals := 0 }) (q_Pc E μ [.ref (E.2.2.2 x0), .int x1, .int x2, .int x3, .int x4, .int x5]) (q_Qv E r μr) 0 0 (q_A E) := by
  refine q_met (cc := cX6_lay) (maxL := 6) (ret := none) hE (by decide) rfl (Nat.le_of_ble_eq_true rfl) ?_
  intro p e s m below meth c hx hb hr hml hown hts hlk F S ls hl
  have hl : lv_has ls 6 [(0, .ref (E.2.2.2 x0)), (1, .int x1), (2, .int x2), (3, .int x3), (4, .int x4), (5, .int x5)] := hl
  have i6 : ∀ w ∈ u_ws RX6 TX6 11, w ∈ wsX6_lay := by decide +kernel
  unfold f_X6_lay at h
  obtain ⟨H, eH⟩ : ∃ z, z = s.heap := ⟨_, rfl⟩
  obtain ⟨locs, eL⟩ : ∃ z : List Loc, z = [] := ⟨_, rfl⟩
  rw [← eH, ← eL] at S
  suffices hh : W p l e ({ frames := 0, cells := 0, slots := 0, locals := 0 }) s m ([.ref (E.2.2.2 x0), .int x1, .int x2, .int x3, .int x4, .int x5] : List Value).toArray below meth c H locs 0 0 (MQ below (q_Qv E r μr) ([.ref (E.2.2.2 x0), .int x1, .int x2, .int x3, .int x4, .int x5] : List Value).toArray s 0 0 (q_A E)) (F0 m 0 ls []) by rw [eH, eL] at hh; exact hh
  refine lv_aload_n hx hb dX6_lay_0 rfl (lv_at hl 0 rfl) ?_
  refine lv_iload_n hx hb dX6_lay_1 rfl (lv_at hl 1 rfl) ?_
  refine q_puti (own := RX6) (C := RX6) (T := TX6) (N := 11) (ci := 6) (j := 0)  hx hb hts i6 tyX6 tyX6_ok nmX6 hown F S kx0 (by decide) rfl (by decide) (by decide) rfl (hts (.fieldLink RX6 22 "HeavyRoutes$Road" "endA" "I") (by decide +kernel)) rfl (by decide +kernel) dX6_lay_2 (fun H locs μ1 eμ1 S => ?_)
  have h := q_le_e h eμ1
  refine lv_aload_n hx hb dX6_lay_5 rfl (lv_at hl 0 rfl) ?_
  refine lv_iload_n hx hb dX6_lay_6 rfl (lv_at hl 2 rfl) ?_
  refine q_puti (own := RX6) (C := RX6) (T := TX6) (N := 11) (ci := 6) (j := 1)  hx hb hts i6 tyX6 tyX6_ok nmX6 hown F S kx0 (by decide) rfl (by decide) (by decide) rfl (hts (.fieldLink RX6 25 "HeavyRoutes$Road" "endB" "I") (by decide +kernel)) rfl (by decide +kernel) dX6_lay_7 (fun H locs μ2 eμ2 S => ?_)
  have h := q_le_e h eμ2
  refine lv_aload_n hx hb dX6_lay_10 rfl (lv_at hl 0 rfl) ?_
  refine lv_iload_n hx hb dX6_lay_11 rfl (lv_at hl 3 rfl) ?_
  refine q_puti (own := RX6) (C := RX6) (T := TX6) (N := 11) (ci := 6) (j := 2)  hx hb hts i6 tyX6 tyX6_ok nmX6 hown F S kx0 (by decide) rfl (by decide) (by decide) rfl (hts (.fieldLink RX6 28 "HeavyRoutes$Road" "minutes" "I") (by decide +kernel)) rfl (by decide +kernel) dX6_lay_12 (fun H locs μ3 eμ3 S => ?_)
  have h := q_le_e h eμ3
  refine lv_aload_n hx hb dX6_lay_15 rfl (lv_at hl 0 rfl) ?_
  refine lv_iload hx hb dX6_lay_16 (lv_at hl 4 rfl) ?_
  refine q_puti (own := RX6) (C := RX6) (T := TX6) (N := 11) (ci := 6) (j := 3)  hx hb hts i6 tyX6 tyX6_ok nmX6 hown F S kx0 (by decide) rfl (by decide) (by decide) rfl (hts (.fieldLink RX6 31 "HeavyRoutes$Road" "height" "I") (by decide +kernel)) rfl (by decide +kernel) dX6_lay_18 (fun H locs μ4 eμ4 S => ?_)
  have h := q_le_e h eμ4
  refine lv_aload_n hx hb dX6_lay_21 rfl (lv_at hl 0 rfl) ?_
  refine lv_iload hx hb dX6_lay_22 (lv_at hl 5 rfl) ?_
  refine q_puti (own := RX6) (C := RX6) (T := TX6) (N := 11) (ci := 6) (j := 4)  hx hb hts i6 tyX6 tyX6_ok nmX6 hown F S kx0 (by decide) rfl (by decide) (by decide) rfl (hts (.fieldLink RX6 34 "HeavyRoutes$Road" "width" "I") (by decide +kernel)) rfl (by decide +kernel) dX6_lay_24 (fun H locs μ5 eμ5 S => ?_)
  have h := q_le_e h eμ5
  refine lv_aload_n hx hb dX6_lay_27 rfl (lv_at hl 0 rfl) ?_
  refine lv_iconst (v := 1) hx hb dX6_lay_28 (by decide) ?_
  refine q_putz (own := RX6) (C := RX6) (T := TX6) (N := 11) (ci := 6) (j := 5)  hx hb hts i6 tyX6 tyX6_ok nmX6 hown F S kx0 (by decide) rfl (by decide) (by decide) rfl (hts (.fieldLink RX6 37 "HeavyRoutes$Road" "open" "Z") (by decide +kernel)) rfl (by decide +kernel) (by decide) dX6_lay_29 (fun H locs μ6 eμ6 S => ?_)
  have h := q_le_e h eμ6
  exact q_vret hx hb hr S h hlk dX6_lay_32
def f_X6_meets (x0 : Nat) (x1 : Nat) (μ : q_M) : Option (Int32 × q_M) := q_bd (f_X6_nodeAcross x1 (μ.1 x0 0) μ) (fun r3 μ1 => (if r3 = (-1) then q_bd (f_X6_nodeAcross x1 (μ1.1 x0 1) μ1) (fun r7 μ5 => (if r7 = (-1) then some (0, μ5) else some (1, μ5))) else some (1, μ1)))
set_option maxHeartbeats 4000000 in
set_option maxRecDepth 100000 in
theorem c_X6_meets (l : Launch) (E : q_E) (hE : q_I E) (x0 : Nat) (x1 : Nat) (kx0 : q_kd x0 = 6) (kx1 : q_kd x1 = 6) (μ μr : q_M) (r : Int32) (h : f_X6_meets x0 x1 μ = some (r, μr)) : Met l yX6_meets wsX6_meets ({ frames := 1, cells := 0, slots := 0, locals := 21 }) (q_Pc E μ [.ref (E.2.2.2 x0), .ref (E.2.2.2 x1)]) (q_Qi E r μr) 0 0 (q_A E) := by
  refine q_met (cc := cX6_meets) (maxL := 2) (ret := (some .boolean)) hE (by decide) rfl (Nat.le_of_ble_eq_true rfl) ?_
  intro p e s m below meth c hx hb hr hml hown hts hlk F S ls hl
  have hl : lv_has ls 2 [(0, .ref (E.2.2.2 x0)), (1, .ref (E.2.2.2 x1))] := hl
  have i6 : ∀ w ∈ u_ws RX6 TX6 11, w ∈ wsX6_meets := by decide +kernel
  unfold f_X6_meets at h
  obtain ⟨H, eH⟩ : ∃ z, z = s.heap := ⟨_, rfl⟩
  obtain ⟨locs, eL⟩ : ∃ z : List Loc, z = [] := ⟨_, rfl⟩
  rw [← eH, ← eL] at S
  suffices hh : W p l e ({ frames := 1, cells := 0, slots := 0, locals := 21 }) s m ([.ref (E.2.2.2 x0), .ref (E.2.2.2 x1)] : List Value).toArray below meth c H locs 0 0 (MQ below (q_Qi E r μr) ([.ref (E.2.2.2 x0), .ref (E.2.2.2 x1)] : List Value).toArray s 0 0 (q_A E)) (F0 m 0 ls []) by rw [eH, eL] at hh; exact hh
  refine lv_aload_n hx hb dX6_meets_0 rfl (lv_at hl 1 rfl) ?_
  refine lv_aload_n hx hb dX6_meets_1 rfl (lv_at hl 0 rfl) ?_
  refine q_geti (own := RX6) (C := RX6) (T := TX6) (N := 11) (ci := 6) (j := 0)  hx hb hts i6 hown F S kx0 (by decide) rfl (by decide) (by decide) rfl (hts (.fieldLink RX6 22 "HeavyRoutes$Road" "endA" "I") (by decide +kernel)) dX6_meets_2 ?_
  obtain ⟨r3, μ1, hc2, h⟩ := q_bd_some h
  refine q_ki F S (q_runV (As := [.int (μ.1 x0 0)]) (rest := []) (b := x1) ⟨hx, hb, hml, hown, hts⟩ F S (c_X6_nodeAcross l E hE x1 (μ.1 x0 0) kx1 μ μ1 r3 hc2) (cwV 1 hts gX6_meets_X6_nodeAcross rfl rfl rfl (by decide +kernel) ⟨Nat.le_of_ble_eq_true rfl, Nat.le_of_ble_eq_true rfl⟩) kx1 (by decide) rfl rfl hl.1 rfl (by decide) dX6_meets_5 ⟨Nat.zero_le _, Nat.zero_le _⟩) (fun H locs S => ?_)
  refine lv_iconst (v := (-1)) hx hb dX6_meets_8 (by decide) ?_
  refine lv_icmp_ne (tgt := 24) hx hb dX6_meets_9 (by decide) (fun c4 => ?_) (fun c4 => ?_)
  · have h := q_ig c4 h
    refine lv_iconst (v := 1) hx hb dX6_meets_24 (by decide) ?_
    refine lv_goto (tgt := 29) hx hb dX6_meets_25 (by decide) ?_
    exact q_zret hx hb hr S (by decide) h hlk dX6_meets_29
  · have h := q_ip c4 h
    refine lv_aload_n hx hb dX6_meets_12 rfl (lv_at hl 1 rfl) ?_
    refine lv_aload_n hx hb dX6_meets_13 rfl (lv_at hl 0 rfl) ?_
    refine q_geti (own := RX6) (C := RX6) (T := TX6) (N := 11) (ci := 6) (j := 1)  hx hb hts i6 hown F S kx0 (by decide) rfl (by decide) (by decide) rfl (hts (.fieldLink RX6 25 "HeavyRoutes$Road" "endB" "I") (by decide +kernel)) dX6_meets_14 ?_
    obtain ⟨r7, μ5, hc6, h⟩ := q_bd_some h
    refine q_ki F S (q_runV (As := [.int (μ1.1 x0 1)]) (rest := []) (b := x1) ⟨hx, hb, hml, hown, hts⟩ F S (c_X6_nodeAcross l E hE x1 (μ1.1 x0 1) kx1 μ1 μ5 r7 hc6) (cwV 1 hts gX6_meets_X6_nodeAcross rfl rfl rfl (by decide +kernel) ⟨Nat.le_of_ble_eq_true rfl, Nat.le_of_ble_eq_true rfl⟩) kx1 (by decide) rfl rfl hl.1 rfl (by decide) dX6_meets_17 ⟨Nat.zero_le _, Nat.zero_le _⟩) (fun H locs S => ?_)
    refine lv_iconst (v := (-1)) hx hb dX6_meets_20 (by decide) ?_
    refine lv_icmp_eq (tgt := 28) hx hb dX6_meets_21 (by decide) (fun c8 => ?_) (fun c8 => ?_)
    · have h := q_ip c8 h
      refine lv_iconst (v := 0) hx hb dX6_meets_28 (by decide) ?_
      exact q_zret hx hb hr S (by decide) h hlk dX6_meets_29
    · have h := q_ig c8 h
      refine lv_iconst (v := 1) hx hb dX6_meets_24 (by decide) ?_
      refine lv_goto (tgt := 29) hx hb dX6_meets_25 (by decide) ?_
      exact q_zret hx hb hr S (by decide) h hlk dX6_meets_29
def f_X6_setTurn (x0 : Nat) (x1 : Int32) (x2 : Int32) (μ : q_M) : Option (Unit × q_M) := q_le ((1 <<< (x1 &&& 31)) : Int32) (fun y1 => (if x2 = 0 then q_le (q_si μ x0 7 ((μ.1 x0 7) ||| y1)) (fun μ3 => some ((), μ3)) else q_le (q_si μ x0 7 ((μ.1 x0 7) &&& (y1 ^^^ (-1)))) (fun μ4 => some ((), μ4))))
set_option maxHeartbeats 4000000 in
set_option maxRecDepth 100000 in
theorem c_X6_setTurn (l : Launch) (E : q_E) (hE : q_I E) (x0 : Nat) (x1 : Int32) (x2 : Int32) (kx0 : q_kd x0 = 6) (μ μr : q_M) (r : Unit) (h : f_X6_setTurn x0 x1 x2 μ = some (r, μr)) : Met l yX6_setTurn wsX6_setTurn ({ frames := 0, cells := 0, slots := 0, locals := 0 }) (q_Pc E μ [.ref (E.2.2.2 x0), .int x1, .int x2]) (q_Qv E r μr) 0 0 (q_A E) := by
  refine q_met (cc := cX6_setTurn) (maxL := 4) (ret := none) hE (by decide) rfl (Nat.le_of_ble_eq_true rfl) ?_
  intro p e s m below meth c hx hb hr hml hown hts hlk F S ls hl
  have hl : lv_has ls 4 [(0, .ref (E.2.2.2 x0)), (1, .int x1), (2, .int x2)] := hl
  have i6 : ∀ w ∈ u_ws RX6 TX6 11, w ∈ wsX6_setTurn := by decide +kernel
  unfold f_X6_setTurn at h
  obtain ⟨H, eH⟩ : ∃ z, z = s.heap := ⟨_, rfl⟩
  obtain ⟨locs, eL⟩ : ∃ z : List Loc, z = [] := ⟨_, rfl⟩
  rw [← eH, ← eL] at S
  suffices hh : W p l e ({ frames := 0, cells := 0, slots := 0, locals := 0 }) s m ([.ref (E.2.2.2 x0), .int x1, .int x2] : List Value).toArray below meth c H locs 0 0 (MQ below (q_Qv E r μr) ([.ref (E.2.2.2 x0), .int x1, .int x2] : List Value).toArray s 0 0 (q_A E)) (F0 m 0 ls []) by rw [eH, eL] at hh; exact hh
  refine lv_iconst (v := 1) hx hb dX6_setTurn_0 (by decide) ?_
  refine lv_iload_n hx hb dX6_setTurn_1 rfl (lv_at hl 1 rfl) ?_
  refine lv_ishl hx hb dX6_setTurn_2 ?_
  refine lv_topi (fun y1 ey1 => ?_)
  have h := q_le_e h ey1
  refine lv_istore_n (lv' := [(3, .int y1), (0, .ref (E.2.2.2 x0)), (1, .int x1), (2, .int x2)]) hx hb dX6_setTurn_3 rfl hl (by decide) rfl (fun ls hl => ?_)
  refine lv_aload_n hx hb dX6_setTurn_4 rfl (lv_at hl 1 rfl) ?_
  refine lv_iload_n hx hb dX6_setTurn_5 rfl (lv_at hl 3 rfl) ?_
  refine lv_if_eq (tgt := 20) hx hb dX6_setTurn_6 (by decide) (fun c2 => ?_) (fun c2 => ?_)
  · have h := q_ip c2 h
    refine lv_aload_n hx hb dX6_setTurn_20 rfl (lv_at hl 1 rfl) ?_
    refine q_geti (own := RX6) (C := RX6) (T := TX6) (N := 11) (ci := 6) (j := 7)  hx hb hts i6 hown F S kx0 (by decide) rfl (by decide) (by decide) rfl (hts (.fieldLink RX6 45 "HeavyRoutes$Road" "blockedTurns" "I") (by decide +kernel)) dX6_setTurn_21 ?_
    refine lv_iload_n hx hb dX6_setTurn_24 rfl (lv_at hl 0 rfl) ?_
    refine lv_ior hx hb dX6_setTurn_25 ?_
    refine q_puti (own := RX6) (C := RX6) (T := TX6) (N := 11) (ci := 6) (j := 7)  hx hb hts i6 tyX6 tyX6_ok nmX6 hown F S kx0 (by decide) rfl (by decide) (by decide) rfl (hts (.fieldLink RX6 45 "HeavyRoutes$Road" "blockedTurns" "I") (by decide +kernel)) rfl (by decide +kernel) dX6_setTurn_26 (fun H locs μ3 eμ3 S => ?_)
    have h := q_le_e h eμ3
    exact q_vret hx hb hr S h hlk dX6_setTurn_29
  · have h := q_ig c2 h
    refine lv_aload_n hx hb dX6_setTurn_9 rfl (lv_at hl 1 rfl) ?_
    refine q_geti (own := RX6) (C := RX6) (T := TX6) (N := 11) (ci := 6) (j := 7)  hx hb hts i6 hown F S kx0 (by decide) rfl (by decide) (by decide) rfl (hts (.fieldLink RX6 45 "HeavyRoutes$Road" "blockedTurns" "I") (by decide +kernel)) dX6_setTurn_10 ?_
    refine lv_iload_n hx hb dX6_setTurn_13 rfl (lv_at hl 0 rfl) ?_
    refine lv_iconst (v := (-1)) hx hb dX6_setTurn_14 (by decide) ?_
    refine lv_ixor hx hb dX6_setTurn_15 ?_
    refine lv_iand hx hb dX6_setTurn_16 ?_
    refine lv_goto (tgt := 26) hx hb dX6_setTurn_17 (by decide) ?_
    refine q_puti (own := RX6) (C := RX6) (T := TX6) (N := 11) (ci := 6) (j := 7)  hx hb hts i6 tyX6 tyX6_ok nmX6 hown F S kx0 (by decide) rfl (by decide) (by decide) rfl (hts (.fieldLink RX6 45 "HeavyRoutes$Road" "blockedTurns" "I") (by decide +kernel)) rfl (by decide +kernel) dX6_setTurn_26 (fun H locs μ4 eμ4 S => ?_)
    have h := q_le_e h eμ4
    exact q_vret hx hb hr S h hlk dX6_setTurn_29
def f_X6_isTurnBlocked (x0 : Nat) (x1 : Int32) (μ : q_M) : Option (Int32 × q_M) := (if (((μ.1 x0 7) >>> (x1 &&& 31)) &&& 1) = 1 then some (1, μ) else some (0, μ))
set_option maxHeartbeats 4000000 in
set_option maxRecDepth 100000 in
theorem c_X6_isTurnBlocked (l : Launch) (E : q_E) (hE : q_I E) (x0 : Nat) (x1 : Int32) (kx0 : q_kd x0 = 6) (μ μr : q_M) (r : Int32) (h : f_X6_isTurnBlocked x0 x1 μ = some (r, μr)) : Met l yX6_isTurnBlocked wsX6_isTurnBlocked ({ frames := 0, cells := 0, slots := 0, locals := 0 }) (q_Pc E μ [.ref (E.2.2.2 x0), .int x1]) (q_Qi E r μr) 0 0 (q_A E) := by
  refine q_met (cc := cX6_isTurnBlocked) (maxL := 2) (ret := (some .boolean)) hE (by decide) rfl (Nat.le_of_ble_eq_true rfl) ?_
  intro p e s m below meth c hx hb hr hml hown hts hlk F S ls hl
  have hl : lv_has ls 2 [(0, .ref (E.2.2.2 x0)), (1, .int x1)] := hl
  have i6 : ∀ w ∈ u_ws RX6 TX6 11, w ∈ wsX6_isTurnBlocked := by decide +kernel
  unfold f_X6_isTurnBlocked at h
  obtain ⟨H, eH⟩ : ∃ z, z = s.heap := ⟨_, rfl⟩
  obtain ⟨locs, eL⟩ : ∃ z : List Loc, z = [] := ⟨_, rfl⟩
  rw [← eH, ← eL] at S
  suffices hh : W p l e ({ frames := 0, cells := 0, slots := 0, locals := 0 }) s m ([.ref (E.2.2.2 x0), .int x1] : List Value).toArray below meth c H locs 0 0 (MQ below (q_Qi E r μr) ([.ref (E.2.2.2 x0), .int x1] : List Value).toArray s 0 0 (q_A E)) (F0 m 0 ls []) by rw [eH, eL] at hh; exact hh
  refine lv_aload_n hx hb dX6_isTurnBlocked_0 rfl (lv_at hl 0 rfl) ?_
  refine q_geti (own := RX6) (C := RX6) (T := TX6) (N := 11) (ci := 6) (j := 7)  hx hb hts i6 hown F S kx0 (by decide) rfl (by decide) (by decide) rfl (hts (.fieldLink RX6 45 "HeavyRoutes$Road" "blockedTurns" "I") (by decide +kernel)) dX6_isTurnBlocked_1 ?_
  refine lv_iload_n hx hb dX6_isTurnBlocked_4 rfl (lv_at hl 1 rfl) ?_
  refine lv_ishr hx hb dX6_isTurnBlocked_5 ?_
  refine lv_iconst (v := 1) hx hb dX6_isTurnBlocked_6 (by decide) ?_
  refine lv_iand hx hb dX6_isTurnBlocked_7 ?_
  refine lv_iconst (v := 1) hx hb dX6_isTurnBlocked_8 (by decide) ?_
  refine lv_icmp_ne (tgt := 16) hx hb dX6_isTurnBlocked_9 (by decide) (fun c1 => ?_) (fun c1 => ?_)
  · have h := q_ig c1 h
    refine lv_iconst (v := 0) hx hb dX6_isTurnBlocked_16 (by decide) ?_
    exact q_zret hx hb hr S (by decide) h hlk dX6_isTurnBlocked_17
  · have h := q_ip c1 h
    refine lv_iconst (v := 1) hx hb dX6_isTurnBlocked_12 (by decide) ?_
    refine lv_goto (tgt := 17) hx hb dX6_isTurnBlocked_13 (by decide) ?_
    exact q_zret hx hb hr S (by decide) h hlk dX6_isTurnBlocked_17
def f_X6_addBar (x0 : Nat) (x1 : Int32) (x2 : Int32) (μ : q_M) : Option (Unit × q_M) := (if (μ.1 x0 8) < 3 then q_gd (q_ix (μ.1 x0 8) 3) (q_le (q_si μ (x0 + 12) (μ.1 x0 8).toNatClampNeg x1) (fun μ3 => q_gd (q_ix (μ3.1 x0 8) 3) (q_le (q_si μ3 (x0 + 24) (μ3.1 x0 8).toNatClampNeg x2) (fun μ5 => q_le (q_si μ5 x0 8 ((μ5.1 x0 8) + 1)) (fun μ6 => some ((), μ6)))))) else some ((), μ))
set_option maxHeartbeats 4000000 in
set_option maxRecDepth 100000 in
theorem c_X6_addBar (l : Launch) (E : q_E) (hE : q_I E) (x0 : Nat) (x1 : Int32) (x2 : Int32) (kx0 : q_kd x0 = 6) (μ μr : q_M) (r : Unit) (h : f_X6_addBar x0 x1 x2 μ = some (r, μr)) : Met l yX6_addBar wsX6_addBar ({ frames := 0, cells := 0, slots := 0, locals := 0 }) (q_Pc E μ [.ref (E.2.2.2 x0), .int x1, .int x2]) (q_Qv E r μr) 0 0 (q_A E) := by
  refine q_met (cc := cX6_addBar) (maxL := 3) (ret := none) hE (by decide) rfl (Nat.le_of_ble_eq_true rfl) ?_
  intro p e s m below meth c hx hb hr hml hown hts hlk F S ls hl
  have hl : lv_has ls 3 [(0, .ref (E.2.2.2 x0)), (1, .int x1), (2, .int x2)] := hl
  have i6 : ∀ w ∈ u_ws RX6 TX6 11, w ∈ wsX6_addBar := by decide +kernel
  unfold f_X6_addBar at h
  obtain ⟨H, eH⟩ : ∃ z, z = s.heap := ⟨_, rfl⟩
  obtain ⟨locs, eL⟩ : ∃ z : List Loc, z = [] := ⟨_, rfl⟩
  rw [← eH, ← eL] at S
  suffices hh : W p l e ({ frames := 0, cells := 0, slots := 0, locals := 0 }) s m ([.ref (E.2.2.2 x0), .int x1, .int x2] : List Value).toArray below meth c H locs 0 0 (MQ below (q_Qv E r μr) ([.ref (E.2.2.2 x0), .int x1, .int x2] : List Value).toArray s 0 0 (q_A E)) (F0 m 0 ls []) by rw [eH, eL] at hh; exact hh
  refine lv_aload_n hx hb dX6_addBar_0 rfl (lv_at hl 0 rfl) ?_
  refine q_geti (own := RX6) (C := RX6) (T := TX6) (N := 11) (ci := 6) (j := 8)  hx hb hts i6 hown F S kx0 (by decide) rfl (by decide) (by decide) rfl (hts (.fieldLink RX6 48 "HeavyRoutes$Road" "barCount" "I") (by decide +kernel)) dX6_addBar_1 ?_
  refine lv_iconst (v := 3) hx hb dX6_addBar_4 (by decide) ?_
  refine lv_icmp_lt (tgt := 9) hx hb dX6_addBar_5 (by decide) (fun c1 => ?_) (fun c1 => ?_)
  · have h := q_ip c1 h
    refine lv_aload_n hx hb dX6_addBar_9 rfl (lv_at hl 0 rfl) ?_
    refine q_getr (own := RX6) (C := RX6) (T := TX6) (N := 11) (ci := 6) (j := 9)  hx hb hts i6 hown F S kx0 (by decide) rfl (by decide) (by decide) rfl (q_p_6_9 kx0) (hts (.fieldLink RX6 15 "HeavyRoutes$Road" "barFrom" "[I") (by decide +kernel)) dX6_addBar_10 ?_
    refine lv_aload_n hx hb dX6_addBar_13 rfl (lv_at hl 0 rfl) ?_
    refine q_geti (own := RX6) (C := RX6) (T := TX6) (N := 11) (ci := 6) (j := 8)  hx hb hts i6 hown F S kx0 (by decide) rfl (by decide) (by decide) rfl (hts (.fieldLink RX6 48 "HeavyRoutes$Road" "barCount" "I") (by decide +kernel)) dX6_addBar_14 ?_
    refine lv_iload_n hx hb dX6_addBar_17 rfl (lv_at hl 1 rfl) ?_
    obtain ⟨g2, h⟩ := q_gd_some h
    refine q_iast hx hb F S (q_k_6_9 kx0) (q_n_6_9 kx0) g2 dX6_addBar_18 (fun H locs μ3 eμ3 S => ?_)
    have h := q_le_e h eμ3
    refine lv_aload_n hx hb dX6_addBar_19 rfl (lv_at hl 0 rfl) ?_
    refine q_getr (own := RX6) (C := RX6) (T := TX6) (N := 11) (ci := 6) (j := 10)  hx hb hts i6 hown F S kx0 (by decide) rfl (by decide) (by decide) rfl (q_p_6_10 kx0) (hts (.fieldLink RX6 19 "HeavyRoutes$Road" "barTo" "[I") (by decide +kernel)) dX6_addBar_20 ?_
    refine lv_aload_n hx hb dX6_addBar_23 rfl (lv_at hl 0 rfl) ?_
    refine q_geti (own := RX6) (C := RX6) (T := TX6) (N := 11) (ci := 6) (j := 8)  hx hb hts i6 hown F S kx0 (by decide) rfl (by decide) (by decide) rfl (hts (.fieldLink RX6 48 "HeavyRoutes$Road" "barCount" "I") (by decide +kernel)) dX6_addBar_24 ?_
    refine lv_iload_n hx hb dX6_addBar_27 rfl (lv_at hl 2 rfl) ?_
    obtain ⟨g4, h⟩ := q_gd_some h
    refine q_iast hx hb F S (q_k_6_10 kx0) (q_n_6_10 kx0) g4 dX6_addBar_28 (fun H locs μ5 eμ5 S => ?_)
    have h := q_le_e h eμ5
    refine lv_aload_n hx hb dX6_addBar_29 rfl (lv_at hl 0 rfl) ?_
    refine lv_dup hx hb dX6_addBar_30 rfl ?_
    refine q_geti (own := RX6) (C := RX6) (T := TX6) (N := 11) (ci := 6) (j := 8)  hx hb hts i6 hown F S kx0 (by decide) rfl (by decide) (by decide) rfl (hts (.fieldLink RX6 48 "HeavyRoutes$Road" "barCount" "I") (by decide +kernel)) dX6_addBar_31 ?_
    refine lv_iconst (v := 1) hx hb dX6_addBar_34 (by decide) ?_
    refine lv_iadd hx hb dX6_addBar_35 ?_
    refine q_puti (own := RX6) (C := RX6) (T := TX6) (N := 11) (ci := 6) (j := 8)  hx hb hts i6 tyX6 tyX6_ok nmX6 hown F S kx0 (by decide) rfl (by decide) (by decide) rfl (hts (.fieldLink RX6 48 "HeavyRoutes$Road" "barCount" "I") (by decide +kernel)) rfl (by decide +kernel) dX6_addBar_36 (fun H locs μ6 eμ6 S => ?_)
    have h := q_le_e h eμ6
    exact q_vret hx hb hr S h hlk dX6_addBar_39
  · have h := q_ig c1 h
    exact q_vret hx hb hr S h hlk dX6_addBar_8
end
