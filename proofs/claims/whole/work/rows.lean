section
-- ===== PART A: goes FIRST, ahead of the names: the tables' words, and 'selects' of the private methods out of them =====
/-- a private method of a class that the tables say can be made, by its rows of tables_1 -/
def lw_okq (q : MethodName × Nat) : Prop := (q.1.cls ≠ "java/lang/invoke/MethodHandle" ∧ q.1.cls ≠ "java/lang/invoke/VarHandle") ∧ Cond.instantiable q.1.cls q.2 ∈ tables_1 ∧ Cond.privateMethod q.1 ∈ tables_1 ∧ Cond.instanceMethod q.1 ∈ tables_1
theorem lw_p0 : lw_okq (⟨"IndentRules", "rememberColumns", "()V"⟩, 7) := ⟨⟨by decide +kernel, by decide +kernel⟩, List.mem_of_getElem? (i := 10) (by decide +kernel), List.mem_of_getElem? (i := 207) (by decide +kernel), List.mem_of_getElem? (i := 208) (by decide +kernel)⟩
theorem lw_p1 : lw_okq (⟨"IndentRules", "readLines", "()V"⟩, 7) := ⟨⟨by decide +kernel, by decide +kernel⟩, List.mem_of_getElem? (i := 10) (by decide +kernel), List.mem_of_getElem? (i := 222) (by decide +kernel), List.mem_of_getElem? (i := 223) (by decide +kernel)⟩
theorem lw_p2 : lw_okq (⟨"IndentRules$Nesting", "readLine", "(LIndentRules$Line;I)V"⟩, 14) := ⟨⟨by decide +kernel, by decide +kernel⟩, List.mem_of_getElem? (i := 72) (by decide +kernel), List.mem_of_getElem? (i := 230) (by decide +kernel), List.mem_of_getElem? (i := 231) (by decide +kernel)⟩
theorem lw_p3 : lw_okq (⟨"IndentRules$Nesting", "openOne", "(LIndentRules$Line;II)V"⟩, 14) := ⟨⟨by decide +kernel, by decide +kernel⟩, List.mem_of_getElem? (i := 72) (by decide +kernel), List.mem_of_getElem? (i := 234) (by decide +kernel), List.mem_of_getElem? (i := 235) (by decide +kernel)⟩
theorem lw_p4 : lw_okq (⟨"IndentRules$Nesting", "closeOne", "(II)V"⟩, 14) := ⟨⟨by decide +kernel, by decide +kernel⟩, List.mem_of_getElem? (i := 72) (by decide +kernel), List.mem_of_getElem? (i := 248) (by decide +kernel), List.mem_of_getElem? (i := 249) (by decide +kernel)⟩
theorem lw_p5 : lw_okq (⟨"IndentRules$Layout", "columnBehind", "(LIndentRules$Nesting;II)I"⟩, 2) := ⟨⟨by decide +kernel, by decide +kernel⟩, List.mem_of_getElem? (i := 134) (by decide +kernel), List.mem_of_getElem? (i := 256) (by decide +kernel), List.mem_of_getElem? (i := 257) (by decide +kernel)⟩
theorem lw_p6 : lw_okq (⟨"IndentRules$Layout", "goingOn", "(II)I"⟩, 2) := ⟨⟨by decide +kernel, by decide +kernel⟩, List.mem_of_getElem? (i := 134) (by decide +kernel), List.mem_of_getElem? (i := 260) (by decide +kernel), List.mem_of_getElem? (i := 261) (by decide +kernel)⟩
theorem lw_p7 : lw_okq (⟨"IndentRules$Layout", "columnInBracket", "(LIndentRules$Nesting;II)I"⟩, 2) := ⟨⟨by decide +kernel, by decide +kernel⟩, List.mem_of_getElem? (i := 134) (by decide +kernel), List.mem_of_getElem? (i := 264) (by decide +kernel), List.mem_of_getElem? (i := 265) (by decide +kernel)⟩
theorem lw_p8 : lw_okq (⟨"IndentRules$Layout", "isAligned", "(LIndentRules$Nesting;I)Z"⟩, 2) := ⟨⟨by decide +kernel, by decide +kernel⟩, List.mem_of_getElem? (i := 134) (by decide +kernel), List.mem_of_getElem? (i := 268) (by decide +kernel), List.mem_of_getElem? (i := 269) (by decide +kernel)⟩
theorem lw_p9 : lw_okq (⟨"IndentRules", "movedBut", "(I)I"⟩, 7) := ⟨⟨by decide +kernel, by decide +kernel⟩, List.mem_of_getElem? (i := 10) (by decide +kernel), List.mem_of_getElem? (i := 280) (by decide +kernel), List.mem_of_getElem? (i := 281) (by decide +kernel)⟩
theorem lw_p10 : lw_okq (⟨"IndentRules", "isLine", "(I)Z"⟩, 7) := ⟨⟨by decide +kernel, by decide +kernel⟩, List.mem_of_getElem? (i := 10) (by decide +kernel), List.mem_of_getElem? (i := 288) (by decide +kernel), List.mem_of_getElem? (i := 289) (by decide +kernel)⟩
theorem lw_p11 : lw_okq (⟨"IndentRules", "isOpener", "(I)Z"⟩, 7) := ⟨⟨by decide +kernel, by decide +kernel⟩, List.mem_of_getElem? (i := 10) (by decide +kernel), List.mem_of_getElem? (i := 321) (by decide +kernel), List.mem_of_getElem? (i := 322) (by decide +kernel)⟩
theorem lw_p12 : lw_okq (⟨"IndentRules", "isAsSeen", "(LIndentRules$Layout;I)Z"⟩, 7) := ⟨⟨by decide +kernel, by decide +kernel⟩, List.mem_of_getElem? (i := 10) (by decide +kernel), List.mem_of_getElem? (i := 339) (by decide +kernel), List.mem_of_getElem? (i := 340) (by decide +kernel)⟩
theorem lw_p13 : lw_okq (⟨"IndentRules", "layTried", "(IIII)V"⟩, 7) := ⟨⟨by decide +kernel, by decide +kernel⟩, List.mem_of_getElem? (i := 10) (by decide +kernel), List.mem_of_getElem? (i := 354) (by decide +kernel), List.mem_of_getElem? (i := 355) (by decide +kernel)⟩
theorem lw_p14 : lw_okq (⟨"IndentRules", "partsOfTried", "()I"⟩, 7) := ⟨⟨by decide +kernel, by decide +kernel⟩, List.mem_of_getElem? (i := 10) (by decide +kernel), List.mem_of_getElem? (i := 362) (by decide +kernel), List.mem_of_getElem? (i := 363) (by decide +kernel)⟩
theorem lw_p15 : lw_okq (⟨"IndentRules", "hasSeenTokens", "()Z"⟩, 7) := ⟨⟨by decide +kernel, by decide +kernel⟩, List.mem_of_getElem? (i := 10) (by decide +kernel), List.mem_of_getElem? (i := 376) (by decide +kernel), List.mem_of_getElem? (i := 377) (by decide +kernel)⟩
def lw_privs_1 : List (MethodName × Nat) := [(⟨"IndentRules", "rememberColumns", "()V"⟩, 7), (⟨"IndentRules", "readLines", "()V"⟩, 7), (⟨"IndentRules$Nesting", "readLine", "(LIndentRules$Line;I)V"⟩, 14), (⟨"IndentRules$Nesting", "openOne", "(LIndentRules$Line;II)V"⟩, 14), (⟨"IndentRules$Nesting", "closeOne", "(II)V"⟩, 14), (⟨"IndentRules$Layout", "columnBehind", "(LIndentRules$Nesting;II)I"⟩, 2), (⟨"IndentRules$Layout", "goingOn", "(II)I"⟩, 2), (⟨"IndentRules$Layout", "columnInBracket", "(LIndentRules$Nesting;II)I"⟩, 2), (⟨"IndentRules$Layout", "isAligned", "(LIndentRules$Nesting;I)Z"⟩, 2), (⟨"IndentRules", "movedBut", "(I)I"⟩, 7), (⟨"IndentRules", "isLine", "(I)Z"⟩, 7), (⟨"IndentRules", "isOpener", "(I)Z"⟩, 7), (⟨"IndentRules", "isAsSeen", "(LIndentRules$Layout;I)Z"⟩, 7), (⟨"IndentRules", "layTried", "(IIII)V"⟩, 7), (⟨"IndentRules", "partsOfTried", "()I"⟩, 7), (⟨"IndentRules", "hasSeenTokens", "()Z"⟩, 7)]
theorem lw_r1 : ∀ q ∈ lw_privs_1, lw_okq q := List.forall_mem_cons.mpr ⟨lw_p0, List.forall_mem_cons.mpr ⟨lw_p1, List.forall_mem_cons.mpr ⟨lw_p2, List.forall_mem_cons.mpr ⟨lw_p3, List.forall_mem_cons.mpr ⟨lw_p4, List.forall_mem_cons.mpr ⟨lw_p5, List.forall_mem_cons.mpr ⟨lw_p6, List.forall_mem_cons.mpr ⟨lw_p7, List.forall_mem_cons.mpr ⟨lw_p8, List.forall_mem_cons.mpr ⟨lw_p9, List.forall_mem_cons.mpr ⟨lw_p10, List.forall_mem_cons.mpr ⟨lw_p11, List.forall_mem_cons.mpr ⟨lw_p12, List.forall_mem_cons.mpr ⟨lw_p13, List.forall_mem_cons.mpr ⟨lw_p14, List.forall_mem_cons.mpr ⟨lw_p15, fun _ h => absurd h List.not_mem_nil⟩⟩⟩⟩⟩⟩⟩⟩⟩⟩⟩⟩⟩⟩⟩⟩
theorem lw_p16 : lw_okq (⟨"IndentRules", "findGuess", "()V"⟩, 7) := ⟨⟨by decide +kernel, by decide +kernel⟩, List.mem_of_getElem? (i := 10) (by decide +kernel), List.mem_of_getElem? (i := 380) (by decide +kernel), List.mem_of_getElem? (i := 381) (by decide +kernel)⟩
theorem lw_p17 : lw_okq (⟨"IndentRules", "keepIfBetter", "()V"⟩, 7) := ⟨⟨by decide +kernel, by decide +kernel⟩, List.mem_of_getElem? (i := 10) (by decide +kernel), List.mem_of_getElem? (i := 384) (by decide +kernel), List.mem_of_getElem? (i := 385) (by decide +kernel)⟩
theorem lw_p18 : lw_okq (⟨"IndentRules", "allStrays", "()I"⟩, 7) := ⟨⟨by decide +kernel, by decide +kernel⟩, List.mem_of_getElem? (i := 10) (by decide +kernel), List.mem_of_getElem? (i := 444) (by decide +kernel), List.mem_of_getElem? (i := 445) (by decide +kernel)⟩
theorem lw_p19 : lw_okq (⟨"IndentRules", "seenLines", "()I"⟩, 7) := ⟨⟨by decide +kernel, by decide +kernel⟩, List.mem_of_getElem? (i := 10) (by decide +kernel), List.mem_of_getElem? (i := 448) (by decide +kernel), List.mem_of_getElem? (i := 449) (by decide +kernel)⟩
theorem lw_p20 : lw_okq (⟨"IndentRules", "allTokens", "()I"⟩, 7) := ⟨⟨by decide +kernel, by decide +kernel⟩, List.mem_of_getElem? (i := 10) (by decide +kernel), List.mem_of_getElem? (i := 452) (by decide +kernel), List.mem_of_getElem? (i := 453) (by decide +kernel)⟩
theorem lw_p21 : lw_okq (⟨"IndentRulesModel", "notes", "()V"⟩, 25) := ⟨⟨by decide +kernel, by decide +kernel⟩, List.mem_of_getElem? (i := 456) (by decide +kernel), List.mem_of_getElem? (i := 551) (by decide +kernel), List.mem_of_getElem? (i := 552) (by decide +kernel)⟩
theorem lw_p22 : lw_okq (⟨"IndentRulesModel", "goes", "()V"⟩, 25) := ⟨⟨by decide +kernel, by decide +kernel⟩, List.mem_of_getElem? (i := 456) (by decide +kernel), List.mem_of_getElem? (i := 555) (by decide +kernel), List.mem_of_getElem? (i := 556) (by decide +kernel)⟩
theorem lw_p23 : lw_okq (⟨"IndentRulesModel", "goesBy", "(IIII)V"⟩, 25) := ⟨⟨by decide +kernel, by decide +kernel⟩, List.mem_of_getElem? (i := 456) (by decide +kernel), List.mem_of_getElem? (i := 559) (by decide +kernel), List.mem_of_getElem? (i := 560) (by decide +kernel)⟩
theorem lw_p24 : lw_okq (⟨"IndentRulesModel", "goesLine", "(I)V"⟩, 25) := ⟨⟨by decide +kernel, by decide +kernel⟩, List.mem_of_getElem? (i := 456) (by decide +kernel), List.mem_of_getElem? (i := 563) (by decide +kernel), List.mem_of_getElem? (i := 564) (by decide +kernel)⟩
theorem lw_p25 : lw_okq (⟨"IndentRulesModel", "columnFor", "(I)I"⟩, 25) := ⟨⟨by decide +kernel, by decide +kernel⟩, List.mem_of_getElem? (i := 456) (by decide +kernel), List.mem_of_getElem? (i := 570) (by decide +kernel), List.mem_of_getElem? (i := 571) (by decide +kernel)⟩
theorem lw_p26 : lw_okq (⟨"IndentRulesModel", "top", "()I"⟩, 25) := ⟨⟨by decide +kernel, by decide +kernel⟩, List.mem_of_getElem? (i := 456) (by decide +kernel), List.mem_of_getElem? (i := 574) (by decide +kernel), List.mem_of_getElem? (i := 575) (by decide +kernel)⟩
theorem lw_p27 : lw_okq (⟨"IndentRulesModel", "goesToken", "(IIII)V"⟩, 25) := ⟨⟨by decide +kernel, by decide +kernel⟩, List.mem_of_getElem? (i := 456) (by decide +kernel), List.mem_of_getElem? (i := 578) (by decide +kernel), List.mem_of_getElem? (i := 579) (by decide +kernel)⟩
theorem lw_p28 : lw_okq (⟨"IndentRulesModel", "comes", "(IIII)V"⟩, 25) := ⟨⟨by decide +kernel, by decide +kernel⟩, List.mem_of_getElem? (i := 456) (by decide +kernel), List.mem_of_getElem? (i := 582) (by decide +kernel), List.mem_of_getElem? (i := 583) (by decide +kernel)⟩
theorem lw_p29 : lw_okq (⟨"IndentRulesModel", "closes", "(IZ)V"⟩, 25) := ⟨⟨by decide +kernel, by decide +kernel⟩, List.mem_of_getElem? (i := 456) (by decide +kernel), List.mem_of_getElem? (i := 586) (by decide +kernel), List.mem_of_getElem? (i := 587) (by decide +kernel)⟩
theorem lw_p30 : lw_okq (⟨"IndentRulesModel", "moved", "(I)I"⟩, 25) := ⟨⟨by decide +kernel, by decide +kernel⟩, List.mem_of_getElem? (i := 456) (by decide +kernel), List.mem_of_getElem? (i := 593) (by decide +kernel), List.mem_of_getElem? (i := 594) (by decide +kernel)⟩
theorem lw_p31 : lw_okq (⟨"IndentRulesModel", "isLine", "(I)Z"⟩, 25) := ⟨⟨by decide +kernel, by decide +kernel⟩, List.mem_of_getElem? (i := 456) (by decide +kernel), List.mem_of_getElem? (i := 601) (by decide +kernel), List.mem_of_getElem? (i := 602) (by decide +kernel)⟩
def lw_privs_2 : List (MethodName × Nat) := [(⟨"IndentRules", "findGuess", "()V"⟩, 7), (⟨"IndentRules", "keepIfBetter", "()V"⟩, 7), (⟨"IndentRules", "allStrays", "()I"⟩, 7), (⟨"IndentRules", "seenLines", "()I"⟩, 7), (⟨"IndentRules", "allTokens", "()I"⟩, 7), (⟨"IndentRulesModel", "notes", "()V"⟩, 25), (⟨"IndentRulesModel", "goes", "()V"⟩, 25), (⟨"IndentRulesModel", "goesBy", "(IIII)V"⟩, 25), (⟨"IndentRulesModel", "goesLine", "(I)V"⟩, 25), (⟨"IndentRulesModel", "columnFor", "(I)I"⟩, 25), (⟨"IndentRulesModel", "top", "()I"⟩, 25), (⟨"IndentRulesModel", "goesToken", "(IIII)V"⟩, 25), (⟨"IndentRulesModel", "comes", "(IIII)V"⟩, 25), (⟨"IndentRulesModel", "closes", "(IZ)V"⟩, 25), (⟨"IndentRulesModel", "moved", "(I)I"⟩, 25), (⟨"IndentRulesModel", "isLine", "(I)Z"⟩, 25)]
theorem lw_r2 : ∀ q ∈ lw_privs_2, lw_okq q := List.forall_mem_cons.mpr ⟨lw_p16, List.forall_mem_cons.mpr ⟨lw_p17, List.forall_mem_cons.mpr ⟨lw_p18, List.forall_mem_cons.mpr ⟨lw_p19, List.forall_mem_cons.mpr ⟨lw_p20, List.forall_mem_cons.mpr ⟨lw_p21, List.forall_mem_cons.mpr ⟨lw_p22, List.forall_mem_cons.mpr ⟨lw_p23, List.forall_mem_cons.mpr ⟨lw_p24, List.forall_mem_cons.mpr ⟨lw_p25, List.forall_mem_cons.mpr ⟨lw_p26, List.forall_mem_cons.mpr ⟨lw_p27, List.forall_mem_cons.mpr ⟨lw_p28, List.forall_mem_cons.mpr ⟨lw_p29, List.forall_mem_cons.mpr ⟨lw_p30, List.forall_mem_cons.mpr ⟨lw_p31, fun _ h => absurd h List.not_mem_nil⟩⟩⟩⟩⟩⟩⟩⟩⟩⟩⟩⟩⟩⟩⟩⟩
theorem lw_p32 : lw_okq (⟨"IndentRulesModel", "widthsOf", "(I)I"⟩, 25) := ⟨⟨by decide +kernel, by decide +kernel⟩, List.mem_of_getElem? (i := 456) (by decide +kernel), List.mem_of_getElem? (i := 620) (by decide +kernel), List.mem_of_getElem? (i := 621) (by decide +kernel)⟩
theorem lw_p33 : lw_okq (⟨"IndentRulesModel", "counts", "(I)Z"⟩, 25) := ⟨⟨by decide +kernel, by decide +kernel⟩, List.mem_of_getElem? (i := 456) (by decide +kernel), List.mem_of_getElem? (i := 632) (by decide +kernel), List.mem_of_getElem? (i := 633) (by decide +kernel)⟩
theorem lw_p34 : lw_okq (⟨"IndentRulesModel", "scoreBy", "(IIII)I"⟩, 25) := ⟨⟨by decide +kernel, by decide +kernel⟩, List.mem_of_getElem? (i := 456) (by decide +kernel), List.mem_of_getElem? (i := 651) (by decide +kernel), List.mem_of_getElem? (i := 652) (by decide +kernel)⟩
theorem lw_p35 : lw_okq (⟨"IndentRulesModel", "guesses", "()Z"⟩, 25) := ⟨⟨by decide +kernel, by decide +kernel⟩, List.mem_of_getElem? (i := 456) (by decide +kernel), List.mem_of_getElem? (i := 663) (by decide +kernel), List.mem_of_getElem? (i := 664) (by decide +kernel)⟩
theorem lw_p36 : lw_okq (⟨"IndentRulesModel", "manyWithout", "()I"⟩, 25) := ⟨⟨by decide +kernel, by decide +kernel⟩, List.mem_of_getElem? (i := 456) (by decide +kernel), List.mem_of_getElem? (i := 697) (by decide +kernel), List.mem_of_getElem? (i := 698) (by decide +kernel)⟩
theorem lw_p37 : lw_okq (⟨"IndentRulesModel", "manyOf", "(I)I"⟩, 25) := ⟨⟨by decide +kernel, by decide +kernel⟩, List.mem_of_getElem? (i := 456) (by decide +kernel), List.mem_of_getElem? (i := 701) (by decide +kernel), List.mem_of_getElem? (i := 702) (by decide +kernel)⟩
def lw_privs_3 : List (MethodName × Nat) := [(⟨"IndentRulesModel", "widthsOf", "(I)I"⟩, 25), (⟨"IndentRulesModel", "counts", "(I)Z"⟩, 25), (⟨"IndentRulesModel", "scoreBy", "(IIII)I"⟩, 25), (⟨"IndentRulesModel", "guesses", "()Z"⟩, 25), (⟨"IndentRulesModel", "manyWithout", "()I"⟩, 25), (⟨"IndentRulesModel", "manyOf", "(I)I"⟩, 25)]
theorem lw_r3 : ∀ q ∈ lw_privs_3, lw_okq q := List.forall_mem_cons.mpr ⟨lw_p32, List.forall_mem_cons.mpr ⟨lw_p33, List.forall_mem_cons.mpr ⟨lw_p34, List.forall_mem_cons.mpr ⟨lw_p35, List.forall_mem_cons.mpr ⟨lw_p36, List.forall_mem_cons.mpr ⟨lw_p37, fun _ h => absurd h List.not_mem_nil⟩⟩⟩⟩⟩⟩
def lw_privs : List (MethodName × Nat) := lw_privs_1 ++ (lw_privs_2 ++ (lw_privs_3))
def lw_tbl : List Cond := k2_sels lw_privs ++ tables_1
theorem lw_privs_ok : ∀ q ∈ lw_privs, lw_okq q := by
  show ∀ q ∈ lw_privs_1 ++ (lw_privs_2 ++ (lw_privs_3)), lw_okq q
  exact List.forall_mem_append.mpr ⟨lw_r1, List.forall_mem_append.mpr ⟨lw_r2, lw_r3⟩⟩
end
section
/-! ===== BEGIN words of one list among another's, by their places ===== -/
theorem goodIn_r {big : List Cond} (ws : List Cond) (ps : List Nat) (hp : ws = ps.filterMap (fun i => big[i]?)) (h : ws.all goodWord = true) : GoodIn big ws := by
  intro w hw
  have h1 := List.all_eq_true.mp h w hw
  rw [hp] at hw
  obtain ⟨i, -, hi⟩ := List.mem_filterMap.mp hw
  have hm : w ∈ big := by first | exact List.mem_of_getElem? hi | exact List.getElem?_mem hi
  exact ⟨hm, good_of_word h1⟩
theorem goodIn_app {big a b : List Cond} (ha : GoodIn big a) (hb : GoodIn big b) : GoodIn big (a ++ b) := fun w h => (List.mem_append.mp h).elim (ha w) (hb w)
theorem goodIn_ca {big a b : List Cond} {c : Cond} (ha : GoodIn big (c :: a)) (hb : GoodIn big b) : GoodIn big (c :: (a ++ b)) := fun w h => (List.mem_cons.mp h).elim (fun e => ha w (List.mem_cons.mpr (Or.inl e))) (fun h => (List.mem_append.mp h).elim (fun h => ha w (List.mem_cons.mpr (Or.inr h))) (hb w))
theorem goodIn_sub {big ws : List Cond} (hm : ∀ w ∈ ws, w ∈ big) (h : ws.all goodWord = true) : GoodIn big ws := fun w hw => ⟨hm w hw, good_of_word (List.all_eq_true.mp h w hw)⟩
/-! ===== END ===== -/

/-! ===== BEGIN printed: names, fields, word lists, decode rows ===== -/
def RX0 : String := "IndentRules$Layout"
def TX0 : u_T := fun k => match k with
  | 0 => ("IndentRules$Layout", "settings", "[I", true)
  | _ => ("IndentRules$Layout", "columns", "[I", true)
def tyX0 : Nat → FieldType := fun k => match k with
  | 0 => .array .int
  | _ => .array .int
abbrev wsX00 : List Cond := u_ws RX0 TX0 2
theorem nmX0 : ∀ a, a < 2 → ∀ b, b < 2 → a ≠ b → (TX0 a).2.1 ≠ (TX0 b).2.1 := by decide +kernel
theorem tyX0_ok : ∀ k, k < 2 → parseFieldDescriptor (TX0 k).2.2.1 = some (tyX0 k) := by decide +kernel
abbrev cX0_init : ByteArray := prog_2_method_1_code
def yX0_init : MethodName := ⟨RX0, "<init>", "()V"⟩
abbrev cX0_choose : ByteArray := prog_2_method_2_code
def yX0_choose : MethodName := ⟨RX0, "choose", "(IIII)V"⟩
abbrev cX0_lay : ByteArray := prog_2_method_3_code
def yX0_lay : MethodName := ⟨RX0, "lay", "(LIndentRules$Text;LIndentRules$Nesting;)V"⟩
abbrev cX0_columnBehind : ByteArray := prog_2_method_4_code
def yX0_columnBehind : MethodName := ⟨RX0, "columnBehind", "(LIndentRules$Nesting;II)I"⟩
abbrev cX0_columnInBracket : ByteArray := prog_2_method_5_code
def yX0_columnInBracket : MethodName := ⟨RX0, "columnInBracket", "(LIndentRules$Nesting;II)I"⟩
abbrev cX0_goingOn : ByteArray := prog_2_method_6_code
def yX0_goingOn : MethodName := ⟨RX0, "goingOn", "(II)I"⟩
abbrev cX0_isAligned : ByteArray := prog_2_method_7_code
def yX0_isAligned : MethodName := ⟨RX0, "isAligned", "(LIndentRules$Nesting;I)Z"⟩
abbrev cX0_baseOf : ByteArray := prog_2_method_8_code
def yX0_baseOf : MethodName := ⟨RX0, "baseOf", "(LIndentRules$Nesting;I)I"⟩
abbrev cX0_placeOf : ByteArray := prog_2_method_9_code
def yX0_placeOf : MethodName := ⟨RX0, "placeOf", "(LIndentRules$Nesting;I)I"⟩
abbrev cX0_kindOf : ByteArray := prog_2_method_10_code
def yX0_kindOf : MethodName := ⟨RX0, "kindOf", "(LIndentRules$Nesting;I)I"⟩
def RX1 : String := "IndentRules$Line"
def TX1 : u_T := fun k => match k with
  | 0 => ("IndentRules$Line", "tokens", "[I", true)
  | 1 => ("IndentRules$Line", "told", "I", false)
  | 2 => ("IndentRules$Line", "count", "I", false)
  | 3 => ("IndentRules$Line", "present", "I", false)
  | 4 => ("IndentRules$Line", "seen", "I", false)
  | _ => ("IndentRules$Line", "columnBefore", "I", false)
def tyX1 : Nat → FieldType := fun k => match k with
  | 0 => .array .int
  | 1 => .int
  | 2 => .int
  | 3 => .int
  | 4 => .int
  | _ => .int
abbrev wsX10 : List Cond := u_ws RX1 TX1 6
theorem nmX1 : ∀ a, a < 6 → ∀ b, b < 6 → a ≠ b → (TX1 a).2.1 ≠ (TX1 b).2.1 := by decide +kernel
theorem tyX1_ok : ∀ k, k < 6 → parseFieldDescriptor (TX1 k).2.2.1 = some (tyX1 k) := by decide +kernel
abbrev cX1_init : ByteArray := prog_3_method_1_code
def yX1_init : MethodName := ⟨RX1, "<init>", "()V"⟩
abbrev cX1_read : ByteArray := prog_3_method_2_code
def yX1_read : MethodName := ⟨RX1, "read", "(I)V"⟩
abbrev cX1_digitsOf : ByteArray := prog_3_method_3_code
def yX1_digitsOf : MethodName := ⟨RX1, "digitsOf", "(I)I"⟩
abbrev cX1_widthAhead : ByteArray := prog_3_method_4_code
def yX1_widthAhead : MethodName := ⟨RX1, "widthAhead", "(I)I"⟩
abbrev cX1_isFollowed : ByteArray := prog_3_method_5_code
def yX1_isFollowed : MethodName := ⟨RX1, "isFollowed", "(I)Z"⟩
abbrev cX1_counts : ByteArray := prog_3_method_6_code
def yX1_counts : MethodName := ⟨RX1, "counts", "()Z"⟩
def RX2 : String := "IndentRules$Nesting"
def TX2 : u_T := fun k => match k with
  | 0 => ("IndentRules$Nesting", "tops", "[I", true)
  | 1 => ("IndentRules$Nesting", "depths", "[I", true)
  | 2 => ("IndentRules$Nesting", "lasts", "[I", true)
  | 3 => ("IndentRules$Nesting", "strays", "[I", true)
  | 4 => ("IndentRules$Nesting", "openers", "I", false)
  | 5 => ("IndentRules$Nesting", "sortOf", "[I", true)
  | 6 => ("IndentRules$Nesting", "lineOf", "[I", true)
  | 7 => ("IndentRules$Nesting", "tokenOf", "[I", true)
  | 8 => ("IndentRules$Nesting", "widthAheadOf", "[I", true)
  | 9 => ("IndentRules$Nesting", "followed", "[Z", true)
  | 10 => ("IndentRules$Nesting", "partnerLineOf", "[I", true)
  | 11 => ("IndentRules$Nesting", "open", "[I", true)
  | 12 => ("IndentRules$Nesting", "height", "I", false)
  | _ => ("IndentRules$Nesting", "last", "I", false)
def tyX2 : Nat → FieldType := fun k => match k with
  | 0 => .array .int
  | 1 => .array .int
  | 2 => .array .int
  | 3 => .array .int
  | 4 => .int
  | 5 => .array .int
  | 6 => .array .int
  | 7 => .array .int
  | 8 => .array .int
  | 9 => .array .boolean
  | 10 => .array .int
  | 11 => .array .int
  | 12 => .int
  | _ => .int
abbrev wsX20 : List Cond := u_ws RX2 TX2 14
theorem nmX2 : ∀ a, a < 14 → ∀ b, b < 14 → a ≠ b → (TX2 a).2.1 ≠ (TX2 b).2.1 := by decide +kernel
theorem tyX2_ok : ∀ k, k < 14 → parseFieldDescriptor (TX2 k).2.2.1 = some (tyX2 k) := by decide +kernel
abbrev cX2_init : ByteArray := prog_4_method_1_code
def yX2_init : MethodName := ⟨RX2, "<init>", "()V"⟩
abbrev cX2_read : ByteArray := prog_4_method_2_code
def yX2_read : MethodName := ⟨RX2, "read", "(LIndentRules$Text;)V"⟩
abbrev cX2_readLine : ByteArray := prog_4_method_3_code
def yX2_readLine : MethodName := ⟨RX2, "readLine", "(LIndentRules$Line;I)V"⟩
abbrev cX2_openOne : ByteArray := prog_4_method_4_code
def yX2_openOne : MethodName := ⟨RX2, "openOne", "(LIndentRules$Line;II)V"⟩
abbrev cX2_closeOne : ByteArray := prog_4_method_5_code
def yX2_closeOne : MethodName := ⟨RX2, "closeOne", "(II)V"⟩
abbrev cX2_withoutPartner : ByteArray := prog_4_method_6_code
def yX2_withoutPartner : MethodName := ⟨RX2, "withoutPartner", "()I"⟩
def RX3 : String := "IndentRules$Pocket"
def TX3 : u_T := fun k => match k with
  | 0 => ("IndentRules$Pocket", "kind", "I", false)
  | 1 => ("IndentRules$Pocket", "size", "I", false)
  | 2 => ("IndentRules$Pocket", "lineIn", "[I", true)
  | 3 => ("IndentRules$Pocket", "placeIn", "[I", true)
  | _ => ("IndentRules$Pocket", "kindIn", "[I", true)
def tyX3 : Nat → FieldType := fun k => match k with
  | 0 => .int
  | 1 => .int
  | 2 => .array .int
  | 3 => .array .int
  | _ => .array .int
abbrev wsX30 : List Cond := u_ws RX3 TX3 5
theorem nmX3 : ∀ a, a < 5 → ∀ b, b < 5 → a ≠ b → (TX3 a).2.1 ≠ (TX3 b).2.1 := by decide +kernel
theorem tyX3_ok : ∀ k, k < 5 → parseFieldDescriptor (TX3 k).2.2.1 = some (tyX3 k) := by decide +kernel
abbrev cX3_init : ByteArray := prog_5_method_1_code
def yX3_init : MethodName := ⟨RX3, "<init>", "()V"⟩
abbrev cX3_renew : ByteArray := prog_5_method_2_code
def yX3_renew : MethodName := ⟨RX3, "renew", "(II)V"⟩
abbrev cX3_hasCell : ByteArray := prog_5_method_3_code
def yX3_hasCell : MethodName := ⟨RX3, "hasCell", "(I)Z"⟩
abbrev cX3_takes : ByteArray := prog_5_method_4_code
def yX3_takes : MethodName := ⟨RX3, "takes", "(I)Z"⟩
abbrev cX3_fill : ByteArray := prog_5_method_5_code
def yX3_fill : MethodName := ⟨RX3, "fill", "(IIII)V"⟩
abbrev cX3_tell : ByteArray := prog_5_method_6_code
def yX3_tell : MethodName := ⟨RX3, "tell", "(II)I"⟩
abbrev cX3_becomeLike : ByteArray := prog_5_method_7_code
def yX3_becomeLike : MethodName := ⟨RX3, "becomeLike", "(LIndentRules$Pocket;)V"⟩
def RX4 : String := "IndentRules$Text"
def TX4 : u_T := fun k => match k with
  | 0 => ("IndentRules$Text", "lines", "[LIndentRules$Line;", true)
  | _ => ("IndentRules$Text", "size", "I", false)
def tyX4 : Nat → FieldType := fun k => match k with
  | 0 => .array (.object "IndentRules$Line")
  | _ => .int
abbrev wsX40 : List Cond := u_ws RX4 TX4 2
theorem nmX4 : ∀ a, a < 2 → ∀ b, b < 2 → a ≠ b → (TX4 a).2.1 ≠ (TX4 b).2.1 := by decide +kernel
theorem tyX4_ok : ∀ k, k < 2 → parseFieldDescriptor (TX4 k).2.2.1 = some (tyX4 k) := by decide +kernel
abbrev cX4_init : ByteArray := prog_6_method_1_code
def yX4_init : MethodName := ⟨RX4, "<init>", "()V"⟩
abbrev cX4_insert : ByteArray := prog_6_method_2_code
def yX4_insert : MethodName := ⟨RX4, "insert", "(II)V"⟩
abbrev cX4_remove : ByteArray := prog_6_method_3_code
def yX4_remove : MethodName := ⟨RX4, "remove", "(I)V"⟩
def RX5 : String := "IndentRules"
def TX5 : u_T := fun k => match k with
  | 0 => ("IndentRules", "text", "LIndentRules$Text;", true)
  | 1 => ("IndentRules", "nesting", "LIndentRules$Nesting;", true)
  | 2 => ("IndentRules", "now", "LIndentRules$Layout;", true)
  | 3 => ("IndentRules", "tried", "LIndentRules$Layout;", true)
  | 4 => ("IndentRules", "guessed", "[I", true)
  | 5 => ("IndentRules", "guessedParts", "I", false)
  | _ => ("IndentRules", "pockets", "[LIndentRules$Pocket;", true)
def tyX5 : Nat → FieldType := fun k => match k with
  | 0 => .object "IndentRules$Text"
  | 1 => .object "IndentRules$Nesting"
  | 2 => .object "IndentRules$Layout"
  | 3 => .object "IndentRules$Layout"
  | 4 => .array .int
  | 5 => .int
  | _ => .array (.object "IndentRules$Pocket")
abbrev wsX50 : List Cond := u_ws RX5 TX5 7
theorem nmX5 : ∀ a, a < 7 → ∀ b, b < 7 → a ≠ b → (TX5 a).2.1 ≠ (TX5 b).2.1 := by decide +kernel
theorem tyX5_ok : ∀ k, k < 7 → parseFieldDescriptor (TX5 k).2.2.1 = some (tyX5 k) := by decide +kernel
abbrev cX5_init : ByteArray := prog_1_method_1_code
def yX5_init : MethodName := ⟨RX5, "<init>", "()V"⟩
abbrev cX5_put : ByteArray := prog_1_method_2_code
def yX5_put : MethodName := ⟨RX5, "put", "(II)I"⟩
abbrev cX5_change : ByteArray := prog_1_method_3_code
def yX5_change : MethodName := ⟨RX5, "change", "(II)I"⟩
abbrev cX5_take : ByteArray := prog_1_method_4_code
def yX5_take : MethodName := ⟨RX5, "take", "(I)I"⟩
abbrev cX5_style : ByteArray := prog_1_method_5_code
def yX5_style : MethodName := ⟨RX5, "style", "(II)I"⟩
abbrev cX5_ofLine : ByteArray := prog_1_method_6_code
def yX5_ofLine : MethodName := ⟨RX5, "ofLine", "(II)I"⟩
abbrev cX5_opener : ByteArray := prog_1_method_7_code
def yX5_opener : MethodName := ⟨RX5, "opener", "(II)I"⟩
abbrev cX5_unlike : ByteArray := prog_1_method_8_code
def yX5_unlike : MethodName := ⟨RX5, "unlike", "(I)I"⟩
abbrev cX5_see : ByteArray := prog_1_method_9_code
def yX5_see : MethodName := ⟨RX5, "see", "(II)I"⟩
abbrev cX5_fits : ByteArray := prog_1_method_10_code
def yX5_fits : MethodName := ⟨RX5, "fits", "(IIII)I"⟩
abbrev cX5_score : ByteArray := prog_1_method_11_code
def yX5_score : MethodName := ⟨RX5, "score", "(IIIII)I"⟩
abbrev cX5_guess : ByteArray := prog_1_method_12_code
def yX5_guess : MethodName := ⟨RX5, "guess", "(I)I"⟩
abbrev cX5_follow : ByteArray := prog_1_method_13_code
def yX5_follow : MethodName := ⟨RX5, "follow", "()I"⟩
abbrev cX5_pocket : ByteArray := prog_1_method_14_code
def yX5_pocket : MethodName := ⟨RX5, "pocket", "(III)I"⟩
abbrev cX5_store : ByteArray := prog_1_method_15_code
def yX5_store : MethodName := ⟨RX5, "store", "(III)I"⟩
abbrev cX5_copy : ByteArray := prog_1_method_16_code
def yX5_copy : MethodName := ⟨RX5, "copy", "(II)I"⟩
abbrev cX5_ofPocket : ByteArray := prog_1_method_17_code
def yX5_ofPocket : MethodName := ⟨RX5, "ofPocket", "(III)I"⟩
abbrev cX5_many : ByteArray := prog_1_method_18_code
def yX5_many : MethodName := ⟨RX5, "many", "(I)I"⟩
abbrev cX5_isLine : ByteArray := prog_1_method_19_code
def yX5_isLine : MethodName := ⟨RX5, "isLine", "(I)Z"⟩
abbrev cX5_isOpener : ByteArray := prog_1_method_20_code
def yX5_isOpener : MethodName := ⟨RX5, "isOpener", "(I)Z"⟩
abbrev cX5_isPocket : ByteArray := prog_1_method_21_code
def yX5_isPocket : MethodName := ⟨RX5, "isPocket", "(I)Z"⟩
abbrev cX5_areTokens : ByteArray := prog_1_method_22_code
def yX5_areTokens : MethodName := ⟨RX5, "areTokens", "(I)Z"⟩
abbrev cX5_isSetting : ByteArray := prog_1_method_23_code
def yX5_isSetting : MethodName := ⟨RX5, "isSetting", "(II)Z"⟩
abbrev cX5_isStyle : ByteArray := prog_1_method_24_code
def yX5_isStyle : MethodName := ⟨RX5, "isStyle", "(IIII)Z"⟩
abbrev cX5_readLines : ByteArray := prog_1_method_25_code
def yX5_readLines : MethodName := ⟨RX5, "readLines", "()V"⟩
abbrev cX5_rememberColumns : ByteArray := prog_1_method_26_code
def yX5_rememberColumns : MethodName := ⟨RX5, "rememberColumns", "()V"⟩
abbrev cX5_movedBut : ByteArray := prog_1_method_27_code
def yX5_movedBut : MethodName := ⟨RX5, "movedBut", "(I)I"⟩
abbrev cX5_isAsSeen : ByteArray := prog_1_method_28_code
def yX5_isAsSeen : MethodName := ⟨RX5, "isAsSeen", "(LIndentRules$Layout;I)Z"⟩
abbrev cX5_hasSeenTokens : ByteArray := prog_1_method_29_code
def yX5_hasSeenTokens : MethodName := ⟨RX5, "hasSeenTokens", "()Z"⟩
abbrev cX5_layTried : ByteArray := prog_1_method_30_code
def yX5_layTried : MethodName := ⟨RX5, "layTried", "(IIII)V"⟩
abbrev cX5_partsOfTried : ByteArray := prog_1_method_31_code
def yX5_partsOfTried : MethodName := ⟨RX5, "partsOfTried", "()I"⟩
abbrev cX5_findGuess : ByteArray := prog_1_method_32_code
def yX5_findGuess : MethodName := ⟨RX5, "findGuess", "()V"⟩
abbrev cX5_keepIfBetter : ByteArray := prog_1_method_33_code
def yX5_keepIfBetter : MethodName := ⟨RX5, "keepIfBetter", "()V"⟩
abbrev cX5_floatBits : ByteArray := prog_1_method_34_code
def yX5_floatBits : MethodName := ⟨RX5, "floatBits", "(I)I"⟩
abbrev cX5_allStrays : ByteArray := prog_1_method_35_code
def yX5_allStrays : MethodName := ⟨RX5, "allStrays", "()I"⟩
abbrev cX5_seenLines : ByteArray := prog_1_method_36_code
def yX5_seenLines : MethodName := ⟨RX5, "seenLines", "()I"⟩
abbrev cX5_allTokens : ByteArray := prog_1_method_37_code
def yX5_allTokens : MethodName := ⟨RX5, "allTokens", "()I"⟩
def RX6 : String := "IndentRulesModel"
def TX6 : u_T := fun k => match k with
  | 0 => ("IndentRulesModel", "lines", "I", false)
  | 1 => ("IndentRulesModel", "row", "[I", true)
  | 2 => ("IndentRulesModel", "seen", "[I", true)
  | 3 => ("IndentRulesModel", "style", "[I", true)
  | 4 => ("IndentRulesModel", "openers", "I", false)
  | 5 => ("IndentRulesModel", "lineOf", "[I", true)
  | 6 => ("IndentRulesModel", "tokenOf", "[I", true)
  | 7 => ("IndentRulesModel", "atOf", "[I", true)
  | 8 => ("IndentRulesModel", "baseOf", "[I", true)
  | 9 => ("IndentRulesModel", "kindOf", "[I", true)
  | 10 => ("IndentRulesModel", "partnerOf", "[I", true)
  | 11 => ("IndentRulesModel", "columnOf", "[I", true)
  | 12 => ("IndentRulesModel", "openOf", "[I", true)
  | 13 => ("IndentRulesModel", "strayOf", "[I", true)
  | 14 => ("IndentRulesModel", "deep", "I", false)
  | 15 => ("IndentRulesModel", "stack", "[I", true)
  | 16 => ("IndentRulesModel", "last", "I", false)
  | 17 => ("IndentRulesModel", "by", "[I", true)
  | 18 => ("IndentRulesModel", "columnWas", "[I", true)
  | 19 => ("IndentRulesModel", "guessed", "[I", true)
  | 20 => ("IndentRulesModel", "cellsOf", "[I", true)
  | 21 => ("IndentRulesModel", "sortOf", "[I", true)
  | 22 => ("IndentRulesModel", "keptLine", "[I", true)
  | 23 => ("IndentRulesModel", "keptAt", "[I", true)
  | _ => ("IndentRulesModel", "keptKind", "[I", true)
def tyX6 : Nat → FieldType := fun k => match k with
  | 0 => .int
  | 1 => .array .int
  | 2 => .array .int
  | 3 => .array .int
  | 4 => .int
  | 5 => .array .int
  | 6 => .array .int
  | 7 => .array .int
  | 8 => .array .int
  | 9 => .array .int
  | 10 => .array .int
  | 11 => .array .int
  | 12 => .array .int
  | 13 => .array .int
  | 14 => .int
  | 15 => .array .int
  | 16 => .int
  | 17 => .array .int
  | 18 => .array .int
  | 19 => .array .int
  | 20 => .array .int
  | 21 => .array .int
  | 22 => .array .int
  | 23 => .array .int
  | _ => .array .int
abbrev wsX60 : List Cond := u_ws RX6 TX6 25
theorem nmX6 : ∀ a, a < 25 → ∀ b, b < 25 → a ≠ b → (TX6 a).2.1 ≠ (TX6 b).2.1 := by decide +kernel
theorem tyX6_ok : ∀ k, k < 25 → parseFieldDescriptor (TX6 k).2.2.1 = some (tyX6 k) := by decide +kernel
abbrev cX6_init : ByteArray := prog_8_method_1_code
def yX6_init : MethodName := ⟨RX6, "<init>", "()V"⟩
abbrev cX6_within : ByteArray := prog_8_method_2_code
def yX6_within : MethodName := ⟨RX6, "within", "(III)Z"⟩
abbrev cX6_isLine : ByteArray := prog_8_method_3_code
def yX6_isLine : MethodName := ⟨RX6, "isLine", "(I)Z"⟩
abbrev cX6_lengthOf : ByteArray := prog_8_method_4_code
def yX6_lengthOf : MethodName := ⟨RX6, "lengthOf", "(I)I"⟩
abbrev cX6_areTokens : ByteArray := prog_8_method_5_code
def yX6_areTokens : MethodName := ⟨RX6, "areTokens", "(I)Z"⟩
abbrev cX6_tokenAt : ByteArray := prog_8_method_6_code
def yX6_tokenAt : MethodName := ⟨RX6, "tokenAt", "(II)I"⟩
abbrev cX6_widthOf : ByteArray := prog_8_method_7_code
def yX6_widthOf : MethodName := ⟨RX6, "widthOf", "(I)I"⟩
abbrev cX6_top : ByteArray := prog_8_method_8_code
def yX6_top : MethodName := ⟨RX6, "top", "()I"⟩
abbrev cX6_columnFor : ByteArray := prog_8_method_9_code
def yX6_columnFor : MethodName := ⟨RX6, "columnFor", "(I)I"⟩
abbrev cX6_comes : ByteArray := prog_8_method_10_code
def yX6_comes : MethodName := ⟨RX6, "comes", "(IIII)V"⟩
abbrev cX6_closes : ByteArray := prog_8_method_11_code
def yX6_closes : MethodName := ⟨RX6, "closes", "(IZ)V"⟩
abbrev cX6_goesToken : ByteArray := prog_8_method_12_code
def yX6_goesToken : MethodName := ⟨RX6, "goesToken", "(IIII)V"⟩
abbrev cX6_goesLine : ByteArray := prog_8_method_13_code
def yX6_goesLine : MethodName := ⟨RX6, "goesLine", "(I)V"⟩
abbrev cX6_goesBy : ByteArray := prog_8_method_14_code
def yX6_goesBy : MethodName := ⟨RX6, "goesBy", "(IIII)V"⟩
abbrev cX6_goes : ByteArray := prog_8_method_15_code
def yX6_goes : MethodName := ⟨RX6, "goes", "()V"⟩
abbrev cX6_notes : ByteArray := prog_8_method_16_code
def yX6_notes : MethodName := ⟨RX6, "notes", "()V"⟩
abbrev cX6_moved : ByteArray := prog_8_method_17_code
def yX6_moved : MethodName := ⟨RX6, "moved", "(I)I"⟩
abbrev cX6_put : ByteArray := prog_8_method_18_code
def yX6_put : MethodName := ⟨RX6, "put", "(II)I"⟩
abbrev cX6_change : ByteArray := prog_8_method_19_code
def yX6_change : MethodName := ⟨RX6, "change", "(II)I"⟩
abbrev cX6_take : ByteArray := prog_8_method_20_code
def yX6_take : MethodName := ⟨RX6, "take", "(I)I"⟩
abbrev cX6_maySet : ByteArray := prog_8_method_21_code
def yX6_maySet : MethodName := ⟨RX6, "maySet", "(II)Z"⟩
abbrev cX6_style : ByteArray := prog_8_method_22_code
def yX6_style : MethodName := ⟨RX6, "style", "(II)I"⟩
abbrev cX6_widthsOf : ByteArray := prog_8_method_23_code
def yX6_widthsOf : MethodName := ⟨RX6, "widthsOf", "(I)I"⟩
abbrev cX6_ofLine : ByteArray := prog_8_method_24_code
def yX6_ofLine : MethodName := ⟨RX6, "ofLine", "(II)I"⟩
abbrev cX6_opener : ByteArray := prog_8_method_25_code
def yX6_opener : MethodName := ⟨RX6, "opener", "(II)I"⟩
abbrev cX6_counts : ByteArray := prog_8_method_26_code
def yX6_counts : MethodName := ⟨RX6, "counts", "(I)Z"⟩
abbrev cX6_unlike : ByteArray := prog_8_method_27_code
def yX6_unlike : MethodName := ⟨RX6, "unlike", "(I)I"⟩
abbrev cX6_see : ByteArray := prog_8_method_28_code
def yX6_see : MethodName := ⟨RX6, "see", "(II)I"⟩
abbrev cX6_isStyle : ByteArray := prog_8_method_29_code
def yX6_isStyle : MethodName := ⟨RX6, "isStyle", "(IIII)Z"⟩
abbrev cX6_fits : ByteArray := prog_8_method_30_code
def yX6_fits : MethodName := ⟨RX6, "fits", "(IIII)I"⟩
abbrev cX6_scoreBy : ByteArray := prog_8_method_31_code
def yX6_scoreBy : MethodName := ⟨RX6, "scoreBy", "(IIII)I"⟩
abbrev cX6_bitsOf : ByteArray := prog_8_method_32_code
def yX6_bitsOf : MethodName := ⟨RX6, "bitsOf", "(I)I"⟩
abbrev cX6_score : ByteArray := prog_8_method_33_code
def yX6_score : MethodName := ⟨RX6, "score", "(IIIII)I"⟩
abbrev cX6_guesses : ByteArray := prog_8_method_34_code
def yX6_guesses : MethodName := ⟨RX6, "guesses", "()Z"⟩
abbrev cX6_guess : ByteArray := prog_8_method_35_code
def yX6_guess : MethodName := ⟨RX6, "guess", "(I)I"⟩
abbrev cX6_follow : ByteArray := prog_8_method_36_code
def yX6_follow : MethodName := ⟨RX6, "follow", "()I"⟩
abbrev cX6_isPocket : ByteArray := prog_8_method_37_code
def yX6_isPocket : MethodName := ⟨RX6, "isPocket", "(I)Z"⟩
abbrev cX6_pocket : ByteArray := prog_8_method_38_code
def yX6_pocket : MethodName := ⟨RX6, "pocket", "(III)I"⟩
abbrev cX6_isOf : ByteArray := prog_8_method_39_code
def yX6_isOf : MethodName := ⟨RX6, "isOf", "(II)Z"⟩
abbrev cX6_store : ByteArray := prog_8_method_40_code
def yX6_store : MethodName := ⟨RX6, "store", "(III)I"⟩
abbrev cX6_copy : ByteArray := prog_8_method_41_code
def yX6_copy : MethodName := ⟨RX6, "copy", "(II)I"⟩
abbrev cX6_ofPocket : ByteArray := prog_8_method_42_code
def yX6_ofPocket : MethodName := ⟨RX6, "ofPocket", "(III)I"⟩
abbrev cX6_manyWithout : ByteArray := prog_8_method_43_code
def yX6_manyWithout : MethodName := ⟨RX6, "manyWithout", "()I"⟩
abbrev cX6_manyOf : ByteArray := prog_8_method_44_code
def yX6_manyOf : MethodName := ⟨RX6, "manyOf", "(I)I"⟩
abbrev cX6_many : ByteArray := prog_8_method_45_code
def yX6_many : MethodName := ⟨RX6, "many", "(I)I"⟩
def RJ9 : String := "java/lang/Math"
def TJ9 : u_T := fun k => match k with
  | _ => ("", "", "", false)
def tyJ9 : Nat → FieldType := fun k => match k with
  | _ => .int
abbrev wsJ90 : List Cond := u_ws RJ9 TJ9 0
theorem nmJ9 : ∀ a, a < 0 → ∀ b, b < 0 → a ≠ b → (TJ9 a).2.1 ≠ (TJ9 b).2.1 := by decide +kernel
theorem tyJ9_ok : ∀ k, k < 0 → parseFieldDescriptor (TJ9 k).2.2.1 = some (tyJ9 k) := by decide +kernel
abbrev cJ9_min_7cf53 : ByteArray := prog_9_method_69_code
def yJ9_min_7cf53 : MethodName := ⟨RJ9, "min", "(II)I"⟩
def RL : String := "IndentRulesLaw"
abbrev cL_law : ByteArray := code
def yL_law : MethodName := ⟨RL, "law", "([I)Z"⟩
def wsX0_init : List Cond := .code yX0_init cX0_init 1 none :: ([.methodLink RX0 3 objectInit, .instanceMethod objectInit, .code objectInit ⟨#[0xb1]⟩ 1 none, .arrayClass .int, .fieldLink RX0 9 "IndentRules$Layout" "settings" "[I", .fieldLink RX0 15 "IndentRules$Layout" "columns" "[I"] ++ wsX00)
def wsX0_choose : List Cond := .code yX0_choose cX0_choose 5 none :: ([.fieldLink RX0 9 "IndentRules$Layout" "settings" "[I"] ++ wsX00)
def wsX0_goingOn : List Cond := .code yX0_goingOn cX0_goingOn 3 (some .int) :: ([.fieldLink RX0 9 "IndentRules$Layout" "settings" "[I"] ++ wsX00)
def wsX0_isAligned : List Cond := .code yX0_isAligned cX0_isAligned 3 (some .boolean) :: ([.fieldLink RX0 52 "IndentRules$Nesting" "sortOf" "[I", .fieldLink RX0 9 "IndentRules$Layout" "settings" "[I", .fieldLink RX0 69 "IndentRules$Nesting" "followed" "[Z"] ++ wsX20 ++ wsX00)
def wsX0_placeOf : List Cond := .code yX0_placeOf cX0_placeOf 3 (some .int) :: ([.fieldLink RX0 15 "IndentRules$Layout" "columns" "[I", .fieldLink RX0 73 "IndentRules$Nesting" "lineOf" "[I", .fieldLink RX0 76 "IndentRules$Nesting" "widthAheadOf" "[I"] ++ wsX00 ++ wsX20)
def wsX0_baseOf : List Cond := .code yX0_baseOf cX0_baseOf 3 (some .int) :: ([.fieldLink RX0 15 "IndentRules$Layout" "columns" "[I", .fieldLink RX0 73 "IndentRules$Nesting" "lineOf" "[I"] ++ wsX00 ++ wsX20)
def wsX0_columnInBracket : List Cond := .code yX0_columnInBracket cX0_columnInBracket 6 (some .int) :: ([.fieldLink RX0 9 "IndentRules$Layout" "settings" "[I", .methodLink RX0 62 yX0_isAligned, .instanceMethod yX0_isAligned, .selects RX0 yX0_isAligned yX0_isAligned, .initialized RX0, .code yX0_isAligned cX0_isAligned 3 (some .boolean), .fieldLink RX0 52 "IndentRules$Nesting" "sortOf" "[I", .fieldLink RX0 69 "IndentRules$Nesting" "followed" "[Z", .methodLink RX0 66 yX0_placeOf, .instanceMethod yX0_placeOf, .selects RX0 yX0_placeOf yX0_placeOf, .code yX0_placeOf cX0_placeOf 3 (some .int), .fieldLink RX0 15 "IndentRules$Layout" "columns" "[I", .fieldLink RX0 73 "IndentRules$Nesting" "lineOf" "[I", .fieldLink RX0 76 "IndentRules$Nesting" "widthAheadOf" "[I", .methodLink RX0 58 yX0_baseOf, .instanceMethod yX0_baseOf, .selects RX0 yX0_baseOf yX0_baseOf, .code yX0_baseOf cX0_baseOf 3 (some .int)] ++ wsX00 ++ wsX20)
def wsX0_columnBehind_r1 : List Cond := [Cond.fieldLink RX0 40 "IndentRules$Nesting" "tops" "[I", Cond.fieldLink RX0 45 "IndentRules$Nesting" "lasts" "[I", Cond.fieldLink RX0 52 "IndentRules$Nesting" "sortOf" "[I", Cond.fieldLink RX0 9 "IndentRules$Layout" "settings" "[I", Cond.methodLink RX0 48 yX0_goingOn, Cond.instanceMethod yX0_goingOn, Cond.selects RX0 yX0_goingOn yX0_goingOn, Cond.initialized RX0, Cond.code yX0_goingOn cX0_goingOn 3 (some .int), Cond.methodLink RX0 55 yX0_columnInBracket, Cond.instanceMethod yX0_columnInBracket, Cond.selects RX0 yX0_columnInBracket yX0_columnInBracket, Cond.code yX0_columnInBracket cX0_columnInBracket 6 (some .int), Cond.methodLink RX0 62 yX0_isAligned, Cond.instanceMethod yX0_isAligned, Cond.selects RX0 yX0_isAligned yX0_isAligned, Cond.code yX0_isAligned cX0_isAligned 3 (some .boolean), Cond.fieldLink RX0 69 "IndentRules$Nesting" "followed" "[Z", Cond.methodLink RX0 66 yX0_placeOf, Cond.instanceMethod yX0_placeOf, Cond.selects RX0 yX0_placeOf yX0_placeOf, Cond.code yX0_placeOf cX0_placeOf 3 (some .int), Cond.fieldLink RX0 15 "IndentRules$Layout" "columns" "[I", Cond.fieldLink RX0 73 "IndentRules$Nesting" "lineOf" "[I"]
def wsX0_columnBehind_r2 : List Cond := [Cond.fieldLink RX0 76 "IndentRules$Nesting" "widthAheadOf" "[I", Cond.methodLink RX0 58 yX0_baseOf, Cond.instanceMethod yX0_baseOf, Cond.selects RX0 yX0_baseOf yX0_baseOf, Cond.code yX0_baseOf cX0_baseOf 3 (some .int)]
def wsX0_columnBehind : List Cond := .code yX0_columnBehind cX0_columnBehind 6 (some .int) :: ((wsX0_columnBehind_r1 ++ wsX0_columnBehind_r2) ++ wsX20 ++ wsX00)
def wsX0_lay_r1 : List Cond := [Cond.fieldLink RX0 18 "IndentRules$Text" "size" "I", Cond.fieldLink RX0 24 "IndentRules$Text" "lines" "[LIndentRules$Line;", Cond.fieldLink RX0 15 "IndentRules$Layout" "columns" "[I", Cond.fieldLink RX0 28 "IndentRules$Line" "count" "I", Cond.fieldLink RX0 33 "IndentRules$Line" "tokens" "[I", Cond.methodLink RX0 36 yX0_columnBehind, Cond.instanceMethod yX0_columnBehind, Cond.selects RX0 yX0_columnBehind yX0_columnBehind, Cond.initialized RX0, Cond.code yX0_columnBehind cX0_columnBehind 6 (some .int), Cond.fieldLink RX0 40 "IndentRules$Nesting" "tops" "[I", Cond.fieldLink RX0 45 "IndentRules$Nesting" "lasts" "[I", Cond.fieldLink RX0 52 "IndentRules$Nesting" "sortOf" "[I", Cond.fieldLink RX0 9 "IndentRules$Layout" "settings" "[I", Cond.methodLink RX0 48 yX0_goingOn, Cond.instanceMethod yX0_goingOn, Cond.selects RX0 yX0_goingOn yX0_goingOn, Cond.code yX0_goingOn cX0_goingOn 3 (some .int), Cond.methodLink RX0 55 yX0_columnInBracket, Cond.instanceMethod yX0_columnInBracket, Cond.selects RX0 yX0_columnInBracket yX0_columnInBracket, Cond.code yX0_columnInBracket cX0_columnInBracket 6 (some .int), Cond.methodLink RX0 62 yX0_isAligned, Cond.instanceMethod yX0_isAligned]
def wsX0_lay_r2 : List Cond := [Cond.selects RX0 yX0_isAligned yX0_isAligned, Cond.code yX0_isAligned cX0_isAligned 3 (some .boolean), Cond.fieldLink RX0 69 "IndentRules$Nesting" "followed" "[Z", Cond.methodLink RX0 66 yX0_placeOf, Cond.instanceMethod yX0_placeOf, Cond.selects RX0 yX0_placeOf yX0_placeOf, Cond.code yX0_placeOf cX0_placeOf 3 (some .int), Cond.fieldLink RX0 73 "IndentRules$Nesting" "lineOf" "[I", Cond.fieldLink RX0 76 "IndentRules$Nesting" "widthAheadOf" "[I", Cond.methodLink RX0 58 yX0_baseOf, Cond.instanceMethod yX0_baseOf, Cond.selects RX0 yX0_baseOf yX0_baseOf, Cond.code yX0_baseOf cX0_baseOf 3 (some .int)]
def wsX0_lay : List Cond := .code yX0_lay cX0_lay 5 none :: ((wsX0_lay_r1 ++ wsX0_lay_r2) ++ wsX40 ++ wsX00 ++ wsX10 ++ wsX20)
def wsX0_kindOf : List Cond := .code yX0_kindOf cX0_kindOf 3 (some .int) :: ([.fieldLink RX0 52 "IndentRules$Nesting" "sortOf" "[I", .methodLink RX0 62 yX0_isAligned, .instanceMethod yX0_isAligned, .selects RX0 yX0_isAligned yX0_isAligned, .initialized RX0, .code yX0_isAligned cX0_isAligned 3 (some .boolean), .fieldLink RX0 9 "IndentRules$Layout" "settings" "[I", .fieldLink RX0 69 "IndentRules$Nesting" "followed" "[Z"] ++ wsX20 ++ wsX00)
def wsX1_init : List Cond := .code yX1_init cX1_init 1 none :: ([.methodLink RX1 3 objectInit, .instanceMethod objectInit, .code objectInit ⟨#[0xb1]⟩ 1 none, .arrayClass .int, .fieldLink RX1 9 "IndentRules$Line" "tokens" "[I", .fieldLink RX1 15 "IndentRules$Line" "seen" "I"] ++ wsX10)
def wsX1_digitsOf : List Cond := .code yX1_digitsOf cX1_digitsOf 4 (some .int) :: ([])
def wsX1_read : List Cond := .code yX1_read cX1_read 4 none :: ([.fieldLink RX1 19 "IndentRules$Line" "told" "I", .fieldLink RX1 26 "IndentRules$Line" "count" "I", .fieldLink RX1 9 "IndentRules$Line" "tokens" "[I", .fieldLink RX1 29 "IndentRules$Line" "present" "I", .methodLink RX1 22 yX1_digitsOf, .static yX1_digitsOf, .initialized RX1, .code yX1_digitsOf cX1_digitsOf 4 (some .int)] ++ wsX10)
def wsX1_widthAhead : List Cond := .code yX1_widthAhead cX1_widthAhead 4 (some .int) :: ([.fieldLink RX1 26 "IndentRules$Line" "count" "I", .fieldLink RX1 9 "IndentRules$Line" "tokens" "[I"] ++ wsX10)
def wsX1_isFollowed : List Cond := .code yX1_isFollowed cX1_isFollowed 3 (some .boolean) :: ([.fieldLink RX1 29 "IndentRules$Line" "present" "I", .fieldLink RX1 9 "IndentRules$Line" "tokens" "[I"] ++ wsX10)
def wsX1_counts : List Cond := .code yX1_counts cX1_counts 1 (some .boolean) :: ([.fieldLink RX1 15 "IndentRules$Line" "seen" "I", .fieldLink RX1 26 "IndentRules$Line" "count" "I"] ++ wsX10)
def wsX2_init : List Cond := .code yX2_init cX2_init 1 none :: ([.methodLink RX2 3 objectInit, .instanceMethod objectInit, .code objectInit ⟨#[0xb1]⟩ 1 none, .arrayClass .int, .fieldLink RX2 9 "IndentRules$Nesting" "tops" "[I", .fieldLink RX2 15 "IndentRules$Nesting" "depths" "[I", .fieldLink RX2 18 "IndentRules$Nesting" "lasts" "[I", .fieldLink RX2 21 "IndentRules$Nesting" "strays" "[I", .fieldLink RX2 24 "IndentRules$Nesting" "sortOf" "[I", .fieldLink RX2 27 "IndentRules$Nesting" "lineOf" "[I", .fieldLink RX2 30 "IndentRules$Nesting" "tokenOf" "[I", .fieldLink RX2 33 "IndentRules$Nesting" "widthAheadOf" "[I", .arrayClass .boolean, .fieldLink RX2 36 "IndentRules$Nesting" "followed" "[Z", .fieldLink RX2 40 "IndentRules$Nesting" "partnerLineOf" "[I", .fieldLink RX2 43 "IndentRules$Nesting" "open" "[I"] ++ wsX20)
def wsX2_openOne : List Cond := .code yX2_openOne cX2_openOne 4 none :: ([.fieldLink RX2 46 "IndentRules$Nesting" "openers" "I", .fieldLink RX2 50 "IndentRules$Nesting" "height" "I", .fieldLink RX2 24 "IndentRules$Nesting" "sortOf" "[I", .fieldLink RX2 74 "IndentRules$Line" "tokens" "[I", .fieldLink RX2 27 "IndentRules$Nesting" "lineOf" "[I", .fieldLink RX2 30 "IndentRules$Nesting" "tokenOf" "[I", .fieldLink RX2 33 "IndentRules$Nesting" "widthAheadOf" "[I", .fieldLink RX2 36 "IndentRules$Nesting" "followed" "[Z", .fieldLink RX2 40 "IndentRules$Nesting" "partnerLineOf" "[I", .fieldLink RX2 43 "IndentRules$Nesting" "open" "[I", .methodLink RX2 85 yX1_widthAhead, .instanceMethod yX1_widthAhead, .selects RX1 yX1_widthAhead yX1_widthAhead, .initialized RX1, .code yX1_widthAhead cX1_widthAhead 4 (some .int), .fieldLink RX1 26 "IndentRules$Line" "count" "I", .fieldLink RX1 9 "IndentRules$Line" "tokens" "[I", .methodLink RX2 89 yX1_isFollowed, .instanceMethod yX1_isFollowed, .selects RX1 yX1_isFollowed yX1_isFollowed, .code yX1_isFollowed cX1_isFollowed 3 (some .boolean), .fieldLink RX1 29 "IndentRules$Line" "present" "I"] ++ wsX20 ++ wsX10)
def wsX2_closeOne : List Cond := .code yX2_closeOne cX2_closeOne 3 none :: ([.fieldLink RX2 50 "IndentRules$Nesting" "height" "I", .fieldLink RX2 24 "IndentRules$Nesting" "sortOf" "[I", .fieldLink RX2 43 "IndentRules$Nesting" "open" "[I", .fieldLink RX2 40 "IndentRules$Nesting" "partnerLineOf" "[I", .fieldLink RX2 21 "IndentRules$Nesting" "strays" "[I"] ++ wsX20)
def wsX2_readLine_r1 : List Cond := [Cond.fieldLink RX2 69 "IndentRules$Line" "present" "I", Cond.fieldLink RX2 74 "IndentRules$Line" "tokens" "[I", Cond.fieldLink RX2 53 "IndentRules$Nesting" "last" "I", Cond.methodLink RX2 77 yX2_openOne, Cond.instanceMethod yX2_openOne, Cond.selects RX2 yX2_openOne yX2_openOne, Cond.initialized RX2, Cond.code yX2_openOne cX2_openOne 4 none, Cond.fieldLink RX2 46 "IndentRules$Nesting" "openers" "I", Cond.fieldLink RX2 50 "IndentRules$Nesting" "height" "I", Cond.fieldLink RX2 24 "IndentRules$Nesting" "sortOf" "[I", Cond.fieldLink RX2 27 "IndentRules$Nesting" "lineOf" "[I", Cond.fieldLink RX2 30 "IndentRules$Nesting" "tokenOf" "[I", Cond.fieldLink RX2 33 "IndentRules$Nesting" "widthAheadOf" "[I", Cond.fieldLink RX2 36 "IndentRules$Nesting" "followed" "[Z", Cond.fieldLink RX2 40 "IndentRules$Nesting" "partnerLineOf" "[I", Cond.fieldLink RX2 43 "IndentRules$Nesting" "open" "[I", Cond.methodLink RX2 85 yX1_widthAhead, Cond.instanceMethod yX1_widthAhead, Cond.selects RX1 yX1_widthAhead yX1_widthAhead, Cond.initialized RX1, Cond.code yX1_widthAhead cX1_widthAhead 4 (some .int), Cond.fieldLink RX1 26 "IndentRules$Line" "count" "I", Cond.fieldLink RX1 9 "IndentRules$Line" "tokens" "[I"]
def wsX2_readLine_r2 : List Cond := [Cond.methodLink RX2 89 yX1_isFollowed, Cond.instanceMethod yX1_isFollowed, Cond.selects RX1 yX1_isFollowed yX1_isFollowed, Cond.code yX1_isFollowed cX1_isFollowed 3 (some .boolean), Cond.fieldLink RX1 29 "IndentRules$Line" "present" "I", Cond.methodLink RX2 81 yX2_closeOne, Cond.instanceMethod yX2_closeOne, Cond.selects RX2 yX2_closeOne yX2_closeOne, Cond.code yX2_closeOne cX2_closeOne 3 none, Cond.fieldLink RX2 21 "IndentRules$Nesting" "strays" "[I"]
def wsX2_readLine : List Cond := .code yX2_readLine cX2_readLine 5 none :: ((wsX2_readLine_r1 ++ wsX2_readLine_r2) ++ wsX10 ++ wsX20)
def wsX2_read_r1 : List Cond := [Cond.fieldLink RX2 46 "IndentRules$Nesting" "openers" "I", Cond.fieldLink RX2 50 "IndentRules$Nesting" "height" "I", Cond.fieldLink RX2 53 "IndentRules$Nesting" "last" "I", Cond.fieldLink RX2 56 "IndentRules$Text" "size" "I", Cond.fieldLink RX2 9 "IndentRules$Nesting" "tops" "[I", Cond.fieldLink RX2 43 "IndentRules$Nesting" "open" "[I", Cond.fieldLink RX2 15 "IndentRules$Nesting" "depths" "[I", Cond.fieldLink RX2 18 "IndentRules$Nesting" "lasts" "[I", Cond.fieldLink RX2 21 "IndentRules$Nesting" "strays" "[I", Cond.fieldLink RX2 61 "IndentRules$Text" "lines" "[LIndentRules$Line;", Cond.methodLink RX2 65 yX2_readLine, Cond.instanceMethod yX2_readLine, Cond.selects RX2 yX2_readLine yX2_readLine, Cond.initialized RX2, Cond.code yX2_readLine cX2_readLine 5 none, Cond.fieldLink RX2 69 "IndentRules$Line" "present" "I", Cond.fieldLink RX2 74 "IndentRules$Line" "tokens" "[I", Cond.methodLink RX2 77 yX2_openOne, Cond.instanceMethod yX2_openOne, Cond.selects RX2 yX2_openOne yX2_openOne, Cond.code yX2_openOne cX2_openOne 4 none, Cond.fieldLink RX2 24 "IndentRules$Nesting" "sortOf" "[I", Cond.fieldLink RX2 27 "IndentRules$Nesting" "lineOf" "[I", Cond.fieldLink RX2 30 "IndentRules$Nesting" "tokenOf" "[I"]
def wsX2_read_r2 : List Cond := [Cond.fieldLink RX2 33 "IndentRules$Nesting" "widthAheadOf" "[I", Cond.fieldLink RX2 36 "IndentRules$Nesting" "followed" "[Z", Cond.fieldLink RX2 40 "IndentRules$Nesting" "partnerLineOf" "[I", Cond.methodLink RX2 85 yX1_widthAhead, Cond.instanceMethod yX1_widthAhead, Cond.selects RX1 yX1_widthAhead yX1_widthAhead, Cond.initialized RX1, Cond.code yX1_widthAhead cX1_widthAhead 4 (some .int), Cond.fieldLink RX1 26 "IndentRules$Line" "count" "I", Cond.fieldLink RX1 9 "IndentRules$Line" "tokens" "[I", Cond.methodLink RX2 89 yX1_isFollowed, Cond.instanceMethod yX1_isFollowed, Cond.selects RX1 yX1_isFollowed yX1_isFollowed, Cond.code yX1_isFollowed cX1_isFollowed 3 (some .boolean), Cond.fieldLink RX1 29 "IndentRules$Line" "present" "I", Cond.methodLink RX2 81 yX2_closeOne, Cond.instanceMethod yX2_closeOne, Cond.selects RX2 yX2_closeOne yX2_closeOne, Cond.code yX2_closeOne cX2_closeOne 3 none]
def wsX2_read : List Cond := .code yX2_read cX2_read 3 none :: ((wsX2_read_r1 ++ wsX2_read_r2) ++ wsX20 ++ wsX40 ++ wsX10)
def wsX2_withoutPartner : List Cond := .code yX2_withoutPartner cX2_withoutPartner 3 (some .int) :: ([.fieldLink RX2 46 "IndentRules$Nesting" "openers" "I", .fieldLink RX2 40 "IndentRules$Nesting" "partnerLineOf" "[I"] ++ wsX20)
def wsX3_init : List Cond := .code yX3_init cX3_init 1 none :: ([.methodLink RX3 3 objectInit, .instanceMethod objectInit, .code objectInit ⟨#[0xb1]⟩ 1 none, .arrayClass .int, .fieldLink RX3 9 "IndentRules$Pocket" "lineIn" "[I", .fieldLink RX3 15 "IndentRules$Pocket" "placeIn" "[I", .fieldLink RX3 18 "IndentRules$Pocket" "kindIn" "[I"] ++ wsX30)
def wsX3_fill : List Cond := .code yX3_fill cX3_fill 5 none :: ([.fieldLink RX3 9 "IndentRules$Pocket" "lineIn" "[I", .fieldLink RX3 15 "IndentRules$Pocket" "placeIn" "[I", .fieldLink RX3 18 "IndentRules$Pocket" "kindIn" "[I"] ++ wsX30)
def wsX3_renew : List Cond := .code yX3_renew cX3_renew 4 none :: ([.fieldLink RX3 21 "IndentRules$Pocket" "kind" "I", .fieldLink RX3 25 "IndentRules$Pocket" "size" "I", .methodLink RX3 28 yX3_fill, .instanceMethod yX3_fill, .selects RX3 yX3_fill yX3_fill, .initialized RX3, .code yX3_fill cX3_fill 5 none, .fieldLink RX3 9 "IndentRules$Pocket" "lineIn" "[I", .fieldLink RX3 15 "IndentRules$Pocket" "placeIn" "[I", .fieldLink RX3 18 "IndentRules$Pocket" "kindIn" "[I"] ++ wsX30)
def wsX3_hasCell : List Cond := .code yX3_hasCell cX3_hasCell 2 (some .boolean) :: ([.fieldLink RX3 25 "IndentRules$Pocket" "size" "I"] ++ wsX30)
def wsX3_takes : List Cond := .code yX3_takes cX3_takes 2 (some .boolean) :: ([.fieldLink RX3 21 "IndentRules$Pocket" "kind" "I"] ++ wsX30)
def wsX3_tell : List Cond := .code yX3_tell cX3_tell 3 (some .int) :: ([.fieldLink RX3 9 "IndentRules$Pocket" "lineIn" "[I", .fieldLink RX3 15 "IndentRules$Pocket" "placeIn" "[I", .fieldLink RX3 18 "IndentRules$Pocket" "kindIn" "[I"] ++ wsX30)
def wsX3_becomeLike : List Cond := .code yX3_becomeLike cX3_becomeLike 3 none :: ([.fieldLink RX3 21 "IndentRules$Pocket" "kind" "I", .fieldLink RX3 25 "IndentRules$Pocket" "size" "I", .fieldLink RX3 9 "IndentRules$Pocket" "lineIn" "[I", .fieldLink RX3 15 "IndentRules$Pocket" "placeIn" "[I", .fieldLink RX3 18 "IndentRules$Pocket" "kindIn" "[I", .methodLink RX3 28 yX3_fill, .instanceMethod yX3_fill, .selects RX3 yX3_fill yX3_fill, .initialized RX3, .code yX3_fill cX3_fill 5 none] ++ wsX30)
def wsX4_init : List Cond := .code yX4_init cX4_init 2 none :: ([.methodLink RX4 3 objectInit, .instanceMethod objectInit, .code objectInit ⟨#[0xb1]⟩ 1 none, .classLink RX4 9 RX1, .fieldLink RX4 11 "IndentRules$Text" "lines" "[LIndentRules$Line;", .instantiable RX1 6, .initialized RX1, .instanceMethod yX1_init, .code yX1_init cX1_init 1 none, .methodLink RX1 3 objectInit, .arrayClass .int, .fieldLink RX1 9 "IndentRules$Line" "tokens" "[I", .fieldLink RX1 15 "IndentRules$Line" "seen" "I"] ++ wsX40 ++ wsX10)
def wsX4_insert : List Cond := .code yX4_insert cX4_insert 5 none :: ([.fieldLink RX4 18 "IndentRules$Text" "size" "I", .fieldLink RX4 11 "IndentRules$Text" "lines" "[LIndentRules$Line;", .fieldLink RX4 26 "IndentRules$Line" "seen" "I", .methodLink RX4 22 yX1_read, .instanceMethod yX1_read, .selects RX1 yX1_read yX1_read, .initialized RX1, .code yX1_read cX1_read 4 none, .fieldLink RX1 19 "IndentRules$Line" "told" "I", .fieldLink RX1 26 "IndentRules$Line" "count" "I", .fieldLink RX1 9 "IndentRules$Line" "tokens" "[I", .fieldLink RX1 29 "IndentRules$Line" "present" "I", .methodLink RX1 22 yX1_digitsOf, .static yX1_digitsOf, .code yX1_digitsOf cX1_digitsOf 4 (some .int)] ++ wsX40 ++ wsX10)
def wsX4_remove : List Cond := .code yX4_remove cX4_remove 4 none :: ([.fieldLink RX4 18 "IndentRules$Text" "size" "I", .fieldLink RX4 11 "IndentRules$Text" "lines" "[LIndentRules$Line;"] ++ wsX40)
def wsX5_init_r1 : List Cond := [Cond.methodLink RX5 3 objectInit, Cond.instanceMethod objectInit, Cond.code objectInit ⟨#[0xb1]⟩ 1 none, Cond.classLink RX5 9 RX4, Cond.instantiable RX4 2, Cond.initialized RX4, Cond.fieldLink RX5 12 "IndentRules" "text" "LIndentRules$Text;", Cond.classLink RX5 16 RX2, Cond.instantiable RX2 14, Cond.initialized RX2, Cond.fieldLink RX5 19 "IndentRules" "nesting" "LIndentRules$Nesting;", Cond.classLink RX5 23 RX0, Cond.instantiable RX0 2, Cond.initialized RX0, Cond.fieldLink RX5 26 "IndentRules" "now" "LIndentRules$Layout;", Cond.fieldLink RX5 30 "IndentRules" "tried" "LIndentRules$Layout;", Cond.arrayClass .int, Cond.fieldLink RX5 33 "IndentRules" "guessed" "[I", Cond.classLink RX5 37 RX3, Cond.fieldLink RX5 39 "IndentRules" "pockets" "[LIndentRules$Pocket;", Cond.instantiable RX3 5, Cond.initialized RX3, Cond.methodLink RX5 11 yX4_init, Cond.instanceMethod yX4_init]
def wsX5_init_r2 : List Cond := [Cond.code yX4_init cX4_init 2 none, Cond.methodLink RX4 3 objectInit, Cond.classLink RX4 9 RX1, Cond.fieldLink RX4 11 "IndentRules$Text" "lines" "[LIndentRules$Line;", Cond.instantiable RX1 6, Cond.initialized RX1, Cond.instanceMethod yX1_init, Cond.code yX1_init cX1_init 1 none, Cond.methodLink RX1 3 objectInit, Cond.fieldLink RX1 9 "IndentRules$Line" "tokens" "[I", Cond.fieldLink RX1 15 "IndentRules$Line" "seen" "I", Cond.instanceMethod yX2_init, Cond.code yX2_init cX2_init 1 none, Cond.methodLink RX2 3 objectInit, Cond.fieldLink RX2 9 "IndentRules$Nesting" "tops" "[I", Cond.fieldLink RX2 15 "IndentRules$Nesting" "depths" "[I", Cond.fieldLink RX2 18 "IndentRules$Nesting" "lasts" "[I", Cond.fieldLink RX2 21 "IndentRules$Nesting" "strays" "[I", Cond.fieldLink RX2 24 "IndentRules$Nesting" "sortOf" "[I", Cond.fieldLink RX2 27 "IndentRules$Nesting" "lineOf" "[I", Cond.fieldLink RX2 30 "IndentRules$Nesting" "tokenOf" "[I", Cond.fieldLink RX2 33 "IndentRules$Nesting" "widthAheadOf" "[I", Cond.arrayClass .boolean, Cond.fieldLink RX2 36 "IndentRules$Nesting" "followed" "[Z"]
def wsX5_init_r3 : List Cond := [Cond.fieldLink RX2 40 "IndentRules$Nesting" "partnerLineOf" "[I", Cond.fieldLink RX2 43 "IndentRules$Nesting" "open" "[I", Cond.instanceMethod yX0_init, Cond.code yX0_init cX0_init 1 none, Cond.methodLink RX0 3 objectInit, Cond.fieldLink RX0 9 "IndentRules$Layout" "settings" "[I", Cond.fieldLink RX0 15 "IndentRules$Layout" "columns" "[I", Cond.methodLink RX5 43 yX0_choose, Cond.instanceMethod yX0_choose, Cond.selects RX0 yX0_choose yX0_choose, Cond.code yX0_choose cX0_choose 5 none, Cond.instanceMethod yX3_init, Cond.code yX3_init cX3_init 1 none, Cond.methodLink RX3 3 objectInit, Cond.fieldLink RX3 9 "IndentRules$Pocket" "lineIn" "[I", Cond.fieldLink RX3 15 "IndentRules$Pocket" "placeIn" "[I", Cond.fieldLink RX3 18 "IndentRules$Pocket" "kindIn" "[I"]
def wsX5_init : List Cond := .code yX5_init cX5_init 2 none :: ((wsX5_init_r1 ++ (wsX5_init_r2 ++ wsX5_init_r3)) ++ wsX40 ++ wsX50 ++ wsX20 ++ wsX00 ++ wsX30 ++ wsX10)
def wsX5_areTokens : List Cond := .code yX5_areTokens cX5_areTokens 3 (some .boolean) :: ([.constant RX5 210 (999999999)])
def wsX5_rememberColumns : List Cond := .code yX5_rememberColumns cX5_rememberColumns 2 none :: ([.fieldLink RX5 12 "IndentRules" "text" "LIndentRules$Text;", .fieldLink RX5 48 "IndentRules$Text" "size" "I", .fieldLink RX5 73 "IndentRules$Text" "lines" "[LIndentRules$Line;", .fieldLink RX5 26 "IndentRules" "now" "LIndentRules$Layout;", .fieldLink RX5 100 "IndentRules$Layout" "columns" "[I", .fieldLink RX5 220 "IndentRules$Line" "columnBefore" "I"] ++ wsX50 ++ wsX40 ++ wsX00 ++ wsX10)
def wsX5_readLines_r1 : List Cond := [Cond.fieldLink RX5 19 "IndentRules" "nesting" "LIndentRules$Nesting;", Cond.fieldLink RX5 12 "IndentRules" "text" "LIndentRules$Text;", Cond.fieldLink RX5 26 "IndentRules" "now" "LIndentRules$Layout;", Cond.methodLink RX5 217 yX2_read, Cond.instanceMethod yX2_read, Cond.selects RX2 yX2_read yX2_read, Cond.initialized RX2, Cond.code yX2_read cX2_read 3 none, Cond.fieldLink RX2 46 "IndentRules$Nesting" "openers" "I", Cond.fieldLink RX2 50 "IndentRules$Nesting" "height" "I", Cond.fieldLink RX2 53 "IndentRules$Nesting" "last" "I", Cond.fieldLink RX2 56 "IndentRules$Text" "size" "I", Cond.fieldLink RX2 9 "IndentRules$Nesting" "tops" "[I", Cond.fieldLink RX2 43 "IndentRules$Nesting" "open" "[I", Cond.fieldLink RX2 15 "IndentRules$Nesting" "depths" "[I", Cond.fieldLink RX2 18 "IndentRules$Nesting" "lasts" "[I", Cond.fieldLink RX2 21 "IndentRules$Nesting" "strays" "[I", Cond.fieldLink RX2 61 "IndentRules$Text" "lines" "[LIndentRules$Line;", Cond.methodLink RX2 65 yX2_readLine, Cond.instanceMethod yX2_readLine, Cond.selects RX2 yX2_readLine yX2_readLine, Cond.code yX2_readLine cX2_readLine 5 none, Cond.fieldLink RX2 69 "IndentRules$Line" "present" "I", Cond.fieldLink RX2 74 "IndentRules$Line" "tokens" "[I"]
def wsX5_readLines_r2 : List Cond := [Cond.methodLink RX2 77 yX2_openOne, Cond.instanceMethod yX2_openOne, Cond.selects RX2 yX2_openOne yX2_openOne, Cond.code yX2_openOne cX2_openOne 4 none, Cond.fieldLink RX2 24 "IndentRules$Nesting" "sortOf" "[I", Cond.fieldLink RX2 27 "IndentRules$Nesting" "lineOf" "[I", Cond.fieldLink RX2 30 "IndentRules$Nesting" "tokenOf" "[I", Cond.fieldLink RX2 33 "IndentRules$Nesting" "widthAheadOf" "[I", Cond.fieldLink RX2 36 "IndentRules$Nesting" "followed" "[Z", Cond.fieldLink RX2 40 "IndentRules$Nesting" "partnerLineOf" "[I", Cond.methodLink RX2 85 yX1_widthAhead, Cond.instanceMethod yX1_widthAhead, Cond.selects RX1 yX1_widthAhead yX1_widthAhead, Cond.initialized RX1, Cond.code yX1_widthAhead cX1_widthAhead 4 (some .int), Cond.fieldLink RX1 26 "IndentRules$Line" "count" "I", Cond.fieldLink RX1 9 "IndentRules$Line" "tokens" "[I", Cond.methodLink RX2 89 yX1_isFollowed, Cond.instanceMethod yX1_isFollowed, Cond.selects RX1 yX1_isFollowed yX1_isFollowed, Cond.code yX1_isFollowed cX1_isFollowed 3 (some .boolean), Cond.fieldLink RX1 29 "IndentRules$Line" "present" "I", Cond.methodLink RX2 81 yX2_closeOne, Cond.instanceMethod yX2_closeOne]
def wsX5_readLines_r3 : List Cond := [Cond.selects RX2 yX2_closeOne yX2_closeOne, Cond.code yX2_closeOne cX2_closeOne 3 none, Cond.methodLink RX5 93 yX0_lay, Cond.instanceMethod yX0_lay, Cond.selects RX0 yX0_lay yX0_lay, Cond.initialized RX0, Cond.code yX0_lay cX0_lay 5 none, Cond.fieldLink RX0 18 "IndentRules$Text" "size" "I", Cond.fieldLink RX0 24 "IndentRules$Text" "lines" "[LIndentRules$Line;", Cond.fieldLink RX0 15 "IndentRules$Layout" "columns" "[I", Cond.fieldLink RX0 28 "IndentRules$Line" "count" "I", Cond.fieldLink RX0 33 "IndentRules$Line" "tokens" "[I", Cond.methodLink RX0 36 yX0_columnBehind, Cond.instanceMethod yX0_columnBehind, Cond.selects RX0 yX0_columnBehind yX0_columnBehind, Cond.code yX0_columnBehind cX0_columnBehind 6 (some .int), Cond.fieldLink RX0 40 "IndentRules$Nesting" "tops" "[I", Cond.fieldLink RX0 45 "IndentRules$Nesting" "lasts" "[I", Cond.fieldLink RX0 52 "IndentRules$Nesting" "sortOf" "[I", Cond.fieldLink RX0 9 "IndentRules$Layout" "settings" "[I", Cond.methodLink RX0 48 yX0_goingOn, Cond.instanceMethod yX0_goingOn, Cond.selects RX0 yX0_goingOn yX0_goingOn, Cond.code yX0_goingOn cX0_goingOn 3 (some .int)]
def wsX5_readLines_r4 : List Cond := [Cond.methodLink RX0 55 yX0_columnInBracket, Cond.instanceMethod yX0_columnInBracket, Cond.selects RX0 yX0_columnInBracket yX0_columnInBracket, Cond.code yX0_columnInBracket cX0_columnInBracket 6 (some .int), Cond.methodLink RX0 62 yX0_isAligned, Cond.instanceMethod yX0_isAligned, Cond.selects RX0 yX0_isAligned yX0_isAligned, Cond.code yX0_isAligned cX0_isAligned 3 (some .boolean), Cond.fieldLink RX0 69 "IndentRules$Nesting" "followed" "[Z", Cond.methodLink RX0 66 yX0_placeOf, Cond.instanceMethod yX0_placeOf, Cond.selects RX0 yX0_placeOf yX0_placeOf, Cond.code yX0_placeOf cX0_placeOf 3 (some .int), Cond.fieldLink RX0 73 "IndentRules$Nesting" "lineOf" "[I", Cond.fieldLink RX0 76 "IndentRules$Nesting" "widthAheadOf" "[I", Cond.methodLink RX0 58 yX0_baseOf, Cond.instanceMethod yX0_baseOf, Cond.selects RX0 yX0_baseOf yX0_baseOf, Cond.code yX0_baseOf cX0_baseOf 3 (some .int)]
def wsX5_readLines : List Cond := .code yX5_readLines cX5_readLines 1 none :: ((wsX5_readLines_r1 ++ (wsX5_readLines_r2 ++ (wsX5_readLines_r3 ++ wsX5_readLines_r4))) ++ wsX50 ++ wsX20 ++ wsX40 ++ wsX10 ++ wsX00)
def wsX5_movedBut : List Cond := .code yX5_movedBut cX5_movedBut 4 (some .int) :: ([.fieldLink RX5 12 "IndentRules" "text" "LIndentRules$Text;", .fieldLink RX5 48 "IndentRules$Text" "size" "I", .fieldLink RX5 73 "IndentRules$Text" "lines" "[LIndentRules$Line;", .fieldLink RX5 220 "IndentRules$Line" "columnBefore" "I", .fieldLink RX5 26 "IndentRules" "now" "LIndentRules$Layout;", .fieldLink RX5 100 "IndentRules$Layout" "columns" "[I"] ++ wsX50 ++ wsX40 ++ wsX10 ++ wsX00)
def wsX5_put_r1 : List Cond := [Cond.fieldLink RX5 12 "IndentRules" "text" "LIndentRules$Text;", Cond.fieldLink RX5 48 "IndentRules$Text" "size" "I", Cond.methodLink RX5 52 yX5_areTokens, Cond.static yX5_areTokens, Cond.initialized RX5, Cond.code yX5_areTokens cX5_areTokens 3 (some .boolean), Cond.constant RX5 210 (999999999), Cond.methodLink RX5 56 yX5_rememberColumns, Cond.instanceMethod yX5_rememberColumns, Cond.selects RX5 yX5_rememberColumns yX5_rememberColumns, Cond.code yX5_rememberColumns cX5_rememberColumns 2 none, Cond.fieldLink RX5 73 "IndentRules$Text" "lines" "[LIndentRules$Line;", Cond.fieldLink RX5 26 "IndentRules" "now" "LIndentRules$Layout;", Cond.fieldLink RX5 100 "IndentRules$Layout" "columns" "[I", Cond.fieldLink RX5 220 "IndentRules$Line" "columnBefore" "I", Cond.methodLink RX5 59 yX4_insert, Cond.instanceMethod yX4_insert, Cond.selects RX4 yX4_insert yX4_insert, Cond.initialized RX4, Cond.code yX4_insert cX4_insert 5 none, Cond.fieldLink RX4 18 "IndentRules$Text" "size" "I", Cond.fieldLink RX4 11 "IndentRules$Text" "lines" "[LIndentRules$Line;", Cond.fieldLink RX4 26 "IndentRules$Line" "seen" "I", Cond.methodLink RX4 22 yX1_read]
def wsX5_put_r2 : List Cond := [Cond.instanceMethod yX1_read, Cond.selects RX1 yX1_read yX1_read, Cond.initialized RX1, Cond.code yX1_read cX1_read 4 none, Cond.fieldLink RX1 19 "IndentRules$Line" "told" "I", Cond.fieldLink RX1 26 "IndentRules$Line" "count" "I", Cond.fieldLink RX1 9 "IndentRules$Line" "tokens" "[I", Cond.fieldLink RX1 29 "IndentRules$Line" "present" "I", Cond.methodLink RX1 22 yX1_digitsOf, Cond.static yX1_digitsOf, Cond.code yX1_digitsOf cX1_digitsOf 4 (some .int), Cond.methodLink RX5 63 yX5_readLines, Cond.instanceMethod yX5_readLines, Cond.selects RX5 yX5_readLines yX5_readLines, Cond.code yX5_readLines cX5_readLines 1 none, Cond.fieldLink RX5 19 "IndentRules" "nesting" "LIndentRules$Nesting;", Cond.methodLink RX5 217 yX2_read, Cond.instanceMethod yX2_read, Cond.selects RX2 yX2_read yX2_read, Cond.initialized RX2, Cond.code yX2_read cX2_read 3 none, Cond.fieldLink RX2 46 "IndentRules$Nesting" "openers" "I", Cond.fieldLink RX2 50 "IndentRules$Nesting" "height" "I", Cond.fieldLink RX2 53 "IndentRules$Nesting" "last" "I"]
def wsX5_put_r3 : List Cond := [Cond.fieldLink RX2 56 "IndentRules$Text" "size" "I", Cond.fieldLink RX2 9 "IndentRules$Nesting" "tops" "[I", Cond.fieldLink RX2 43 "IndentRules$Nesting" "open" "[I", Cond.fieldLink RX2 15 "IndentRules$Nesting" "depths" "[I", Cond.fieldLink RX2 18 "IndentRules$Nesting" "lasts" "[I", Cond.fieldLink RX2 21 "IndentRules$Nesting" "strays" "[I", Cond.fieldLink RX2 61 "IndentRules$Text" "lines" "[LIndentRules$Line;", Cond.methodLink RX2 65 yX2_readLine, Cond.instanceMethod yX2_readLine, Cond.selects RX2 yX2_readLine yX2_readLine, Cond.code yX2_readLine cX2_readLine 5 none, Cond.fieldLink RX2 69 "IndentRules$Line" "present" "I", Cond.fieldLink RX2 74 "IndentRules$Line" "tokens" "[I", Cond.methodLink RX2 77 yX2_openOne, Cond.instanceMethod yX2_openOne, Cond.selects RX2 yX2_openOne yX2_openOne, Cond.code yX2_openOne cX2_openOne 4 none, Cond.fieldLink RX2 24 "IndentRules$Nesting" "sortOf" "[I", Cond.fieldLink RX2 27 "IndentRules$Nesting" "lineOf" "[I", Cond.fieldLink RX2 30 "IndentRules$Nesting" "tokenOf" "[I", Cond.fieldLink RX2 33 "IndentRules$Nesting" "widthAheadOf" "[I", Cond.fieldLink RX2 36 "IndentRules$Nesting" "followed" "[Z", Cond.fieldLink RX2 40 "IndentRules$Nesting" "partnerLineOf" "[I", Cond.methodLink RX2 85 yX1_widthAhead]
def wsX5_put_r4 : List Cond := [Cond.instanceMethod yX1_widthAhead, Cond.selects RX1 yX1_widthAhead yX1_widthAhead, Cond.code yX1_widthAhead cX1_widthAhead 4 (some .int), Cond.methodLink RX2 89 yX1_isFollowed, Cond.instanceMethod yX1_isFollowed, Cond.selects RX1 yX1_isFollowed yX1_isFollowed, Cond.code yX1_isFollowed cX1_isFollowed 3 (some .boolean), Cond.methodLink RX2 81 yX2_closeOne, Cond.instanceMethod yX2_closeOne, Cond.selects RX2 yX2_closeOne yX2_closeOne, Cond.code yX2_closeOne cX2_closeOne 3 none, Cond.methodLink RX5 93 yX0_lay, Cond.instanceMethod yX0_lay, Cond.selects RX0 yX0_lay yX0_lay, Cond.initialized RX0, Cond.code yX0_lay cX0_lay 5 none, Cond.fieldLink RX0 18 "IndentRules$Text" "size" "I", Cond.fieldLink RX0 24 "IndentRules$Text" "lines" "[LIndentRules$Line;", Cond.fieldLink RX0 15 "IndentRules$Layout" "columns" "[I", Cond.fieldLink RX0 28 "IndentRules$Line" "count" "I", Cond.fieldLink RX0 33 "IndentRules$Line" "tokens" "[I", Cond.methodLink RX0 36 yX0_columnBehind, Cond.instanceMethod yX0_columnBehind, Cond.selects RX0 yX0_columnBehind yX0_columnBehind]
def wsX5_put_r5 : List Cond := [Cond.code yX0_columnBehind cX0_columnBehind 6 (some .int), Cond.fieldLink RX0 40 "IndentRules$Nesting" "tops" "[I", Cond.fieldLink RX0 45 "IndentRules$Nesting" "lasts" "[I", Cond.fieldLink RX0 52 "IndentRules$Nesting" "sortOf" "[I", Cond.fieldLink RX0 9 "IndentRules$Layout" "settings" "[I", Cond.methodLink RX0 48 yX0_goingOn, Cond.instanceMethod yX0_goingOn, Cond.selects RX0 yX0_goingOn yX0_goingOn, Cond.code yX0_goingOn cX0_goingOn 3 (some .int), Cond.methodLink RX0 55 yX0_columnInBracket, Cond.instanceMethod yX0_columnInBracket, Cond.selects RX0 yX0_columnInBracket yX0_columnInBracket, Cond.code yX0_columnInBracket cX0_columnInBracket 6 (some .int), Cond.methodLink RX0 62 yX0_isAligned, Cond.instanceMethod yX0_isAligned, Cond.selects RX0 yX0_isAligned yX0_isAligned, Cond.code yX0_isAligned cX0_isAligned 3 (some .boolean), Cond.fieldLink RX0 69 "IndentRules$Nesting" "followed" "[Z", Cond.methodLink RX0 66 yX0_placeOf, Cond.instanceMethod yX0_placeOf, Cond.selects RX0 yX0_placeOf yX0_placeOf, Cond.code yX0_placeOf cX0_placeOf 3 (some .int), Cond.fieldLink RX0 73 "IndentRules$Nesting" "lineOf" "[I", Cond.fieldLink RX0 76 "IndentRules$Nesting" "widthAheadOf" "[I"]
def wsX5_put_r6 : List Cond := [Cond.methodLink RX0 58 yX0_baseOf, Cond.instanceMethod yX0_baseOf, Cond.selects RX0 yX0_baseOf yX0_baseOf, Cond.code yX0_baseOf cX0_baseOf 3 (some .int), Cond.methodLink RX5 66 yX5_movedBut, Cond.instanceMethod yX5_movedBut, Cond.selects RX5 yX5_movedBut yX5_movedBut, Cond.code yX5_movedBut cX5_movedBut 4 (some .int)]
def wsX5_put : List Cond := .code yX5_put cX5_put 3 (some .int) :: ((wsX5_put_r1 ++ (wsX5_put_r2 ++ (wsX5_put_r3 ++ (wsX5_put_r4 ++ (wsX5_put_r5 ++ wsX5_put_r6))))) ++ wsX50 ++ wsX40 ++ wsX00 ++ wsX10 ++ wsX20)
def wsX5_isLine : List Cond := .code yX5_isLine cX5_isLine 2 (some .boolean) :: ([.fieldLink RX5 12 "IndentRules" "text" "LIndentRules$Text;", .fieldLink RX5 48 "IndentRules$Text" "size" "I"] ++ wsX50 ++ wsX40)
def wsX5_change_r1 : List Cond := [Cond.fieldLink RX5 12 "IndentRules" "text" "LIndentRules$Text;", Cond.fieldLink RX5 73 "IndentRules$Text" "lines" "[LIndentRules$Line;", Cond.methodLink RX5 70 yX5_isLine, Cond.instanceMethod yX5_isLine, Cond.selects RX5 yX5_isLine yX5_isLine, Cond.initialized RX5, Cond.code yX5_isLine cX5_isLine 2 (some .boolean), Cond.fieldLink RX5 48 "IndentRules$Text" "size" "I", Cond.methodLink RX5 52 yX5_areTokens, Cond.static yX5_areTokens, Cond.code yX5_areTokens cX5_areTokens 3 (some .boolean), Cond.constant RX5 210 (999999999), Cond.methodLink RX5 56 yX5_rememberColumns, Cond.instanceMethod yX5_rememberColumns, Cond.selects RX5 yX5_rememberColumns yX5_rememberColumns, Cond.code yX5_rememberColumns cX5_rememberColumns 2 none, Cond.fieldLink RX5 26 "IndentRules" "now" "LIndentRules$Layout;", Cond.fieldLink RX5 100 "IndentRules$Layout" "columns" "[I", Cond.fieldLink RX5 220 "IndentRules$Line" "columnBefore" "I", Cond.methodLink RX5 77 yX1_read, Cond.instanceMethod yX1_read, Cond.selects RX1 yX1_read yX1_read, Cond.initialized RX1, Cond.code yX1_read cX1_read 4 none]
def wsX5_change_r2 : List Cond := [Cond.fieldLink RX1 19 "IndentRules$Line" "told" "I", Cond.fieldLink RX1 26 "IndentRules$Line" "count" "I", Cond.fieldLink RX1 9 "IndentRules$Line" "tokens" "[I", Cond.fieldLink RX1 29 "IndentRules$Line" "present" "I", Cond.methodLink RX1 22 yX1_digitsOf, Cond.static yX1_digitsOf, Cond.code yX1_digitsOf cX1_digitsOf 4 (some .int), Cond.methodLink RX5 63 yX5_readLines, Cond.instanceMethod yX5_readLines, Cond.selects RX5 yX5_readLines yX5_readLines, Cond.code yX5_readLines cX5_readLines 1 none, Cond.fieldLink RX5 19 "IndentRules" "nesting" "LIndentRules$Nesting;", Cond.methodLink RX5 217 yX2_read, Cond.instanceMethod yX2_read, Cond.selects RX2 yX2_read yX2_read, Cond.initialized RX2, Cond.code yX2_read cX2_read 3 none, Cond.fieldLink RX2 46 "IndentRules$Nesting" "openers" "I", Cond.fieldLink RX2 50 "IndentRules$Nesting" "height" "I", Cond.fieldLink RX2 53 "IndentRules$Nesting" "last" "I", Cond.fieldLink RX2 56 "IndentRules$Text" "size" "I", Cond.fieldLink RX2 9 "IndentRules$Nesting" "tops" "[I", Cond.fieldLink RX2 43 "IndentRules$Nesting" "open" "[I", Cond.fieldLink RX2 15 "IndentRules$Nesting" "depths" "[I"]
def wsX5_change_r3 : List Cond := [Cond.fieldLink RX2 18 "IndentRules$Nesting" "lasts" "[I", Cond.fieldLink RX2 21 "IndentRules$Nesting" "strays" "[I", Cond.fieldLink RX2 61 "IndentRules$Text" "lines" "[LIndentRules$Line;", Cond.methodLink RX2 65 yX2_readLine, Cond.instanceMethod yX2_readLine, Cond.selects RX2 yX2_readLine yX2_readLine, Cond.code yX2_readLine cX2_readLine 5 none, Cond.fieldLink RX2 69 "IndentRules$Line" "present" "I", Cond.fieldLink RX2 74 "IndentRules$Line" "tokens" "[I", Cond.methodLink RX2 77 yX2_openOne, Cond.instanceMethod yX2_openOne, Cond.selects RX2 yX2_openOne yX2_openOne, Cond.code yX2_openOne cX2_openOne 4 none, Cond.fieldLink RX2 24 "IndentRules$Nesting" "sortOf" "[I", Cond.fieldLink RX2 27 "IndentRules$Nesting" "lineOf" "[I", Cond.fieldLink RX2 30 "IndentRules$Nesting" "tokenOf" "[I", Cond.fieldLink RX2 33 "IndentRules$Nesting" "widthAheadOf" "[I", Cond.fieldLink RX2 36 "IndentRules$Nesting" "followed" "[Z", Cond.fieldLink RX2 40 "IndentRules$Nesting" "partnerLineOf" "[I", Cond.methodLink RX2 85 yX1_widthAhead, Cond.instanceMethod yX1_widthAhead, Cond.selects RX1 yX1_widthAhead yX1_widthAhead, Cond.code yX1_widthAhead cX1_widthAhead 4 (some .int), Cond.methodLink RX2 89 yX1_isFollowed]
def wsX5_change_r4 : List Cond := [Cond.instanceMethod yX1_isFollowed, Cond.selects RX1 yX1_isFollowed yX1_isFollowed, Cond.code yX1_isFollowed cX1_isFollowed 3 (some .boolean), Cond.methodLink RX2 81 yX2_closeOne, Cond.instanceMethod yX2_closeOne, Cond.selects RX2 yX2_closeOne yX2_closeOne, Cond.code yX2_closeOne cX2_closeOne 3 none, Cond.methodLink RX5 93 yX0_lay, Cond.instanceMethod yX0_lay, Cond.selects RX0 yX0_lay yX0_lay, Cond.initialized RX0, Cond.code yX0_lay cX0_lay 5 none, Cond.fieldLink RX0 18 "IndentRules$Text" "size" "I", Cond.fieldLink RX0 24 "IndentRules$Text" "lines" "[LIndentRules$Line;", Cond.fieldLink RX0 15 "IndentRules$Layout" "columns" "[I", Cond.fieldLink RX0 28 "IndentRules$Line" "count" "I", Cond.fieldLink RX0 33 "IndentRules$Line" "tokens" "[I", Cond.methodLink RX0 36 yX0_columnBehind, Cond.instanceMethod yX0_columnBehind, Cond.selects RX0 yX0_columnBehind yX0_columnBehind, Cond.code yX0_columnBehind cX0_columnBehind 6 (some .int), Cond.fieldLink RX0 40 "IndentRules$Nesting" "tops" "[I", Cond.fieldLink RX0 45 "IndentRules$Nesting" "lasts" "[I", Cond.fieldLink RX0 52 "IndentRules$Nesting" "sortOf" "[I"]
def wsX5_change_r5 : List Cond := [Cond.fieldLink RX0 9 "IndentRules$Layout" "settings" "[I", Cond.methodLink RX0 48 yX0_goingOn, Cond.instanceMethod yX0_goingOn, Cond.selects RX0 yX0_goingOn yX0_goingOn, Cond.code yX0_goingOn cX0_goingOn 3 (some .int), Cond.methodLink RX0 55 yX0_columnInBracket, Cond.instanceMethod yX0_columnInBracket, Cond.selects RX0 yX0_columnInBracket yX0_columnInBracket, Cond.code yX0_columnInBracket cX0_columnInBracket 6 (some .int), Cond.methodLink RX0 62 yX0_isAligned, Cond.instanceMethod yX0_isAligned, Cond.selects RX0 yX0_isAligned yX0_isAligned, Cond.code yX0_isAligned cX0_isAligned 3 (some .boolean), Cond.fieldLink RX0 69 "IndentRules$Nesting" "followed" "[Z", Cond.methodLink RX0 66 yX0_placeOf, Cond.instanceMethod yX0_placeOf, Cond.selects RX0 yX0_placeOf yX0_placeOf, Cond.code yX0_placeOf cX0_placeOf 3 (some .int), Cond.fieldLink RX0 73 "IndentRules$Nesting" "lineOf" "[I", Cond.fieldLink RX0 76 "IndentRules$Nesting" "widthAheadOf" "[I", Cond.methodLink RX0 58 yX0_baseOf, Cond.instanceMethod yX0_baseOf, Cond.selects RX0 yX0_baseOf yX0_baseOf, Cond.code yX0_baseOf cX0_baseOf 3 (some .int)]
def wsX5_change_r6 : List Cond := [Cond.methodLink RX5 66 yX5_movedBut, Cond.instanceMethod yX5_movedBut, Cond.selects RX5 yX5_movedBut yX5_movedBut, Cond.code yX5_movedBut cX5_movedBut 4 (some .int)]
def wsX5_change : List Cond := .code yX5_change cX5_change 3 (some .int) :: ((wsX5_change_r1 ++ (wsX5_change_r2 ++ (wsX5_change_r3 ++ (wsX5_change_r4 ++ (wsX5_change_r5 ++ wsX5_change_r6))))) ++ wsX50 ++ wsX40 ++ wsX00 ++ wsX10 ++ wsX20)
def wsX5_take_r1 : List Cond := [Cond.fieldLink RX5 12 "IndentRules" "text" "LIndentRules$Text;", Cond.methodLink RX5 70 yX5_isLine, Cond.instanceMethod yX5_isLine, Cond.selects RX5 yX5_isLine yX5_isLine, Cond.initialized RX5, Cond.code yX5_isLine cX5_isLine 2 (some .boolean), Cond.fieldLink RX5 48 "IndentRules$Text" "size" "I", Cond.methodLink RX5 56 yX5_rememberColumns, Cond.instanceMethod yX5_rememberColumns, Cond.selects RX5 yX5_rememberColumns yX5_rememberColumns, Cond.code yX5_rememberColumns cX5_rememberColumns 2 none, Cond.fieldLink RX5 73 "IndentRules$Text" "lines" "[LIndentRules$Line;", Cond.fieldLink RX5 26 "IndentRules" "now" "LIndentRules$Layout;", Cond.fieldLink RX5 100 "IndentRules$Layout" "columns" "[I", Cond.fieldLink RX5 220 "IndentRules$Line" "columnBefore" "I", Cond.methodLink RX5 83 yX4_remove, Cond.instanceMethod yX4_remove, Cond.selects RX4 yX4_remove yX4_remove, Cond.initialized RX4, Cond.code yX4_remove cX4_remove 4 none, Cond.fieldLink RX4 18 "IndentRules$Text" "size" "I", Cond.fieldLink RX4 11 "IndentRules$Text" "lines" "[LIndentRules$Line;", Cond.methodLink RX5 63 yX5_readLines, Cond.instanceMethod yX5_readLines]
def wsX5_take_r2 : List Cond := [Cond.selects RX5 yX5_readLines yX5_readLines, Cond.code yX5_readLines cX5_readLines 1 none, Cond.fieldLink RX5 19 "IndentRules" "nesting" "LIndentRules$Nesting;", Cond.methodLink RX5 217 yX2_read, Cond.instanceMethod yX2_read, Cond.selects RX2 yX2_read yX2_read, Cond.initialized RX2, Cond.code yX2_read cX2_read 3 none, Cond.fieldLink RX2 46 "IndentRules$Nesting" "openers" "I", Cond.fieldLink RX2 50 "IndentRules$Nesting" "height" "I", Cond.fieldLink RX2 53 "IndentRules$Nesting" "last" "I", Cond.fieldLink RX2 56 "IndentRules$Text" "size" "I", Cond.fieldLink RX2 9 "IndentRules$Nesting" "tops" "[I", Cond.fieldLink RX2 43 "IndentRules$Nesting" "open" "[I", Cond.fieldLink RX2 15 "IndentRules$Nesting" "depths" "[I", Cond.fieldLink RX2 18 "IndentRules$Nesting" "lasts" "[I", Cond.fieldLink RX2 21 "IndentRules$Nesting" "strays" "[I", Cond.fieldLink RX2 61 "IndentRules$Text" "lines" "[LIndentRules$Line;", Cond.methodLink RX2 65 yX2_readLine, Cond.instanceMethod yX2_readLine, Cond.selects RX2 yX2_readLine yX2_readLine, Cond.code yX2_readLine cX2_readLine 5 none, Cond.fieldLink RX2 69 "IndentRules$Line" "present" "I", Cond.fieldLink RX2 74 "IndentRules$Line" "tokens" "[I"]
def wsX5_take_r3 : List Cond := [Cond.methodLink RX2 77 yX2_openOne, Cond.instanceMethod yX2_openOne, Cond.selects RX2 yX2_openOne yX2_openOne, Cond.code yX2_openOne cX2_openOne 4 none, Cond.fieldLink RX2 24 "IndentRules$Nesting" "sortOf" "[I", Cond.fieldLink RX2 27 "IndentRules$Nesting" "lineOf" "[I", Cond.fieldLink RX2 30 "IndentRules$Nesting" "tokenOf" "[I", Cond.fieldLink RX2 33 "IndentRules$Nesting" "widthAheadOf" "[I", Cond.fieldLink RX2 36 "IndentRules$Nesting" "followed" "[Z", Cond.fieldLink RX2 40 "IndentRules$Nesting" "partnerLineOf" "[I", Cond.methodLink RX2 85 yX1_widthAhead, Cond.instanceMethod yX1_widthAhead, Cond.selects RX1 yX1_widthAhead yX1_widthAhead, Cond.initialized RX1, Cond.code yX1_widthAhead cX1_widthAhead 4 (some .int), Cond.fieldLink RX1 26 "IndentRules$Line" "count" "I", Cond.fieldLink RX1 9 "IndentRules$Line" "tokens" "[I", Cond.methodLink RX2 89 yX1_isFollowed, Cond.instanceMethod yX1_isFollowed, Cond.selects RX1 yX1_isFollowed yX1_isFollowed, Cond.code yX1_isFollowed cX1_isFollowed 3 (some .boolean), Cond.fieldLink RX1 29 "IndentRules$Line" "present" "I", Cond.methodLink RX2 81 yX2_closeOne, Cond.instanceMethod yX2_closeOne]
def wsX5_take_r4 : List Cond := [Cond.selects RX2 yX2_closeOne yX2_closeOne, Cond.code yX2_closeOne cX2_closeOne 3 none, Cond.methodLink RX5 93 yX0_lay, Cond.instanceMethod yX0_lay, Cond.selects RX0 yX0_lay yX0_lay, Cond.initialized RX0, Cond.code yX0_lay cX0_lay 5 none, Cond.fieldLink RX0 18 "IndentRules$Text" "size" "I", Cond.fieldLink RX0 24 "IndentRules$Text" "lines" "[LIndentRules$Line;", Cond.fieldLink RX0 15 "IndentRules$Layout" "columns" "[I", Cond.fieldLink RX0 28 "IndentRules$Line" "count" "I", Cond.fieldLink RX0 33 "IndentRules$Line" "tokens" "[I", Cond.methodLink RX0 36 yX0_columnBehind, Cond.instanceMethod yX0_columnBehind, Cond.selects RX0 yX0_columnBehind yX0_columnBehind, Cond.code yX0_columnBehind cX0_columnBehind 6 (some .int), Cond.fieldLink RX0 40 "IndentRules$Nesting" "tops" "[I", Cond.fieldLink RX0 45 "IndentRules$Nesting" "lasts" "[I", Cond.fieldLink RX0 52 "IndentRules$Nesting" "sortOf" "[I", Cond.fieldLink RX0 9 "IndentRules$Layout" "settings" "[I", Cond.methodLink RX0 48 yX0_goingOn, Cond.instanceMethod yX0_goingOn, Cond.selects RX0 yX0_goingOn yX0_goingOn, Cond.code yX0_goingOn cX0_goingOn 3 (some .int)]
def wsX5_take_r5 : List Cond := [Cond.methodLink RX0 55 yX0_columnInBracket, Cond.instanceMethod yX0_columnInBracket, Cond.selects RX0 yX0_columnInBracket yX0_columnInBracket, Cond.code yX0_columnInBracket cX0_columnInBracket 6 (some .int), Cond.methodLink RX0 62 yX0_isAligned, Cond.instanceMethod yX0_isAligned, Cond.selects RX0 yX0_isAligned yX0_isAligned, Cond.code yX0_isAligned cX0_isAligned 3 (some .boolean), Cond.fieldLink RX0 69 "IndentRules$Nesting" "followed" "[Z", Cond.methodLink RX0 66 yX0_placeOf, Cond.instanceMethod yX0_placeOf, Cond.selects RX0 yX0_placeOf yX0_placeOf, Cond.code yX0_placeOf cX0_placeOf 3 (some .int), Cond.fieldLink RX0 73 "IndentRules$Nesting" "lineOf" "[I", Cond.fieldLink RX0 76 "IndentRules$Nesting" "widthAheadOf" "[I", Cond.methodLink RX0 58 yX0_baseOf, Cond.instanceMethod yX0_baseOf, Cond.selects RX0 yX0_baseOf yX0_baseOf, Cond.code yX0_baseOf cX0_baseOf 3 (some .int), Cond.methodLink RX5 66 yX5_movedBut, Cond.instanceMethod yX5_movedBut, Cond.selects RX5 yX5_movedBut yX5_movedBut, Cond.code yX5_movedBut cX5_movedBut 4 (some .int)]
def wsX5_take : List Cond := .code yX5_take cX5_take 2 (some .int) :: ((wsX5_take_r1 ++ (wsX5_take_r2 ++ (wsX5_take_r3 ++ (wsX5_take_r4 ++ wsX5_take_r5)))) ++ wsX50 ++ wsX40 ++ wsX00 ++ wsX10 ++ wsX20)
def wsX5_isSetting : List Cond := .code yX5_isSetting cX5_isSetting 2 (some .boolean) :: ([.fieldLink RX5 211 "IndentRules" "LEAST" "[I", .fieldLink RX5 214 "IndentRules" "MOST" "[I"])
def wsX5_style_r1 : List Cond := [Cond.fieldLink RX5 26 "IndentRules" "now" "LIndentRules$Layout;", Cond.fieldLink RX5 90 "IndentRules$Layout" "settings" "[I", Cond.fieldLink RX5 12 "IndentRules" "text" "LIndentRules$Text;", Cond.fieldLink RX5 19 "IndentRules" "nesting" "LIndentRules$Nesting;", Cond.methodLink RX5 86 yX5_isSetting, Cond.static yX5_isSetting, Cond.initialized RX5, Cond.code yX5_isSetting cX5_isSetting 2 (some .boolean), Cond.fieldLink RX5 211 "IndentRules" "LEAST" "[I", Cond.fieldLink RX5 214 "IndentRules" "MOST" "[I", Cond.methodLink RX5 93 yX0_lay, Cond.instanceMethod yX0_lay, Cond.selects RX0 yX0_lay yX0_lay, Cond.initialized RX0, Cond.code yX0_lay cX0_lay 5 none, Cond.fieldLink RX0 18 "IndentRules$Text" "size" "I", Cond.fieldLink RX0 24 "IndentRules$Text" "lines" "[LIndentRules$Line;", Cond.fieldLink RX0 15 "IndentRules$Layout" "columns" "[I", Cond.fieldLink RX0 28 "IndentRules$Line" "count" "I", Cond.fieldLink RX0 33 "IndentRules$Line" "tokens" "[I", Cond.methodLink RX0 36 yX0_columnBehind, Cond.instanceMethod yX0_columnBehind, Cond.selects RX0 yX0_columnBehind yX0_columnBehind, Cond.code yX0_columnBehind cX0_columnBehind 6 (some .int)]
def wsX5_style_r2 : List Cond := [Cond.fieldLink RX0 40 "IndentRules$Nesting" "tops" "[I", Cond.fieldLink RX0 45 "IndentRules$Nesting" "lasts" "[I", Cond.fieldLink RX0 52 "IndentRules$Nesting" "sortOf" "[I", Cond.fieldLink RX0 9 "IndentRules$Layout" "settings" "[I", Cond.methodLink RX0 48 yX0_goingOn, Cond.instanceMethod yX0_goingOn, Cond.selects RX0 yX0_goingOn yX0_goingOn, Cond.code yX0_goingOn cX0_goingOn 3 (some .int), Cond.methodLink RX0 55 yX0_columnInBracket, Cond.instanceMethod yX0_columnInBracket, Cond.selects RX0 yX0_columnInBracket yX0_columnInBracket, Cond.code yX0_columnInBracket cX0_columnInBracket 6 (some .int), Cond.methodLink RX0 62 yX0_isAligned, Cond.instanceMethod yX0_isAligned, Cond.selects RX0 yX0_isAligned yX0_isAligned, Cond.code yX0_isAligned cX0_isAligned 3 (some .boolean), Cond.fieldLink RX0 69 "IndentRules$Nesting" "followed" "[Z", Cond.methodLink RX0 66 yX0_placeOf, Cond.instanceMethod yX0_placeOf, Cond.selects RX0 yX0_placeOf yX0_placeOf, Cond.code yX0_placeOf cX0_placeOf 3 (some .int), Cond.fieldLink RX0 73 "IndentRules$Nesting" "lineOf" "[I", Cond.fieldLink RX0 76 "IndentRules$Nesting" "widthAheadOf" "[I", Cond.methodLink RX0 58 yX0_baseOf]
def wsX5_style_r3 : List Cond := [Cond.instanceMethod yX0_baseOf, Cond.selects RX0 yX0_baseOf yX0_baseOf, Cond.code yX0_baseOf cX0_baseOf 3 (some .int)]
def wsX5_style : List Cond := .code yX5_style cX5_style 4 (some .int) :: ((wsX5_style_r1 ++ (wsX5_style_r2 ++ wsX5_style_r3)) ++ wsX50 ++ wsX00 ++ wsX40 ++ wsX10 ++ wsX20)
def wsX5_ofLine : List Cond := .code yX5_ofLine cX5_ofLine 4 (some .int) :: ([.fieldLink RX5 12 "IndentRules" "text" "LIndentRules$Text;", .fieldLink RX5 73 "IndentRules$Text" "lines" "[LIndentRules$Line;", .fieldLink RX5 97 "IndentRules$Line" "told" "I", .fieldLink RX5 26 "IndentRules" "now" "LIndentRules$Layout;", .fieldLink RX5 100 "IndentRules$Layout" "columns" "[I", .fieldLink RX5 103 "IndentRules$Line" "count" "I", .fieldLink RX5 19 "IndentRules" "nesting" "LIndentRules$Nesting;", .fieldLink RX5 109 "IndentRules$Nesting" "depths" "[I", .fieldLink RX5 112 "IndentRules$Nesting" "strays" "[I", .fieldLink RX5 115 "IndentRules$Line" "seen" "I", .methodLink RX5 70 yX5_isLine, .instanceMethod yX5_isLine, .selects RX5 yX5_isLine yX5_isLine, .initialized RX5, .code yX5_isLine cX5_isLine 2 (some .boolean), .fieldLink RX5 48 "IndentRules$Text" "size" "I", .methodLink RX5 106 yX1_widthAhead, .instanceMethod yX1_widthAhead, .selects RX1 yX1_widthAhead yX1_widthAhead, .initialized RX1, .code yX1_widthAhead cX1_widthAhead 4 (some .int), .fieldLink RX1 26 "IndentRules$Line" "count" "I", .fieldLink RX1 9 "IndentRules$Line" "tokens" "[I"] ++ wsX50 ++ wsX40 ++ wsX10 ++ wsX00 ++ wsX20)
def wsX5_isOpener : List Cond := .code yX5_isOpener cX5_isOpener 2 (some .boolean) :: ([.fieldLink RX5 19 "IndentRules" "nesting" "LIndentRules$Nesting;", .fieldLink RX5 195 "IndentRules$Nesting" "openers" "I"] ++ wsX50 ++ wsX20)
def wsX5_opener_r1 : List Cond := [Cond.fieldLink RX5 19 "IndentRules" "nesting" "LIndentRules$Nesting;", Cond.fieldLink RX5 121 "IndentRules$Nesting" "lineOf" "[I", Cond.fieldLink RX5 124 "IndentRules$Nesting" "tokenOf" "[I", Cond.fieldLink RX5 26 "IndentRules" "now" "LIndentRules$Layout;", Cond.fieldLink RX5 137 "IndentRules$Nesting" "partnerLineOf" "[I", Cond.methodLink RX5 118 yX5_isOpener, Cond.instanceMethod yX5_isOpener, Cond.selects RX5 yX5_isOpener yX5_isOpener, Cond.initialized RX5, Cond.code yX5_isOpener cX5_isOpener 2 (some .boolean), Cond.fieldLink RX5 195 "IndentRules$Nesting" "openers" "I", Cond.methodLink RX5 127 yX0_placeOf, Cond.instanceMethod yX0_placeOf, Cond.selects RX0 yX0_placeOf yX0_placeOf, Cond.initialized RX0, Cond.code yX0_placeOf cX0_placeOf 3 (some .int), Cond.fieldLink RX0 15 "IndentRules$Layout" "columns" "[I", Cond.fieldLink RX0 73 "IndentRules$Nesting" "lineOf" "[I", Cond.fieldLink RX0 76 "IndentRules$Nesting" "widthAheadOf" "[I", Cond.methodLink RX5 131 yX0_baseOf, Cond.instanceMethod yX0_baseOf, Cond.selects RX0 yX0_baseOf yX0_baseOf, Cond.code yX0_baseOf cX0_baseOf 3 (some .int), Cond.methodLink RX5 134 yX0_kindOf]
def wsX5_opener_r2 : List Cond := [Cond.instanceMethod yX0_kindOf, Cond.selects RX0 yX0_kindOf yX0_kindOf, Cond.code yX0_kindOf cX0_kindOf 3 (some .int), Cond.fieldLink RX0 52 "IndentRules$Nesting" "sortOf" "[I", Cond.methodLink RX0 62 yX0_isAligned, Cond.instanceMethod yX0_isAligned, Cond.selects RX0 yX0_isAligned yX0_isAligned, Cond.code yX0_isAligned cX0_isAligned 3 (some .boolean), Cond.fieldLink RX0 9 "IndentRules$Layout" "settings" "[I", Cond.fieldLink RX0 69 "IndentRules$Nesting" "followed" "[Z"]
def wsX5_opener : List Cond := .code yX5_opener cX5_opener 3 (some .int) :: ((wsX5_opener_r1 ++ wsX5_opener_r2) ++ wsX50 ++ wsX20 ++ wsX00)
def wsX5_isAsSeen : List Cond := .code yX5_isAsSeen cX5_isAsSeen 4 (some .boolean) :: ([.fieldLink RX5 12 "IndentRules" "text" "LIndentRules$Text;", .fieldLink RX5 73 "IndentRules$Text" "lines" "[LIndentRules$Line;", .fieldLink RX5 115 "IndentRules$Line" "seen" "I", .fieldLink RX5 100 "IndentRules$Layout" "columns" "[I", .methodLink RX5 140 yX1_counts, .instanceMethod yX1_counts, .selects RX1 yX1_counts yX1_counts, .initialized RX1, .code yX1_counts cX1_counts 1 (some .boolean), .fieldLink RX1 15 "IndentRules$Line" "seen" "I", .fieldLink RX1 26 "IndentRules$Line" "count" "I"] ++ wsX50 ++ wsX40 ++ wsX10 ++ wsX00)
def wsX5_unlike : List Cond := .code yX5_unlike cX5_unlike 3 (some .int) :: ([.fieldLink RX5 12 "IndentRules" "text" "LIndentRules$Text;", .fieldLink RX5 48 "IndentRules$Text" "size" "I", .fieldLink RX5 73 "IndentRules$Text" "lines" "[LIndentRules$Line;", .fieldLink RX5 26 "IndentRules" "now" "LIndentRules$Layout;", .methodLink RX5 70 yX5_isLine, .instanceMethod yX5_isLine, .selects RX5 yX5_isLine yX5_isLine, .initialized RX5, .code yX5_isLine cX5_isLine 2 (some .boolean), .methodLink RX5 140 yX1_counts, .instanceMethod yX1_counts, .selects RX1 yX1_counts yX1_counts, .initialized RX1, .code yX1_counts cX1_counts 1 (some .boolean), .fieldLink RX1 15 "IndentRules$Line" "seen" "I", .fieldLink RX1 26 "IndentRules$Line" "count" "I", .methodLink RX5 144 yX5_isAsSeen, .instanceMethod yX5_isAsSeen, .selects RX5 yX5_isAsSeen yX5_isAsSeen, .code yX5_isAsSeen cX5_isAsSeen 4 (some .boolean), .fieldLink RX5 115 "IndentRules$Line" "seen" "I", .fieldLink RX5 100 "IndentRules$Layout" "columns" "[I"] ++ wsX50 ++ wsX40 ++ wsX10 ++ wsX00)
def wsX5_see : List Cond := .code yX5_see cX5_see 5 (some .int) :: ([.fieldLink RX5 12 "IndentRules" "text" "LIndentRules$Text;", .fieldLink RX5 73 "IndentRules$Text" "lines" "[LIndentRules$Line;", .fieldLink RX5 115 "IndentRules$Line" "seen" "I", .methodLink RX5 70 yX5_isLine, .instanceMethod yX5_isLine, .selects RX5 yX5_isLine yX5_isLine, .initialized RX5, .code yX5_isLine cX5_isLine 2 (some .boolean), .fieldLink RX5 48 "IndentRules$Text" "size" "I"] ++ wsX50 ++ wsX40 ++ wsX10)
def wsX5_isStyle : List Cond := .code yX5_isStyle cX5_isStyle 4 (some .boolean) :: ([.methodLink RX5 86 yX5_isSetting, .static yX5_isSetting, .initialized RX5, .code yX5_isSetting cX5_isSetting 2 (some .boolean), .fieldLink RX5 211 "IndentRules" "LEAST" "[I", .fieldLink RX5 214 "IndentRules" "MOST" "[I"])
def wsX5_layTried_r1 : List Cond := [Cond.fieldLink RX5 30 "IndentRules" "tried" "LIndentRules$Layout;", Cond.fieldLink RX5 12 "IndentRules" "text" "LIndentRules$Text;", Cond.fieldLink RX5 19 "IndentRules" "nesting" "LIndentRules$Nesting;", Cond.methodLink RX5 43 yX0_choose, Cond.instanceMethod yX0_choose, Cond.selects RX0 yX0_choose yX0_choose, Cond.initialized RX0, Cond.code yX0_choose cX0_choose 5 none, Cond.fieldLink RX0 9 "IndentRules$Layout" "settings" "[I", Cond.methodLink RX5 93 yX0_lay, Cond.instanceMethod yX0_lay, Cond.selects RX0 yX0_lay yX0_lay, Cond.code yX0_lay cX0_lay 5 none, Cond.fieldLink RX0 18 "IndentRules$Text" "size" "I", Cond.fieldLink RX0 24 "IndentRules$Text" "lines" "[LIndentRules$Line;", Cond.fieldLink RX0 15 "IndentRules$Layout" "columns" "[I", Cond.fieldLink RX0 28 "IndentRules$Line" "count" "I", Cond.fieldLink RX0 33 "IndentRules$Line" "tokens" "[I", Cond.methodLink RX0 36 yX0_columnBehind, Cond.instanceMethod yX0_columnBehind, Cond.selects RX0 yX0_columnBehind yX0_columnBehind, Cond.code yX0_columnBehind cX0_columnBehind 6 (some .int), Cond.fieldLink RX0 40 "IndentRules$Nesting" "tops" "[I", Cond.fieldLink RX0 45 "IndentRules$Nesting" "lasts" "[I"]
def wsX5_layTried_r2 : List Cond := [Cond.fieldLink RX0 52 "IndentRules$Nesting" "sortOf" "[I", Cond.methodLink RX0 48 yX0_goingOn, Cond.instanceMethod yX0_goingOn, Cond.selects RX0 yX0_goingOn yX0_goingOn, Cond.code yX0_goingOn cX0_goingOn 3 (some .int), Cond.methodLink RX0 55 yX0_columnInBracket, Cond.instanceMethod yX0_columnInBracket, Cond.selects RX0 yX0_columnInBracket yX0_columnInBracket, Cond.code yX0_columnInBracket cX0_columnInBracket 6 (some .int), Cond.methodLink RX0 62 yX0_isAligned, Cond.instanceMethod yX0_isAligned, Cond.selects RX0 yX0_isAligned yX0_isAligned, Cond.code yX0_isAligned cX0_isAligned 3 (some .boolean), Cond.fieldLink RX0 69 "IndentRules$Nesting" "followed" "[Z", Cond.methodLink RX0 66 yX0_placeOf, Cond.instanceMethod yX0_placeOf, Cond.selects RX0 yX0_placeOf yX0_placeOf, Cond.code yX0_placeOf cX0_placeOf 3 (some .int), Cond.fieldLink RX0 73 "IndentRules$Nesting" "lineOf" "[I", Cond.fieldLink RX0 76 "IndentRules$Nesting" "widthAheadOf" "[I", Cond.methodLink RX0 58 yX0_baseOf, Cond.instanceMethod yX0_baseOf, Cond.selects RX0 yX0_baseOf yX0_baseOf, Cond.code yX0_baseOf cX0_baseOf 3 (some .int)]
def wsX5_layTried : List Cond := .code yX5_layTried cX5_layTried 5 none :: ((wsX5_layTried_r1 ++ wsX5_layTried_r2) ++ wsX50 ++ wsX00 ++ wsX40 ++ wsX10 ++ wsX20)
def wsX5_fits_r1 : List Cond := [Cond.fieldLink RX5 12 "IndentRules" "text" "LIndentRules$Text;", Cond.fieldLink RX5 48 "IndentRules$Text" "size" "I", Cond.fieldLink RX5 30 "IndentRules" "tried" "LIndentRules$Layout;", Cond.methodLink RX5 148 yX5_isStyle, Cond.static yX5_isStyle, Cond.initialized RX5, Cond.code yX5_isStyle cX5_isStyle 4 (some .boolean), Cond.methodLink RX5 86 yX5_isSetting, Cond.static yX5_isSetting, Cond.code yX5_isSetting cX5_isSetting 2 (some .boolean), Cond.fieldLink RX5 211 "IndentRules" "LEAST" "[I", Cond.fieldLink RX5 214 "IndentRules" "MOST" "[I", Cond.methodLink RX5 152 yX5_layTried, Cond.instanceMethod yX5_layTried, Cond.selects RX5 yX5_layTried yX5_layTried, Cond.code yX5_layTried cX5_layTried 5 none, Cond.fieldLink RX5 19 "IndentRules" "nesting" "LIndentRules$Nesting;", Cond.methodLink RX5 43 yX0_choose, Cond.instanceMethod yX0_choose, Cond.selects RX0 yX0_choose yX0_choose, Cond.initialized RX0, Cond.code yX0_choose cX0_choose 5 none, Cond.fieldLink RX0 9 "IndentRules$Layout" "settings" "[I", Cond.methodLink RX5 93 yX0_lay]
def wsX5_fits_r2 : List Cond := [Cond.instanceMethod yX0_lay, Cond.selects RX0 yX0_lay yX0_lay, Cond.code yX0_lay cX0_lay 5 none, Cond.fieldLink RX0 18 "IndentRules$Text" "size" "I", Cond.fieldLink RX0 24 "IndentRules$Text" "lines" "[LIndentRules$Line;", Cond.fieldLink RX0 15 "IndentRules$Layout" "columns" "[I", Cond.fieldLink RX0 28 "IndentRules$Line" "count" "I", Cond.fieldLink RX0 33 "IndentRules$Line" "tokens" "[I", Cond.methodLink RX0 36 yX0_columnBehind, Cond.instanceMethod yX0_columnBehind, Cond.selects RX0 yX0_columnBehind yX0_columnBehind, Cond.code yX0_columnBehind cX0_columnBehind 6 (some .int), Cond.fieldLink RX0 40 "IndentRules$Nesting" "tops" "[I", Cond.fieldLink RX0 45 "IndentRules$Nesting" "lasts" "[I", Cond.fieldLink RX0 52 "IndentRules$Nesting" "sortOf" "[I", Cond.methodLink RX0 48 yX0_goingOn, Cond.instanceMethod yX0_goingOn, Cond.selects RX0 yX0_goingOn yX0_goingOn, Cond.code yX0_goingOn cX0_goingOn 3 (some .int), Cond.methodLink RX0 55 yX0_columnInBracket, Cond.instanceMethod yX0_columnInBracket, Cond.selects RX0 yX0_columnInBracket yX0_columnInBracket, Cond.code yX0_columnInBracket cX0_columnInBracket 6 (some .int), Cond.methodLink RX0 62 yX0_isAligned]
def wsX5_fits_r3 : List Cond := [Cond.instanceMethod yX0_isAligned, Cond.selects RX0 yX0_isAligned yX0_isAligned, Cond.code yX0_isAligned cX0_isAligned 3 (some .boolean), Cond.fieldLink RX0 69 "IndentRules$Nesting" "followed" "[Z", Cond.methodLink RX0 66 yX0_placeOf, Cond.instanceMethod yX0_placeOf, Cond.selects RX0 yX0_placeOf yX0_placeOf, Cond.code yX0_placeOf cX0_placeOf 3 (some .int), Cond.fieldLink RX0 73 "IndentRules$Nesting" "lineOf" "[I", Cond.fieldLink RX0 76 "IndentRules$Nesting" "widthAheadOf" "[I", Cond.methodLink RX0 58 yX0_baseOf, Cond.instanceMethod yX0_baseOf, Cond.selects RX0 yX0_baseOf yX0_baseOf, Cond.code yX0_baseOf cX0_baseOf 3 (some .int), Cond.methodLink RX5 144 yX5_isAsSeen, Cond.instanceMethod yX5_isAsSeen, Cond.selects RX5 yX5_isAsSeen yX5_isAsSeen, Cond.code yX5_isAsSeen cX5_isAsSeen 4 (some .boolean), Cond.fieldLink RX5 73 "IndentRules$Text" "lines" "[LIndentRules$Line;", Cond.fieldLink RX5 115 "IndentRules$Line" "seen" "I", Cond.fieldLink RX5 100 "IndentRules$Layout" "columns" "[I", Cond.methodLink RX5 140 yX1_counts, Cond.instanceMethod yX1_counts, Cond.selects RX1 yX1_counts yX1_counts]
def wsX5_fits_r4 : List Cond := [Cond.initialized RX1, Cond.code yX1_counts cX1_counts 1 (some .boolean), Cond.fieldLink RX1 15 "IndentRules$Line" "seen" "I", Cond.fieldLink RX1 26 "IndentRules$Line" "count" "I"]
def wsX5_fits : List Cond := .code yX5_fits cX5_fits 7 (some .int) :: ((wsX5_fits_r1 ++ (wsX5_fits_r2 ++ (wsX5_fits_r3 ++ wsX5_fits_r4))) ++ wsX50 ++ wsX40 ++ wsX00 ++ wsX10 ++ wsX20)
def wsX5_partsOfTried : List Cond := .code yX5_partsOfTried cX5_partsOfTried 3 (some .int) :: ([.fieldLink RX5 12 "IndentRules" "text" "LIndentRules$Text;", .fieldLink RX5 48 "IndentRules$Text" "size" "I", .fieldLink RX5 30 "IndentRules" "tried" "LIndentRules$Layout;", .fieldLink RX5 19 "IndentRules" "nesting" "LIndentRules$Nesting;", .fieldLink RX5 109 "IndentRules$Nesting" "depths" "[I", .methodLink RX5 223 Lib.Math.min.name, .static Lib.Math.min.name, .initialized "java/lang/Math", .code Lib.Math.min.name Lib.Math.min.code 2 (some .int), .methodLink RX5 144 yX5_isAsSeen, .instanceMethod yX5_isAsSeen, .selects RX5 yX5_isAsSeen yX5_isAsSeen, .initialized RX5, .code yX5_isAsSeen cX5_isAsSeen 4 (some .boolean), .fieldLink RX5 73 "IndentRules$Text" "lines" "[LIndentRules$Line;", .fieldLink RX5 115 "IndentRules$Line" "seen" "I", .fieldLink RX5 100 "IndentRules$Layout" "columns" "[I", .methodLink RX5 140 yX1_counts, .instanceMethod yX1_counts, .selects RX1 yX1_counts yX1_counts, .initialized RX1, .code yX1_counts cX1_counts 1 (some .boolean), .fieldLink RX1 15 "IndentRules$Line" "seen" "I", .fieldLink RX1 26 "IndentRules$Line" "count" "I"] ++ wsX50 ++ wsX40 ++ wsX20 ++ wsX10 ++ wsX00)
def wsX5_floatBits : List Cond := .code yX5_floatBits cX5_floatBits 4 (some .int) :: ([])
def wsX5_score_r1 : List Cond := [Cond.methodLink RX5 148 yX5_isStyle, Cond.static yX5_isStyle, Cond.initialized RX5, Cond.code yX5_isStyle cX5_isStyle 4 (some .boolean), Cond.methodLink RX5 86 yX5_isSetting, Cond.static yX5_isSetting, Cond.code yX5_isSetting cX5_isSetting 2 (some .boolean), Cond.fieldLink RX5 211 "IndentRules" "LEAST" "[I", Cond.fieldLink RX5 214 "IndentRules" "MOST" "[I", Cond.methodLink RX5 152 yX5_layTried, Cond.instanceMethod yX5_layTried, Cond.selects RX5 yX5_layTried yX5_layTried, Cond.code yX5_layTried cX5_layTried 5 none, Cond.fieldLink RX5 30 "IndentRules" "tried" "LIndentRules$Layout;", Cond.fieldLink RX5 12 "IndentRules" "text" "LIndentRules$Text;", Cond.fieldLink RX5 19 "IndentRules" "nesting" "LIndentRules$Nesting;", Cond.methodLink RX5 43 yX0_choose, Cond.instanceMethod yX0_choose, Cond.selects RX0 yX0_choose yX0_choose, Cond.initialized RX0, Cond.code yX0_choose cX0_choose 5 none, Cond.fieldLink RX0 9 "IndentRules$Layout" "settings" "[I", Cond.methodLink RX5 93 yX0_lay, Cond.instanceMethod yX0_lay]
def wsX5_score_r2 : List Cond := [Cond.selects RX0 yX0_lay yX0_lay, Cond.code yX0_lay cX0_lay 5 none, Cond.fieldLink RX0 18 "IndentRules$Text" "size" "I", Cond.fieldLink RX0 24 "IndentRules$Text" "lines" "[LIndentRules$Line;", Cond.fieldLink RX0 15 "IndentRules$Layout" "columns" "[I", Cond.fieldLink RX0 28 "IndentRules$Line" "count" "I", Cond.fieldLink RX0 33 "IndentRules$Line" "tokens" "[I", Cond.methodLink RX0 36 yX0_columnBehind, Cond.instanceMethod yX0_columnBehind, Cond.selects RX0 yX0_columnBehind yX0_columnBehind, Cond.code yX0_columnBehind cX0_columnBehind 6 (some .int), Cond.fieldLink RX0 40 "IndentRules$Nesting" "tops" "[I", Cond.fieldLink RX0 45 "IndentRules$Nesting" "lasts" "[I", Cond.fieldLink RX0 52 "IndentRules$Nesting" "sortOf" "[I", Cond.methodLink RX0 48 yX0_goingOn, Cond.instanceMethod yX0_goingOn, Cond.selects RX0 yX0_goingOn yX0_goingOn, Cond.code yX0_goingOn cX0_goingOn 3 (some .int), Cond.methodLink RX0 55 yX0_columnInBracket, Cond.instanceMethod yX0_columnInBracket, Cond.selects RX0 yX0_columnInBracket yX0_columnInBracket, Cond.code yX0_columnInBracket cX0_columnInBracket 6 (some .int), Cond.methodLink RX0 62 yX0_isAligned, Cond.instanceMethod yX0_isAligned]
def wsX5_score_r3 : List Cond := [Cond.selects RX0 yX0_isAligned yX0_isAligned, Cond.code yX0_isAligned cX0_isAligned 3 (some .boolean), Cond.fieldLink RX0 69 "IndentRules$Nesting" "followed" "[Z", Cond.methodLink RX0 66 yX0_placeOf, Cond.instanceMethod yX0_placeOf, Cond.selects RX0 yX0_placeOf yX0_placeOf, Cond.code yX0_placeOf cX0_placeOf 3 (some .int), Cond.fieldLink RX0 73 "IndentRules$Nesting" "lineOf" "[I", Cond.fieldLink RX0 76 "IndentRules$Nesting" "widthAheadOf" "[I", Cond.methodLink RX0 58 yX0_baseOf, Cond.instanceMethod yX0_baseOf, Cond.selects RX0 yX0_baseOf yX0_baseOf, Cond.code yX0_baseOf cX0_baseOf 3 (some .int), Cond.methodLink RX5 155 yX5_partsOfTried, Cond.instanceMethod yX5_partsOfTried, Cond.selects RX5 yX5_partsOfTried yX5_partsOfTried, Cond.code yX5_partsOfTried cX5_partsOfTried 3 (some .int), Cond.fieldLink RX5 48 "IndentRules$Text" "size" "I", Cond.fieldLink RX5 109 "IndentRules$Nesting" "depths" "[I", Cond.methodLink RX5 223 Lib.Math.min.name, Cond.static Lib.Math.min.name, Cond.initialized "java/lang/Math", Cond.code Lib.Math.min.name Lib.Math.min.code 2 (some .int), Cond.methodLink RX5 144 yX5_isAsSeen]
def wsX5_score_r4 : List Cond := [Cond.instanceMethod yX5_isAsSeen, Cond.selects RX5 yX5_isAsSeen yX5_isAsSeen, Cond.code yX5_isAsSeen cX5_isAsSeen 4 (some .boolean), Cond.fieldLink RX5 73 "IndentRules$Text" "lines" "[LIndentRules$Line;", Cond.fieldLink RX5 115 "IndentRules$Line" "seen" "I", Cond.fieldLink RX5 100 "IndentRules$Layout" "columns" "[I", Cond.methodLink RX5 140 yX1_counts, Cond.instanceMethod yX1_counts, Cond.selects RX1 yX1_counts yX1_counts, Cond.initialized RX1, Cond.code yX1_counts cX1_counts 1 (some .boolean), Cond.fieldLink RX1 15 "IndentRules$Line" "seen" "I", Cond.fieldLink RX1 26 "IndentRules$Line" "count" "I", Cond.methodLink RX5 159 yX5_floatBits, Cond.static yX5_floatBits, Cond.code yX5_floatBits cX5_floatBits 4 (some .int)]
def wsX5_score : List Cond := .code yX5_score cX5_score 7 (some .int) :: ((wsX5_score_r1 ++ (wsX5_score_r2 ++ (wsX5_score_r3 ++ wsX5_score_r4))) ++ wsX50 ++ wsX00 ++ wsX40 ++ wsX10 ++ wsX20)
def wsX5_hasSeenTokens : List Cond := .code yX5_hasSeenTokens cX5_hasSeenTokens 2 (some .boolean) :: ([.fieldLink RX5 12 "IndentRules" "text" "LIndentRules$Text;", .fieldLink RX5 48 "IndentRules$Text" "size" "I", .fieldLink RX5 73 "IndentRules$Text" "lines" "[LIndentRules$Line;", .methodLink RX5 140 yX1_counts, .instanceMethod yX1_counts, .selects RX1 yX1_counts yX1_counts, .initialized RX1, .code yX1_counts cX1_counts 1 (some .boolean), .fieldLink RX1 15 "IndentRules$Line" "seen" "I", .fieldLink RX1 26 "IndentRules$Line" "count" "I"] ++ wsX50 ++ wsX40 ++ wsX10)
def wsX5_keepIfBetter_r1 : List Cond := [Cond.fieldLink RX5 168 "IndentRules" "guessedParts" "I", Cond.fieldLink RX5 33 "IndentRules" "guessed" "[I", Cond.fieldLink RX5 30 "IndentRules" "tried" "LIndentRules$Layout;", Cond.fieldLink RX5 90 "IndentRules$Layout" "settings" "[I", Cond.methodLink RX5 155 yX5_partsOfTried, Cond.instanceMethod yX5_partsOfTried, Cond.selects RX5 yX5_partsOfTried yX5_partsOfTried, Cond.initialized RX5, Cond.code yX5_partsOfTried cX5_partsOfTried 3 (some .int), Cond.fieldLink RX5 12 "IndentRules" "text" "LIndentRules$Text;", Cond.fieldLink RX5 48 "IndentRules$Text" "size" "I", Cond.fieldLink RX5 19 "IndentRules" "nesting" "LIndentRules$Nesting;", Cond.fieldLink RX5 109 "IndentRules$Nesting" "depths" "[I", Cond.methodLink RX5 223 Lib.Math.min.name, Cond.static Lib.Math.min.name, Cond.initialized "java/lang/Math", Cond.code Lib.Math.min.name Lib.Math.min.code 2 (some .int), Cond.methodLink RX5 144 yX5_isAsSeen, Cond.instanceMethod yX5_isAsSeen, Cond.selects RX5 yX5_isAsSeen yX5_isAsSeen, Cond.code yX5_isAsSeen cX5_isAsSeen 4 (some .boolean), Cond.fieldLink RX5 73 "IndentRules$Text" "lines" "[LIndentRules$Line;", Cond.fieldLink RX5 115 "IndentRules$Line" "seen" "I", Cond.fieldLink RX5 100 "IndentRules$Layout" "columns" "[I"]
def wsX5_keepIfBetter_r2 : List Cond := [Cond.methodLink RX5 140 yX1_counts, Cond.instanceMethod yX1_counts, Cond.selects RX1 yX1_counts yX1_counts, Cond.initialized RX1, Cond.code yX1_counts cX1_counts 1 (some .boolean), Cond.fieldLink RX1 15 "IndentRules$Line" "seen" "I", Cond.fieldLink RX1 26 "IndentRules$Line" "count" "I"]
def wsX5_keepIfBetter : List Cond := .code yX5_keepIfBetter cX5_keepIfBetter 3 none :: ((wsX5_keepIfBetter_r1 ++ wsX5_keepIfBetter_r2) ++ wsX50 ++ wsX00 ++ wsX40 ++ wsX20 ++ wsX10)
def wsX5_findGuess_r1 : List Cond := [Cond.fieldLink RX5 168 "IndentRules" "guessedParts" "I", Cond.fieldLink RX5 211 "IndentRules" "LEAST" "[I", Cond.fieldLink RX5 214 "IndentRules" "MOST" "[I", Cond.methodLink RX5 152 yX5_layTried, Cond.instanceMethod yX5_layTried, Cond.selects RX5 yX5_layTried yX5_layTried, Cond.initialized RX5, Cond.code yX5_layTried cX5_layTried 5 none, Cond.fieldLink RX5 30 "IndentRules" "tried" "LIndentRules$Layout;", Cond.fieldLink RX5 12 "IndentRules" "text" "LIndentRules$Text;", Cond.fieldLink RX5 19 "IndentRules" "nesting" "LIndentRules$Nesting;", Cond.methodLink RX5 43 yX0_choose, Cond.instanceMethod yX0_choose, Cond.selects RX0 yX0_choose yX0_choose, Cond.initialized RX0, Cond.code yX0_choose cX0_choose 5 none, Cond.fieldLink RX0 9 "IndentRules$Layout" "settings" "[I", Cond.methodLink RX5 93 yX0_lay, Cond.instanceMethod yX0_lay, Cond.selects RX0 yX0_lay yX0_lay, Cond.code yX0_lay cX0_lay 5 none, Cond.fieldLink RX0 18 "IndentRules$Text" "size" "I", Cond.fieldLink RX0 24 "IndentRules$Text" "lines" "[LIndentRules$Line;", Cond.fieldLink RX0 15 "IndentRules$Layout" "columns" "[I"]
def wsX5_findGuess_r2 : List Cond := [Cond.fieldLink RX0 28 "IndentRules$Line" "count" "I", Cond.fieldLink RX0 33 "IndentRules$Line" "tokens" "[I", Cond.methodLink RX0 36 yX0_columnBehind, Cond.instanceMethod yX0_columnBehind, Cond.selects RX0 yX0_columnBehind yX0_columnBehind, Cond.code yX0_columnBehind cX0_columnBehind 6 (some .int), Cond.fieldLink RX0 40 "IndentRules$Nesting" "tops" "[I", Cond.fieldLink RX0 45 "IndentRules$Nesting" "lasts" "[I", Cond.fieldLink RX0 52 "IndentRules$Nesting" "sortOf" "[I", Cond.methodLink RX0 48 yX0_goingOn, Cond.instanceMethod yX0_goingOn, Cond.selects RX0 yX0_goingOn yX0_goingOn, Cond.code yX0_goingOn cX0_goingOn 3 (some .int), Cond.methodLink RX0 55 yX0_columnInBracket, Cond.instanceMethod yX0_columnInBracket, Cond.selects RX0 yX0_columnInBracket yX0_columnInBracket, Cond.code yX0_columnInBracket cX0_columnInBracket 6 (some .int), Cond.methodLink RX0 62 yX0_isAligned, Cond.instanceMethod yX0_isAligned, Cond.selects RX0 yX0_isAligned yX0_isAligned, Cond.code yX0_isAligned cX0_isAligned 3 (some .boolean), Cond.fieldLink RX0 69 "IndentRules$Nesting" "followed" "[Z", Cond.methodLink RX0 66 yX0_placeOf, Cond.instanceMethod yX0_placeOf]
def wsX5_findGuess_r3 : List Cond := [Cond.selects RX0 yX0_placeOf yX0_placeOf, Cond.code yX0_placeOf cX0_placeOf 3 (some .int), Cond.fieldLink RX0 73 "IndentRules$Nesting" "lineOf" "[I", Cond.fieldLink RX0 76 "IndentRules$Nesting" "widthAheadOf" "[I", Cond.methodLink RX0 58 yX0_baseOf, Cond.instanceMethod yX0_baseOf, Cond.selects RX0 yX0_baseOf yX0_baseOf, Cond.code yX0_baseOf cX0_baseOf 3 (some .int), Cond.methodLink RX5 228 yX5_keepIfBetter, Cond.instanceMethod yX5_keepIfBetter, Cond.selects RX5 yX5_keepIfBetter yX5_keepIfBetter, Cond.code yX5_keepIfBetter cX5_keepIfBetter 3 none, Cond.fieldLink RX5 33 "IndentRules" "guessed" "[I", Cond.fieldLink RX5 90 "IndentRules$Layout" "settings" "[I", Cond.methodLink RX5 155 yX5_partsOfTried, Cond.instanceMethod yX5_partsOfTried, Cond.selects RX5 yX5_partsOfTried yX5_partsOfTried, Cond.code yX5_partsOfTried cX5_partsOfTried 3 (some .int), Cond.fieldLink RX5 48 "IndentRules$Text" "size" "I", Cond.fieldLink RX5 109 "IndentRules$Nesting" "depths" "[I", Cond.methodLink RX5 223 Lib.Math.min.name, Cond.static Lib.Math.min.name, Cond.initialized "java/lang/Math", Cond.code Lib.Math.min.name Lib.Math.min.code 2 (some .int)]
def wsX5_findGuess_r4 : List Cond := [Cond.methodLink RX5 144 yX5_isAsSeen, Cond.instanceMethod yX5_isAsSeen, Cond.selects RX5 yX5_isAsSeen yX5_isAsSeen, Cond.code yX5_isAsSeen cX5_isAsSeen 4 (some .boolean), Cond.fieldLink RX5 73 "IndentRules$Text" "lines" "[LIndentRules$Line;", Cond.fieldLink RX5 115 "IndentRules$Line" "seen" "I", Cond.fieldLink RX5 100 "IndentRules$Layout" "columns" "[I", Cond.methodLink RX5 140 yX1_counts, Cond.instanceMethod yX1_counts, Cond.selects RX1 yX1_counts yX1_counts, Cond.initialized RX1, Cond.code yX1_counts cX1_counts 1 (some .boolean), Cond.fieldLink RX1 15 "IndentRules$Line" "seen" "I", Cond.fieldLink RX1 26 "IndentRules$Line" "count" "I"]
def wsX5_findGuess : List Cond := .code yX5_findGuess cX5_findGuess 5 none :: ((wsX5_findGuess_r1 ++ (wsX5_findGuess_r2 ++ (wsX5_findGuess_r3 ++ wsX5_findGuess_r4))) ++ wsX50 ++ wsX00 ++ wsX40 ++ wsX10 ++ wsX20)
def wsX5_guess_r1 : List Cond := [Cond.fieldLink RX5 33 "IndentRules" "guessed" "[I", Cond.fieldLink RX5 168 "IndentRules" "guessedParts" "I", Cond.methodLink RX5 162 yX5_hasSeenTokens, Cond.instanceMethod yX5_hasSeenTokens, Cond.selects RX5 yX5_hasSeenTokens yX5_hasSeenTokens, Cond.initialized RX5, Cond.code yX5_hasSeenTokens cX5_hasSeenTokens 2 (some .boolean), Cond.fieldLink RX5 12 "IndentRules" "text" "LIndentRules$Text;", Cond.fieldLink RX5 48 "IndentRules$Text" "size" "I", Cond.fieldLink RX5 73 "IndentRules$Text" "lines" "[LIndentRules$Line;", Cond.methodLink RX5 140 yX1_counts, Cond.instanceMethod yX1_counts, Cond.selects RX1 yX1_counts yX1_counts, Cond.initialized RX1, Cond.code yX1_counts cX1_counts 1 (some .boolean), Cond.fieldLink RX1 15 "IndentRules$Line" "seen" "I", Cond.fieldLink RX1 26 "IndentRules$Line" "count" "I", Cond.methodLink RX5 165 yX5_findGuess, Cond.instanceMethod yX5_findGuess, Cond.selects RX5 yX5_findGuess yX5_findGuess, Cond.code yX5_findGuess cX5_findGuess 5 none, Cond.fieldLink RX5 211 "IndentRules" "LEAST" "[I", Cond.fieldLink RX5 214 "IndentRules" "MOST" "[I", Cond.methodLink RX5 152 yX5_layTried]
def wsX5_guess_r2 : List Cond := [Cond.instanceMethod yX5_layTried, Cond.selects RX5 yX5_layTried yX5_layTried, Cond.code yX5_layTried cX5_layTried 5 none, Cond.fieldLink RX5 30 "IndentRules" "tried" "LIndentRules$Layout;", Cond.fieldLink RX5 19 "IndentRules" "nesting" "LIndentRules$Nesting;", Cond.methodLink RX5 43 yX0_choose, Cond.instanceMethod yX0_choose, Cond.selects RX0 yX0_choose yX0_choose, Cond.initialized RX0, Cond.code yX0_choose cX0_choose 5 none, Cond.fieldLink RX0 9 "IndentRules$Layout" "settings" "[I", Cond.methodLink RX5 93 yX0_lay, Cond.instanceMethod yX0_lay, Cond.selects RX0 yX0_lay yX0_lay, Cond.code yX0_lay cX0_lay 5 none, Cond.fieldLink RX0 18 "IndentRules$Text" "size" "I", Cond.fieldLink RX0 24 "IndentRules$Text" "lines" "[LIndentRules$Line;", Cond.fieldLink RX0 15 "IndentRules$Layout" "columns" "[I", Cond.fieldLink RX0 28 "IndentRules$Line" "count" "I", Cond.fieldLink RX0 33 "IndentRules$Line" "tokens" "[I", Cond.methodLink RX0 36 yX0_columnBehind, Cond.instanceMethod yX0_columnBehind, Cond.selects RX0 yX0_columnBehind yX0_columnBehind, Cond.code yX0_columnBehind cX0_columnBehind 6 (some .int)]
def wsX5_guess_r3 : List Cond := [Cond.fieldLink RX0 40 "IndentRules$Nesting" "tops" "[I", Cond.fieldLink RX0 45 "IndentRules$Nesting" "lasts" "[I", Cond.fieldLink RX0 52 "IndentRules$Nesting" "sortOf" "[I", Cond.methodLink RX0 48 yX0_goingOn, Cond.instanceMethod yX0_goingOn, Cond.selects RX0 yX0_goingOn yX0_goingOn, Cond.code yX0_goingOn cX0_goingOn 3 (some .int), Cond.methodLink RX0 55 yX0_columnInBracket, Cond.instanceMethod yX0_columnInBracket, Cond.selects RX0 yX0_columnInBracket yX0_columnInBracket, Cond.code yX0_columnInBracket cX0_columnInBracket 6 (some .int), Cond.methodLink RX0 62 yX0_isAligned, Cond.instanceMethod yX0_isAligned, Cond.selects RX0 yX0_isAligned yX0_isAligned, Cond.code yX0_isAligned cX0_isAligned 3 (some .boolean), Cond.fieldLink RX0 69 "IndentRules$Nesting" "followed" "[Z", Cond.methodLink RX0 66 yX0_placeOf, Cond.instanceMethod yX0_placeOf, Cond.selects RX0 yX0_placeOf yX0_placeOf, Cond.code yX0_placeOf cX0_placeOf 3 (some .int), Cond.fieldLink RX0 73 "IndentRules$Nesting" "lineOf" "[I", Cond.fieldLink RX0 76 "IndentRules$Nesting" "widthAheadOf" "[I", Cond.methodLink RX0 58 yX0_baseOf, Cond.instanceMethod yX0_baseOf]
def wsX5_guess_r4 : List Cond := [Cond.selects RX0 yX0_baseOf yX0_baseOf, Cond.code yX0_baseOf cX0_baseOf 3 (some .int), Cond.methodLink RX5 228 yX5_keepIfBetter, Cond.instanceMethod yX5_keepIfBetter, Cond.selects RX5 yX5_keepIfBetter yX5_keepIfBetter, Cond.code yX5_keepIfBetter cX5_keepIfBetter 3 none, Cond.fieldLink RX5 90 "IndentRules$Layout" "settings" "[I", Cond.methodLink RX5 155 yX5_partsOfTried, Cond.instanceMethod yX5_partsOfTried, Cond.selects RX5 yX5_partsOfTried yX5_partsOfTried, Cond.code yX5_partsOfTried cX5_partsOfTried 3 (some .int), Cond.fieldLink RX5 109 "IndentRules$Nesting" "depths" "[I", Cond.methodLink RX5 223 Lib.Math.min.name, Cond.static Lib.Math.min.name, Cond.initialized "java/lang/Math", Cond.code Lib.Math.min.name Lib.Math.min.code 2 (some .int), Cond.methodLink RX5 144 yX5_isAsSeen, Cond.instanceMethod yX5_isAsSeen, Cond.selects RX5 yX5_isAsSeen yX5_isAsSeen, Cond.code yX5_isAsSeen cX5_isAsSeen 4 (some .boolean), Cond.fieldLink RX5 115 "IndentRules$Line" "seen" "I", Cond.fieldLink RX5 100 "IndentRules$Layout" "columns" "[I", Cond.methodLink RX5 159 yX5_floatBits, Cond.static yX5_floatBits]
def wsX5_guess_r5 : List Cond := [Cond.code yX5_floatBits cX5_floatBits 4 (some .int)]
def wsX5_guess : List Cond := .code yX5_guess cX5_guess 2 (some .int) :: ((wsX5_guess_r1 ++ (wsX5_guess_r2 ++ (wsX5_guess_r3 ++ (wsX5_guess_r4 ++ wsX5_guess_r5)))) ++ wsX50 ++ wsX40 ++ wsX10 ++ wsX00 ++ wsX20)
def wsX5_follow_r1 : List Cond := [Cond.fieldLink RX5 26 "IndentRules" "now" "LIndentRules$Layout;", Cond.fieldLink RX5 33 "IndentRules" "guessed" "[I", Cond.fieldLink RX5 12 "IndentRules" "text" "LIndentRules$Text;", Cond.fieldLink RX5 19 "IndentRules" "nesting" "LIndentRules$Nesting;", Cond.methodLink RX5 162 yX5_hasSeenTokens, Cond.instanceMethod yX5_hasSeenTokens, Cond.selects RX5 yX5_hasSeenTokens yX5_hasSeenTokens, Cond.initialized RX5, Cond.code yX5_hasSeenTokens cX5_hasSeenTokens 2 (some .boolean), Cond.fieldLink RX5 48 "IndentRules$Text" "size" "I", Cond.fieldLink RX5 73 "IndentRules$Text" "lines" "[LIndentRules$Line;", Cond.methodLink RX5 140 yX1_counts, Cond.instanceMethod yX1_counts, Cond.selects RX1 yX1_counts yX1_counts, Cond.initialized RX1, Cond.code yX1_counts cX1_counts 1 (some .boolean), Cond.fieldLink RX1 15 "IndentRules$Line" "seen" "I", Cond.fieldLink RX1 26 "IndentRules$Line" "count" "I", Cond.methodLink RX5 165 yX5_findGuess, Cond.instanceMethod yX5_findGuess, Cond.selects RX5 yX5_findGuess yX5_findGuess, Cond.code yX5_findGuess cX5_findGuess 5 none, Cond.fieldLink RX5 168 "IndentRules" "guessedParts" "I", Cond.fieldLink RX5 211 "IndentRules" "LEAST" "[I"]
def wsX5_follow_r2 : List Cond := [Cond.fieldLink RX5 214 "IndentRules" "MOST" "[I", Cond.methodLink RX5 152 yX5_layTried, Cond.instanceMethod yX5_layTried, Cond.selects RX5 yX5_layTried yX5_layTried, Cond.code yX5_layTried cX5_layTried 5 none, Cond.fieldLink RX5 30 "IndentRules" "tried" "LIndentRules$Layout;", Cond.methodLink RX5 43 yX0_choose, Cond.instanceMethod yX0_choose, Cond.selects RX0 yX0_choose yX0_choose, Cond.initialized RX0, Cond.code yX0_choose cX0_choose 5 none, Cond.fieldLink RX0 9 "IndentRules$Layout" "settings" "[I", Cond.methodLink RX5 93 yX0_lay, Cond.instanceMethod yX0_lay, Cond.selects RX0 yX0_lay yX0_lay, Cond.code yX0_lay cX0_lay 5 none, Cond.fieldLink RX0 18 "IndentRules$Text" "size" "I", Cond.fieldLink RX0 24 "IndentRules$Text" "lines" "[LIndentRules$Line;", Cond.fieldLink RX0 15 "IndentRules$Layout" "columns" "[I", Cond.fieldLink RX0 28 "IndentRules$Line" "count" "I", Cond.fieldLink RX0 33 "IndentRules$Line" "tokens" "[I", Cond.methodLink RX0 36 yX0_columnBehind, Cond.instanceMethod yX0_columnBehind, Cond.selects RX0 yX0_columnBehind yX0_columnBehind]
def wsX5_follow_r3 : List Cond := [Cond.code yX0_columnBehind cX0_columnBehind 6 (some .int), Cond.fieldLink RX0 40 "IndentRules$Nesting" "tops" "[I", Cond.fieldLink RX0 45 "IndentRules$Nesting" "lasts" "[I", Cond.fieldLink RX0 52 "IndentRules$Nesting" "sortOf" "[I", Cond.methodLink RX0 48 yX0_goingOn, Cond.instanceMethod yX0_goingOn, Cond.selects RX0 yX0_goingOn yX0_goingOn, Cond.code yX0_goingOn cX0_goingOn 3 (some .int), Cond.methodLink RX0 55 yX0_columnInBracket, Cond.instanceMethod yX0_columnInBracket, Cond.selects RX0 yX0_columnInBracket yX0_columnInBracket, Cond.code yX0_columnInBracket cX0_columnInBracket 6 (some .int), Cond.methodLink RX0 62 yX0_isAligned, Cond.instanceMethod yX0_isAligned, Cond.selects RX0 yX0_isAligned yX0_isAligned, Cond.code yX0_isAligned cX0_isAligned 3 (some .boolean), Cond.fieldLink RX0 69 "IndentRules$Nesting" "followed" "[Z", Cond.methodLink RX0 66 yX0_placeOf, Cond.instanceMethod yX0_placeOf, Cond.selects RX0 yX0_placeOf yX0_placeOf, Cond.code yX0_placeOf cX0_placeOf 3 (some .int), Cond.fieldLink RX0 73 "IndentRules$Nesting" "lineOf" "[I", Cond.fieldLink RX0 76 "IndentRules$Nesting" "widthAheadOf" "[I", Cond.methodLink RX0 58 yX0_baseOf]
def wsX5_follow_r4 : List Cond := [Cond.instanceMethod yX0_baseOf, Cond.selects RX0 yX0_baseOf yX0_baseOf, Cond.code yX0_baseOf cX0_baseOf 3 (some .int), Cond.methodLink RX5 228 yX5_keepIfBetter, Cond.instanceMethod yX5_keepIfBetter, Cond.selects RX5 yX5_keepIfBetter yX5_keepIfBetter, Cond.code yX5_keepIfBetter cX5_keepIfBetter 3 none, Cond.fieldLink RX5 90 "IndentRules$Layout" "settings" "[I", Cond.methodLink RX5 155 yX5_partsOfTried, Cond.instanceMethod yX5_partsOfTried, Cond.selects RX5 yX5_partsOfTried yX5_partsOfTried, Cond.code yX5_partsOfTried cX5_partsOfTried 3 (some .int), Cond.fieldLink RX5 109 "IndentRules$Nesting" "depths" "[I", Cond.methodLink RX5 223 Lib.Math.min.name, Cond.static Lib.Math.min.name, Cond.initialized "java/lang/Math", Cond.code Lib.Math.min.name Lib.Math.min.code 2 (some .int), Cond.methodLink RX5 144 yX5_isAsSeen, Cond.instanceMethod yX5_isAsSeen, Cond.selects RX5 yX5_isAsSeen yX5_isAsSeen, Cond.code yX5_isAsSeen cX5_isAsSeen 4 (some .boolean), Cond.fieldLink RX5 115 "IndentRules$Line" "seen" "I", Cond.fieldLink RX5 100 "IndentRules$Layout" "columns" "[I", Cond.methodLink RX5 56 yX5_rememberColumns]
def wsX5_follow_r5 : List Cond := [Cond.instanceMethod yX5_rememberColumns, Cond.selects RX5 yX5_rememberColumns yX5_rememberColumns, Cond.code yX5_rememberColumns cX5_rememberColumns 2 none, Cond.fieldLink RX5 220 "IndentRules$Line" "columnBefore" "I", Cond.methodLink RX5 66 yX5_movedBut, Cond.instanceMethod yX5_movedBut, Cond.selects RX5 yX5_movedBut yX5_movedBut, Cond.code yX5_movedBut cX5_movedBut 4 (some .int)]
def wsX5_follow : List Cond := .code yX5_follow cX5_follow 1 (some .int) :: ((wsX5_follow_r1 ++ (wsX5_follow_r2 ++ (wsX5_follow_r3 ++ (wsX5_follow_r4 ++ wsX5_follow_r5)))) ++ wsX50 ++ wsX40 ++ wsX10 ++ wsX00 ++ wsX20)
def wsX5_isPocket : List Cond := .code yX5_isPocket cX5_isPocket 1 (some .boolean) :: ([])
def wsX5_pocket : List Cond := .code yX5_pocket cX5_pocket 4 (some .int) :: ([.fieldLink RX5 39 "IndentRules" "pockets" "[LIndentRules$Pocket;", .methodLink RX5 171 yX5_isPocket, .static yX5_isPocket, .initialized RX5, .code yX5_isPocket cX5_isPocket 1 (some .boolean), .methodLink RX5 174 yX3_renew, .instanceMethod yX3_renew, .selects RX3 yX3_renew yX3_renew, .initialized RX3, .code yX3_renew cX3_renew 4 none, .fieldLink RX3 21 "IndentRules$Pocket" "kind" "I", .fieldLink RX3 25 "IndentRules$Pocket" "size" "I", .methodLink RX3 28 yX3_fill, .instanceMethod yX3_fill, .selects RX3 yX3_fill yX3_fill, .code yX3_fill cX3_fill 5 none, .fieldLink RX3 9 "IndentRules$Pocket" "lineIn" "[I", .fieldLink RX3 15 "IndentRules$Pocket" "placeIn" "[I", .fieldLink RX3 18 "IndentRules$Pocket" "kindIn" "[I"] ++ wsX50 ++ wsX30)
def wsX5_store_r1 : List Cond := [Cond.fieldLink RX5 39 "IndentRules" "pockets" "[LIndentRules$Pocket;", Cond.fieldLink RX5 177 "IndentRules$Pocket" "size" "I", Cond.fieldLink RX5 26 "IndentRules" "now" "LIndentRules$Layout;", Cond.fieldLink RX5 19 "IndentRules" "nesting" "LIndentRules$Nesting;", Cond.fieldLink RX5 121 "IndentRules$Nesting" "lineOf" "[I", Cond.methodLink RX5 171 yX5_isPocket, Cond.static yX5_isPocket, Cond.initialized RX5, Cond.code yX5_isPocket cX5_isPocket 1 (some .boolean), Cond.methodLink RX5 118 yX5_isOpener, Cond.instanceMethod yX5_isOpener, Cond.selects RX5 yX5_isOpener yX5_isOpener, Cond.code yX5_isOpener cX5_isOpener 2 (some .boolean), Cond.fieldLink RX5 195 "IndentRules$Nesting" "openers" "I", Cond.methodLink RX5 178 yX3_hasCell, Cond.instanceMethod yX3_hasCell, Cond.selects RX3 yX3_hasCell yX3_hasCell, Cond.initialized RX3, Cond.code yX3_hasCell cX3_hasCell 2 (some .boolean), Cond.fieldLink RX3 25 "IndentRules$Pocket" "size" "I", Cond.methodLink RX5 134 yX0_kindOf, Cond.instanceMethod yX0_kindOf, Cond.selects RX0 yX0_kindOf yX0_kindOf, Cond.initialized RX0]
def wsX5_store_r2 : List Cond := [Cond.code yX0_kindOf cX0_kindOf 3 (some .int), Cond.fieldLink RX0 52 "IndentRules$Nesting" "sortOf" "[I", Cond.methodLink RX0 62 yX0_isAligned, Cond.instanceMethod yX0_isAligned, Cond.selects RX0 yX0_isAligned yX0_isAligned, Cond.code yX0_isAligned cX0_isAligned 3 (some .boolean), Cond.fieldLink RX0 9 "IndentRules$Layout" "settings" "[I", Cond.fieldLink RX0 69 "IndentRules$Nesting" "followed" "[Z", Cond.methodLink RX5 181 yX3_takes, Cond.instanceMethod yX3_takes, Cond.selects RX3 yX3_takes yX3_takes, Cond.code yX3_takes cX3_takes 2 (some .boolean), Cond.fieldLink RX3 21 "IndentRules$Pocket" "kind" "I", Cond.methodLink RX5 127 yX0_placeOf, Cond.instanceMethod yX0_placeOf, Cond.selects RX0 yX0_placeOf yX0_placeOf, Cond.code yX0_placeOf cX0_placeOf 3 (some .int), Cond.fieldLink RX0 15 "IndentRules$Layout" "columns" "[I", Cond.fieldLink RX0 73 "IndentRules$Nesting" "lineOf" "[I", Cond.fieldLink RX0 76 "IndentRules$Nesting" "widthAheadOf" "[I", Cond.methodLink RX5 184 yX3_fill, Cond.instanceMethod yX3_fill, Cond.selects RX3 yX3_fill yX3_fill, Cond.code yX3_fill cX3_fill 5 none]
def wsX5_store_r3 : List Cond := [Cond.fieldLink RX3 9 "IndentRules$Pocket" "lineIn" "[I", Cond.fieldLink RX3 15 "IndentRules$Pocket" "placeIn" "[I", Cond.fieldLink RX3 18 "IndentRules$Pocket" "kindIn" "[I"]
def wsX5_store : List Cond := .code yX5_store cX5_store 6 (some .int) :: ((wsX5_store_r1 ++ (wsX5_store_r2 ++ wsX5_store_r3)) ++ wsX50 ++ wsX30 ++ wsX20 ++ wsX00)
def wsX5_copy : List Cond := .code yX5_copy cX5_copy 3 (some .int) :: ([.fieldLink RX5 39 "IndentRules" "pockets" "[LIndentRules$Pocket;", .fieldLink RX5 177 "IndentRules$Pocket" "size" "I", .methodLink RX5 171 yX5_isPocket, .static yX5_isPocket, .initialized RX5, .code yX5_isPocket cX5_isPocket 1 (some .boolean), .methodLink RX5 187 yX3_becomeLike, .instanceMethod yX3_becomeLike, .selects RX3 yX3_becomeLike yX3_becomeLike, .initialized RX3, .code yX3_becomeLike cX3_becomeLike 3 none, .fieldLink RX3 21 "IndentRules$Pocket" "kind" "I", .fieldLink RX3 25 "IndentRules$Pocket" "size" "I", .fieldLink RX3 9 "IndentRules$Pocket" "lineIn" "[I", .fieldLink RX3 15 "IndentRules$Pocket" "placeIn" "[I", .fieldLink RX3 18 "IndentRules$Pocket" "kindIn" "[I", .methodLink RX3 28 yX3_fill, .instanceMethod yX3_fill, .selects RX3 yX3_fill yX3_fill, .code yX3_fill cX3_fill 5 none] ++ wsX50 ++ wsX30)
def wsX5_ofPocket : List Cond := .code yX5_ofPocket cX5_ofPocket 5 (some .int) :: ([.fieldLink RX5 39 "IndentRules" "pockets" "[LIndentRules$Pocket;", .fieldLink RX5 177 "IndentRules$Pocket" "size" "I", .methodLink RX5 171 yX5_isPocket, .static yX5_isPocket, .initialized RX5, .code yX5_isPocket cX5_isPocket 1 (some .boolean), .methodLink RX5 178 yX3_hasCell, .instanceMethod yX3_hasCell, .selects RX3 yX3_hasCell yX3_hasCell, .initialized RX3, .code yX3_hasCell cX3_hasCell 2 (some .boolean), .fieldLink RX3 25 "IndentRules$Pocket" "size" "I", .methodLink RX5 191 yX3_tell, .instanceMethod yX3_tell, .selects RX3 yX3_tell yX3_tell, .code yX3_tell cX3_tell 3 (some .int), .fieldLink RX3 9 "IndentRules$Pocket" "lineIn" "[I", .fieldLink RX3 15 "IndentRules$Pocket" "placeIn" "[I", .fieldLink RX3 18 "IndentRules$Pocket" "kindIn" "[I"] ++ wsX50 ++ wsX30)
def wsX5_allStrays : List Cond := .code yX5_allStrays cX5_allStrays 3 (some .int) :: ([.fieldLink RX5 12 "IndentRules" "text" "LIndentRules$Text;", .fieldLink RX5 48 "IndentRules$Text" "size" "I", .fieldLink RX5 19 "IndentRules" "nesting" "LIndentRules$Nesting;", .fieldLink RX5 112 "IndentRules$Nesting" "strays" "[I"] ++ wsX50 ++ wsX40 ++ wsX20)
def wsX5_seenLines : List Cond := .code yX5_seenLines cX5_seenLines 3 (some .int) :: ([.fieldLink RX5 12 "IndentRules" "text" "LIndentRules$Text;", .fieldLink RX5 48 "IndentRules$Text" "size" "I", .fieldLink RX5 73 "IndentRules$Text" "lines" "[LIndentRules$Line;", .fieldLink RX5 115 "IndentRules$Line" "seen" "I"] ++ wsX50 ++ wsX40 ++ wsX10)
def wsX5_allTokens : List Cond := .code yX5_allTokens cX5_allTokens 3 (some .int) :: ([.fieldLink RX5 12 "IndentRules" "text" "LIndentRules$Text;", .fieldLink RX5 48 "IndentRules$Text" "size" "I", .fieldLink RX5 73 "IndentRules$Text" "lines" "[LIndentRules$Line;", .fieldLink RX5 103 "IndentRules$Line" "count" "I"] ++ wsX50 ++ wsX40 ++ wsX10)
def wsX5_many_r1 : List Cond := [Cond.fieldLink RX5 12 "IndentRules" "text" "LIndentRules$Text;", Cond.fieldLink RX5 48 "IndentRules$Text" "size" "I", Cond.fieldLink RX5 19 "IndentRules" "nesting" "LIndentRules$Nesting;", Cond.fieldLink RX5 195 "IndentRules$Nesting" "openers" "I", Cond.methodLink RX5 198 yX2_withoutPartner, Cond.instanceMethod yX2_withoutPartner, Cond.selects RX2 yX2_withoutPartner yX2_withoutPartner, Cond.initialized RX2, Cond.code yX2_withoutPartner cX2_withoutPartner 3 (some .int), Cond.fieldLink RX2 46 "IndentRules$Nesting" "openers" "I", Cond.fieldLink RX2 40 "IndentRules$Nesting" "partnerLineOf" "[I", Cond.methodLink RX5 201 yX5_allStrays, Cond.instanceMethod yX5_allStrays, Cond.selects RX5 yX5_allStrays yX5_allStrays, Cond.initialized RX5, Cond.code yX5_allStrays cX5_allStrays 3 (some .int), Cond.fieldLink RX5 112 "IndentRules$Nesting" "strays" "[I", Cond.methodLink RX5 204 yX5_seenLines, Cond.instanceMethod yX5_seenLines, Cond.selects RX5 yX5_seenLines yX5_seenLines, Cond.code yX5_seenLines cX5_seenLines 3 (some .int), Cond.fieldLink RX5 73 "IndentRules$Text" "lines" "[LIndentRules$Line;", Cond.fieldLink RX5 115 "IndentRules$Line" "seen" "I", Cond.methodLink RX5 207 yX5_allTokens]
def wsX5_many_r2 : List Cond := [Cond.instanceMethod yX5_allTokens, Cond.selects RX5 yX5_allTokens yX5_allTokens, Cond.code yX5_allTokens cX5_allTokens 3 (some .int), Cond.fieldLink RX5 103 "IndentRules$Line" "count" "I"]
def wsX5_many : List Cond := .code yX5_many cX5_many 2 (some .int) :: ((wsX5_many_r1 ++ wsX5_many_r2) ++ wsX50 ++ wsX40 ++ wsX20 ++ wsX10)
def wsX6_init_r1 : List Cond := [Cond.methodLink RX6 1 objectInit, Cond.instanceMethod objectInit, Cond.code objectInit ⟨#[0xb1]⟩ 1 none, Cond.arrayClass .int, Cond.fieldLink RX6 7 "IndentRulesModel" "row" "[I", Cond.fieldLink RX6 13 "IndentRulesModel" "seen" "[I", Cond.fieldLink RX6 16 "IndentRulesModel" "style" "[I", Cond.fieldLink RX6 19 "IndentRulesModel" "lineOf" "[I", Cond.fieldLink RX6 22 "IndentRulesModel" "tokenOf" "[I", Cond.fieldLink RX6 25 "IndentRulesModel" "atOf" "[I", Cond.fieldLink RX6 28 "IndentRulesModel" "baseOf" "[I", Cond.fieldLink RX6 31 "IndentRulesModel" "kindOf" "[I", Cond.fieldLink RX6 34 "IndentRulesModel" "partnerOf" "[I", Cond.fieldLink RX6 37 "IndentRulesModel" "columnOf" "[I", Cond.fieldLink RX6 40 "IndentRulesModel" "openOf" "[I", Cond.fieldLink RX6 43 "IndentRulesModel" "strayOf" "[I", Cond.fieldLink RX6 46 "IndentRulesModel" "stack" "[I", Cond.fieldLink RX6 49 "IndentRulesModel" "by" "[I", Cond.fieldLink RX6 52 "IndentRulesModel" "columnWas" "[I", Cond.fieldLink RX6 55 "IndentRulesModel" "guessed" "[I", Cond.fieldLink RX6 58 "IndentRulesModel" "cellsOf" "[I", Cond.fieldLink RX6 61 "IndentRulesModel" "sortOf" "[I", Cond.fieldLink RX6 64 "IndentRulesModel" "keptLine" "[I", Cond.fieldLink RX6 67 "IndentRulesModel" "keptAt" "[I"]
def wsX6_init_r2 : List Cond := [Cond.fieldLink RX6 70 "IndentRulesModel" "keptKind" "[I"]
def wsX6_init : List Cond := .code yX6_init cX6_init 2 none :: ((wsX6_init_r1 ++ wsX6_init_r2) ++ wsX60)
def wsX6_within : List Cond := .code yX6_within cX6_within 3 (some .boolean) :: ([])
def wsX6_isLine : List Cond := .code yX6_isLine cX6_isLine 2 (some .boolean) :: ([.fieldLink RX6 73 "IndentRulesModel" "lines" "I", .methodLink RX6 77 yX6_within, .static yX6_within, .initialized RX6, .code yX6_within cX6_within 3 (some .boolean)] ++ wsX60)
def wsX6_lengthOf : List Cond := .code yX6_lengthOf cX6_lengthOf 3 (some .int) :: ([])
def wsX6_areTokens : List Cond := .code yX6_areTokens cX6_areTokens 2 (some .boolean) :: ([.methodLink RX6 81 yX6_lengthOf, .static yX6_lengthOf, .initialized RX6, .code yX6_lengthOf cX6_lengthOf 3 (some .int)])
def wsX6_tokenAt : List Cond := .code yX6_tokenAt cX6_tokenAt 4 (some .int) :: ([.methodLink RX6 81 yX6_lengthOf, .static yX6_lengthOf, .initialized RX6, .code yX6_lengthOf cX6_lengthOf 3 (some .int)])
def wsX6_widthOf : List Cond := .code yX6_widthOf cX6_widthOf 1 (some .int) :: ([])
def wsX6_top : List Cond := .code yX6_top cX6_top 1 (some .int) :: ([.fieldLink RX6 85 "IndentRulesModel" "deep" "I", .fieldLink RX6 46 "IndentRulesModel" "stack" "[I"] ++ wsX60)
def wsX6_columnFor : List Cond := .code yX6_columnFor cX6_columnFor 6 (some .int) :: ([.fieldLink RX6 31 "IndentRulesModel" "kindOf" "[I", .fieldLink RX6 28 "IndentRulesModel" "baseOf" "[I", .fieldLink RX6 49 "IndentRulesModel" "by" "[I", .fieldLink RX6 25 "IndentRulesModel" "atOf" "[I", .fieldLink RX6 92 "IndentRulesModel" "last" "I", .methodLink RX6 88 yX6_top, .instanceMethod yX6_top, .selects RX6 yX6_top yX6_top, .initialized RX6, .code yX6_top cX6_top 1 (some .int), .fieldLink RX6 85 "IndentRulesModel" "deep" "I", .fieldLink RX6 46 "IndentRulesModel" "stack" "[I"] ++ wsX60)
def wsX6_comes : List Cond := .code yX6_comes cX6_comes 5 none :: ([.fieldLink RX6 19 "IndentRulesModel" "lineOf" "[I", .fieldLink RX6 95 "IndentRulesModel" "openers" "I", .fieldLink RX6 22 "IndentRulesModel" "tokenOf" "[I", .fieldLink RX6 25 "IndentRulesModel" "atOf" "[I", .fieldLink RX6 28 "IndentRulesModel" "baseOf" "[I", .fieldLink RX6 37 "IndentRulesModel" "columnOf" "[I", .fieldLink RX6 31 "IndentRulesModel" "kindOf" "[I", .fieldLink RX6 34 "IndentRulesModel" "partnerOf" "[I", .fieldLink RX6 46 "IndentRulesModel" "stack" "[I", .fieldLink RX6 85 "IndentRulesModel" "deep" "I"] ++ wsX60)
def wsX6_closes : List Cond := .code yX6_closes cX6_closes 4 none :: ([.fieldLink RX6 31 "IndentRulesModel" "kindOf" "[I", .fieldLink RX6 34 "IndentRulesModel" "partnerOf" "[I", .fieldLink RX6 85 "IndentRulesModel" "deep" "I", .fieldLink RX6 43 "IndentRulesModel" "strayOf" "[I", .methodLink RX6 88 yX6_top, .instanceMethod yX6_top, .selects RX6 yX6_top yX6_top, .initialized RX6, .code yX6_top cX6_top 1 (some .int), .fieldLink RX6 46 "IndentRulesModel" "stack" "[I"] ++ wsX60)
def wsX6_goesToken_r1 : List Cond := [Cond.fieldLink RX6 7 "IndentRulesModel" "row" "[I", Cond.fieldLink RX6 49 "IndentRulesModel" "by" "[I", Cond.fieldLink RX6 92 "IndentRulesModel" "last" "I", Cond.methodLink RX6 98 yX6_tokenAt, Cond.static yX6_tokenAt, Cond.initialized RX6, Cond.code yX6_tokenAt cX6_tokenAt 4 (some .int), Cond.methodLink RX6 81 yX6_lengthOf, Cond.static yX6_lengthOf, Cond.code yX6_lengthOf cX6_lengthOf 3 (some .int), Cond.methodLink RX6 102 yX6_comes, Cond.instanceMethod yX6_comes, Cond.selects RX6 yX6_comes yX6_comes, Cond.code yX6_comes cX6_comes 5 none, Cond.fieldLink RX6 19 "IndentRulesModel" "lineOf" "[I", Cond.fieldLink RX6 95 "IndentRulesModel" "openers" "I", Cond.fieldLink RX6 22 "IndentRulesModel" "tokenOf" "[I", Cond.fieldLink RX6 25 "IndentRulesModel" "atOf" "[I", Cond.fieldLink RX6 28 "IndentRulesModel" "baseOf" "[I", Cond.fieldLink RX6 37 "IndentRulesModel" "columnOf" "[I", Cond.fieldLink RX6 31 "IndentRulesModel" "kindOf" "[I", Cond.fieldLink RX6 34 "IndentRulesModel" "partnerOf" "[I", Cond.fieldLink RX6 46 "IndentRulesModel" "stack" "[I", Cond.fieldLink RX6 85 "IndentRulesModel" "deep" "I"]
def wsX6_goesToken_r2 : List Cond := [Cond.methodLink RX6 106 yX6_closes, Cond.instanceMethod yX6_closes, Cond.selects RX6 yX6_closes yX6_closes, Cond.code yX6_closes cX6_closes 4 none, Cond.fieldLink RX6 43 "IndentRulesModel" "strayOf" "[I", Cond.methodLink RX6 88 yX6_top, Cond.instanceMethod yX6_top, Cond.selects RX6 yX6_top yX6_top, Cond.code yX6_top cX6_top 1 (some .int)]
def wsX6_goesToken : List Cond := .code yX6_goesToken cX6_goesToken 6 none :: ((wsX6_goesToken_r1 ++ wsX6_goesToken_r2) ++ wsX60)
def wsX6_goesLine_r1 : List Cond := [Cond.fieldLink RX6 7 "IndentRulesModel" "row" "[I", Cond.fieldLink RX6 40 "IndentRulesModel" "openOf" "[I", Cond.fieldLink RX6 85 "IndentRulesModel" "deep" "I", Cond.fieldLink RX6 43 "IndentRulesModel" "strayOf" "[I", Cond.fieldLink RX6 37 "IndentRulesModel" "columnOf" "[I", Cond.methodLink RX6 81 yX6_lengthOf, Cond.static yX6_lengthOf, Cond.initialized RX6, Cond.code yX6_lengthOf cX6_lengthOf 3 (some .int), Cond.methodLink RX6 98 yX6_tokenAt, Cond.static yX6_tokenAt, Cond.code yX6_tokenAt cX6_tokenAt 4 (some .int), Cond.methodLink RX6 110 yX6_columnFor, Cond.instanceMethod yX6_columnFor, Cond.selects RX6 yX6_columnFor yX6_columnFor, Cond.code yX6_columnFor cX6_columnFor 6 (some .int), Cond.fieldLink RX6 31 "IndentRulesModel" "kindOf" "[I", Cond.fieldLink RX6 28 "IndentRulesModel" "baseOf" "[I", Cond.fieldLink RX6 49 "IndentRulesModel" "by" "[I", Cond.fieldLink RX6 25 "IndentRulesModel" "atOf" "[I", Cond.fieldLink RX6 92 "IndentRulesModel" "last" "I", Cond.methodLink RX6 88 yX6_top, Cond.instanceMethod yX6_top, Cond.selects RX6 yX6_top yX6_top]
def wsX6_goesLine_r2 : List Cond := [Cond.code yX6_top cX6_top 1 (some .int), Cond.fieldLink RX6 46 "IndentRulesModel" "stack" "[I", Cond.methodLink RX6 113 yX6_goesToken, Cond.instanceMethod yX6_goesToken, Cond.selects RX6 yX6_goesToken yX6_goesToken, Cond.code yX6_goesToken cX6_goesToken 6 none, Cond.methodLink RX6 102 yX6_comes, Cond.instanceMethod yX6_comes, Cond.selects RX6 yX6_comes yX6_comes, Cond.code yX6_comes cX6_comes 5 none, Cond.fieldLink RX6 19 "IndentRulesModel" "lineOf" "[I", Cond.fieldLink RX6 95 "IndentRulesModel" "openers" "I", Cond.fieldLink RX6 22 "IndentRulesModel" "tokenOf" "[I", Cond.fieldLink RX6 34 "IndentRulesModel" "partnerOf" "[I", Cond.methodLink RX6 106 yX6_closes, Cond.instanceMethod yX6_closes, Cond.selects RX6 yX6_closes yX6_closes, Cond.code yX6_closes cX6_closes 4 none, Cond.methodLink RX6 116 yX6_widthOf, Cond.static yX6_widthOf, Cond.code yX6_widthOf cX6_widthOf 1 (some .int)]
def wsX6_goesLine : List Cond := .code yX6_goesLine cX6_goesLine 6 none :: ((wsX6_goesLine_r1 ++ wsX6_goesLine_r2) ++ wsX60)
def wsX6_goesBy_r1 : List Cond := [Cond.fieldLink RX6 49 "IndentRulesModel" "by" "[I", Cond.fieldLink RX6 95 "IndentRulesModel" "openers" "I", Cond.fieldLink RX6 85 "IndentRulesModel" "deep" "I", Cond.fieldLink RX6 92 "IndentRulesModel" "last" "I", Cond.fieldLink RX6 73 "IndentRulesModel" "lines" "I", Cond.methodLink RX6 119 yX6_goesLine, Cond.instanceMethod yX6_goesLine, Cond.selects RX6 yX6_goesLine yX6_goesLine, Cond.initialized RX6, Cond.code yX6_goesLine cX6_goesLine 6 none, Cond.fieldLink RX6 7 "IndentRulesModel" "row" "[I", Cond.fieldLink RX6 40 "IndentRulesModel" "openOf" "[I", Cond.fieldLink RX6 43 "IndentRulesModel" "strayOf" "[I", Cond.fieldLink RX6 37 "IndentRulesModel" "columnOf" "[I", Cond.methodLink RX6 81 yX6_lengthOf, Cond.static yX6_lengthOf, Cond.code yX6_lengthOf cX6_lengthOf 3 (some .int), Cond.methodLink RX6 98 yX6_tokenAt, Cond.static yX6_tokenAt, Cond.code yX6_tokenAt cX6_tokenAt 4 (some .int), Cond.methodLink RX6 110 yX6_columnFor, Cond.instanceMethod yX6_columnFor, Cond.selects RX6 yX6_columnFor yX6_columnFor, Cond.code yX6_columnFor cX6_columnFor 6 (some .int)]
def wsX6_goesBy_r2 : List Cond := [Cond.fieldLink RX6 31 "IndentRulesModel" "kindOf" "[I", Cond.fieldLink RX6 28 "IndentRulesModel" "baseOf" "[I", Cond.fieldLink RX6 25 "IndentRulesModel" "atOf" "[I", Cond.methodLink RX6 88 yX6_top, Cond.instanceMethod yX6_top, Cond.selects RX6 yX6_top yX6_top, Cond.code yX6_top cX6_top 1 (some .int), Cond.fieldLink RX6 46 "IndentRulesModel" "stack" "[I", Cond.methodLink RX6 113 yX6_goesToken, Cond.instanceMethod yX6_goesToken, Cond.selects RX6 yX6_goesToken yX6_goesToken, Cond.code yX6_goesToken cX6_goesToken 6 none, Cond.methodLink RX6 102 yX6_comes, Cond.instanceMethod yX6_comes, Cond.selects RX6 yX6_comes yX6_comes, Cond.code yX6_comes cX6_comes 5 none, Cond.fieldLink RX6 19 "IndentRulesModel" "lineOf" "[I", Cond.fieldLink RX6 22 "IndentRulesModel" "tokenOf" "[I", Cond.fieldLink RX6 34 "IndentRulesModel" "partnerOf" "[I", Cond.methodLink RX6 106 yX6_closes, Cond.instanceMethod yX6_closes, Cond.selects RX6 yX6_closes yX6_closes, Cond.code yX6_closes cX6_closes 4 none, Cond.methodLink RX6 116 yX6_widthOf]
def wsX6_goesBy_r3 : List Cond := [Cond.static yX6_widthOf, Cond.code yX6_widthOf cX6_widthOf 1 (some .int)]
def wsX6_goesBy : List Cond := .code yX6_goesBy cX6_goesBy 6 none :: ((wsX6_goesBy_r1 ++ (wsX6_goesBy_r2 ++ wsX6_goesBy_r3)) ++ wsX60)
def wsX6_goes_r1 : List Cond := [Cond.fieldLink RX6 16 "IndentRulesModel" "style" "[I", Cond.methodLink RX6 123 yX6_goesBy, Cond.instanceMethod yX6_goesBy, Cond.selects RX6 yX6_goesBy yX6_goesBy, Cond.initialized RX6, Cond.code yX6_goesBy cX6_goesBy 6 none, Cond.fieldLink RX6 49 "IndentRulesModel" "by" "[I", Cond.fieldLink RX6 95 "IndentRulesModel" "openers" "I", Cond.fieldLink RX6 85 "IndentRulesModel" "deep" "I", Cond.fieldLink RX6 92 "IndentRulesModel" "last" "I", Cond.fieldLink RX6 73 "IndentRulesModel" "lines" "I", Cond.methodLink RX6 119 yX6_goesLine, Cond.instanceMethod yX6_goesLine, Cond.selects RX6 yX6_goesLine yX6_goesLine, Cond.code yX6_goesLine cX6_goesLine 6 none, Cond.fieldLink RX6 7 "IndentRulesModel" "row" "[I", Cond.fieldLink RX6 40 "IndentRulesModel" "openOf" "[I", Cond.fieldLink RX6 43 "IndentRulesModel" "strayOf" "[I", Cond.fieldLink RX6 37 "IndentRulesModel" "columnOf" "[I", Cond.methodLink RX6 81 yX6_lengthOf, Cond.static yX6_lengthOf, Cond.code yX6_lengthOf cX6_lengthOf 3 (some .int), Cond.methodLink RX6 98 yX6_tokenAt, Cond.static yX6_tokenAt]
def wsX6_goes_r2 : List Cond := [Cond.code yX6_tokenAt cX6_tokenAt 4 (some .int), Cond.methodLink RX6 110 yX6_columnFor, Cond.instanceMethod yX6_columnFor, Cond.selects RX6 yX6_columnFor yX6_columnFor, Cond.code yX6_columnFor cX6_columnFor 6 (some .int), Cond.fieldLink RX6 31 "IndentRulesModel" "kindOf" "[I", Cond.fieldLink RX6 28 "IndentRulesModel" "baseOf" "[I", Cond.fieldLink RX6 25 "IndentRulesModel" "atOf" "[I", Cond.methodLink RX6 88 yX6_top, Cond.instanceMethod yX6_top, Cond.selects RX6 yX6_top yX6_top, Cond.code yX6_top cX6_top 1 (some .int), Cond.fieldLink RX6 46 "IndentRulesModel" "stack" "[I", Cond.methodLink RX6 113 yX6_goesToken, Cond.instanceMethod yX6_goesToken, Cond.selects RX6 yX6_goesToken yX6_goesToken, Cond.code yX6_goesToken cX6_goesToken 6 none, Cond.methodLink RX6 102 yX6_comes, Cond.instanceMethod yX6_comes, Cond.selects RX6 yX6_comes yX6_comes, Cond.code yX6_comes cX6_comes 5 none, Cond.fieldLink RX6 19 "IndentRulesModel" "lineOf" "[I", Cond.fieldLink RX6 22 "IndentRulesModel" "tokenOf" "[I", Cond.fieldLink RX6 34 "IndentRulesModel" "partnerOf" "[I"]
def wsX6_goes_r3 : List Cond := [Cond.methodLink RX6 106 yX6_closes, Cond.instanceMethod yX6_closes, Cond.selects RX6 yX6_closes yX6_closes, Cond.code yX6_closes cX6_closes 4 none, Cond.methodLink RX6 116 yX6_widthOf, Cond.static yX6_widthOf, Cond.code yX6_widthOf cX6_widthOf 1 (some .int)]
def wsX6_goes : List Cond := .code yX6_goes cX6_goes 1 none :: ((wsX6_goes_r1 ++ (wsX6_goes_r2 ++ wsX6_goes_r3)) ++ wsX60)
def wsX6_notes_r1 : List Cond := [Cond.fieldLink RX6 73 "IndentRulesModel" "lines" "I", Cond.fieldLink RX6 52 "IndentRulesModel" "columnWas" "[I", Cond.fieldLink RX6 37 "IndentRulesModel" "columnOf" "[I", Cond.methodLink RX6 126 yX6_goes, Cond.instanceMethod yX6_goes, Cond.selects RX6 yX6_goes yX6_goes, Cond.initialized RX6, Cond.code yX6_goes cX6_goes 1 none, Cond.fieldLink RX6 16 "IndentRulesModel" "style" "[I", Cond.methodLink RX6 123 yX6_goesBy, Cond.instanceMethod yX6_goesBy, Cond.selects RX6 yX6_goesBy yX6_goesBy, Cond.code yX6_goesBy cX6_goesBy 6 none, Cond.fieldLink RX6 49 "IndentRulesModel" "by" "[I", Cond.fieldLink RX6 95 "IndentRulesModel" "openers" "I", Cond.fieldLink RX6 85 "IndentRulesModel" "deep" "I", Cond.fieldLink RX6 92 "IndentRulesModel" "last" "I", Cond.methodLink RX6 119 yX6_goesLine, Cond.instanceMethod yX6_goesLine, Cond.selects RX6 yX6_goesLine yX6_goesLine, Cond.code yX6_goesLine cX6_goesLine 6 none, Cond.fieldLink RX6 7 "IndentRulesModel" "row" "[I", Cond.fieldLink RX6 40 "IndentRulesModel" "openOf" "[I", Cond.fieldLink RX6 43 "IndentRulesModel" "strayOf" "[I"]
def wsX6_notes_r2 : List Cond := [Cond.methodLink RX6 81 yX6_lengthOf, Cond.static yX6_lengthOf, Cond.code yX6_lengthOf cX6_lengthOf 3 (some .int), Cond.methodLink RX6 98 yX6_tokenAt, Cond.static yX6_tokenAt, Cond.code yX6_tokenAt cX6_tokenAt 4 (some .int), Cond.methodLink RX6 110 yX6_columnFor, Cond.instanceMethod yX6_columnFor, Cond.selects RX6 yX6_columnFor yX6_columnFor, Cond.code yX6_columnFor cX6_columnFor 6 (some .int), Cond.fieldLink RX6 31 "IndentRulesModel" "kindOf" "[I", Cond.fieldLink RX6 28 "IndentRulesModel" "baseOf" "[I", Cond.fieldLink RX6 25 "IndentRulesModel" "atOf" "[I", Cond.methodLink RX6 88 yX6_top, Cond.instanceMethod yX6_top, Cond.selects RX6 yX6_top yX6_top, Cond.code yX6_top cX6_top 1 (some .int), Cond.fieldLink RX6 46 "IndentRulesModel" "stack" "[I", Cond.methodLink RX6 113 yX6_goesToken, Cond.instanceMethod yX6_goesToken, Cond.selects RX6 yX6_goesToken yX6_goesToken, Cond.code yX6_goesToken cX6_goesToken 6 none, Cond.methodLink RX6 102 yX6_comes, Cond.instanceMethod yX6_comes]
def wsX6_notes_r3 : List Cond := [Cond.selects RX6 yX6_comes yX6_comes, Cond.code yX6_comes cX6_comes 5 none, Cond.fieldLink RX6 19 "IndentRulesModel" "lineOf" "[I", Cond.fieldLink RX6 22 "IndentRulesModel" "tokenOf" "[I", Cond.fieldLink RX6 34 "IndentRulesModel" "partnerOf" "[I", Cond.methodLink RX6 106 yX6_closes, Cond.instanceMethod yX6_closes, Cond.selects RX6 yX6_closes yX6_closes, Cond.code yX6_closes cX6_closes 4 none, Cond.methodLink RX6 116 yX6_widthOf, Cond.static yX6_widthOf, Cond.code yX6_widthOf cX6_widthOf 1 (some .int)]
def wsX6_notes : List Cond := .code yX6_notes cX6_notes 2 none :: ((wsX6_notes_r1 ++ (wsX6_notes_r2 ++ wsX6_notes_r3)) ++ wsX60)
def wsX6_moved_r1 : List Cond := [Cond.fieldLink RX6 73 "IndentRulesModel" "lines" "I", Cond.fieldLink RX6 37 "IndentRulesModel" "columnOf" "[I", Cond.fieldLink RX6 52 "IndentRulesModel" "columnWas" "[I", Cond.methodLink RX6 126 yX6_goes, Cond.instanceMethod yX6_goes, Cond.selects RX6 yX6_goes yX6_goes, Cond.initialized RX6, Cond.code yX6_goes cX6_goes 1 none, Cond.fieldLink RX6 16 "IndentRulesModel" "style" "[I", Cond.methodLink RX6 123 yX6_goesBy, Cond.instanceMethod yX6_goesBy, Cond.selects RX6 yX6_goesBy yX6_goesBy, Cond.code yX6_goesBy cX6_goesBy 6 none, Cond.fieldLink RX6 49 "IndentRulesModel" "by" "[I", Cond.fieldLink RX6 95 "IndentRulesModel" "openers" "I", Cond.fieldLink RX6 85 "IndentRulesModel" "deep" "I", Cond.fieldLink RX6 92 "IndentRulesModel" "last" "I", Cond.methodLink RX6 119 yX6_goesLine, Cond.instanceMethod yX6_goesLine, Cond.selects RX6 yX6_goesLine yX6_goesLine, Cond.code yX6_goesLine cX6_goesLine 6 none, Cond.fieldLink RX6 7 "IndentRulesModel" "row" "[I", Cond.fieldLink RX6 40 "IndentRulesModel" "openOf" "[I", Cond.fieldLink RX6 43 "IndentRulesModel" "strayOf" "[I"]
def wsX6_moved_r2 : List Cond := [Cond.methodLink RX6 81 yX6_lengthOf, Cond.static yX6_lengthOf, Cond.code yX6_lengthOf cX6_lengthOf 3 (some .int), Cond.methodLink RX6 98 yX6_tokenAt, Cond.static yX6_tokenAt, Cond.code yX6_tokenAt cX6_tokenAt 4 (some .int), Cond.methodLink RX6 110 yX6_columnFor, Cond.instanceMethod yX6_columnFor, Cond.selects RX6 yX6_columnFor yX6_columnFor, Cond.code yX6_columnFor cX6_columnFor 6 (some .int), Cond.fieldLink RX6 31 "IndentRulesModel" "kindOf" "[I", Cond.fieldLink RX6 28 "IndentRulesModel" "baseOf" "[I", Cond.fieldLink RX6 25 "IndentRulesModel" "atOf" "[I", Cond.methodLink RX6 88 yX6_top, Cond.instanceMethod yX6_top, Cond.selects RX6 yX6_top yX6_top, Cond.code yX6_top cX6_top 1 (some .int), Cond.fieldLink RX6 46 "IndentRulesModel" "stack" "[I", Cond.methodLink RX6 113 yX6_goesToken, Cond.instanceMethod yX6_goesToken, Cond.selects RX6 yX6_goesToken yX6_goesToken, Cond.code yX6_goesToken cX6_goesToken 6 none, Cond.methodLink RX6 102 yX6_comes, Cond.instanceMethod yX6_comes]
def wsX6_moved_r3 : List Cond := [Cond.selects RX6 yX6_comes yX6_comes, Cond.code yX6_comes cX6_comes 5 none, Cond.fieldLink RX6 19 "IndentRulesModel" "lineOf" "[I", Cond.fieldLink RX6 22 "IndentRulesModel" "tokenOf" "[I", Cond.fieldLink RX6 34 "IndentRulesModel" "partnerOf" "[I", Cond.methodLink RX6 106 yX6_closes, Cond.instanceMethod yX6_closes, Cond.selects RX6 yX6_closes yX6_closes, Cond.code yX6_closes cX6_closes 4 none, Cond.methodLink RX6 116 yX6_widthOf, Cond.static yX6_widthOf, Cond.code yX6_widthOf cX6_widthOf 1 (some .int)]
def wsX6_moved : List Cond := .code yX6_moved cX6_moved 4 (some .int) :: ((wsX6_moved_r1 ++ (wsX6_moved_r2 ++ wsX6_moved_r3)) ++ wsX60)
def wsX6_put_r1 : List Cond := [Cond.fieldLink RX6 73 "IndentRulesModel" "lines" "I", Cond.fieldLink RX6 7 "IndentRulesModel" "row" "[I", Cond.fieldLink RX6 13 "IndentRulesModel" "seen" "[I", Cond.fieldLink RX6 52 "IndentRulesModel" "columnWas" "[I", Cond.methodLink RX6 77 yX6_within, Cond.static yX6_within, Cond.initialized RX6, Cond.code yX6_within cX6_within 3 (some .boolean), Cond.methodLink RX6 129 yX6_areTokens, Cond.static yX6_areTokens, Cond.code yX6_areTokens cX6_areTokens 2 (some .boolean), Cond.methodLink RX6 81 yX6_lengthOf, Cond.static yX6_lengthOf, Cond.code yX6_lengthOf cX6_lengthOf 3 (some .int), Cond.methodLink RX6 133 yX6_notes, Cond.instanceMethod yX6_notes, Cond.selects RX6 yX6_notes yX6_notes, Cond.code yX6_notes cX6_notes 2 none, Cond.fieldLink RX6 37 "IndentRulesModel" "columnOf" "[I", Cond.methodLink RX6 126 yX6_goes, Cond.instanceMethod yX6_goes, Cond.selects RX6 yX6_goes yX6_goes, Cond.code yX6_goes cX6_goes 1 none, Cond.fieldLink RX6 16 "IndentRulesModel" "style" "[I"]
def wsX6_put_r2 : List Cond := [Cond.methodLink RX6 123 yX6_goesBy, Cond.instanceMethod yX6_goesBy, Cond.selects RX6 yX6_goesBy yX6_goesBy, Cond.code yX6_goesBy cX6_goesBy 6 none, Cond.fieldLink RX6 49 "IndentRulesModel" "by" "[I", Cond.fieldLink RX6 95 "IndentRulesModel" "openers" "I", Cond.fieldLink RX6 85 "IndentRulesModel" "deep" "I", Cond.fieldLink RX6 92 "IndentRulesModel" "last" "I", Cond.methodLink RX6 119 yX6_goesLine, Cond.instanceMethod yX6_goesLine, Cond.selects RX6 yX6_goesLine yX6_goesLine, Cond.code yX6_goesLine cX6_goesLine 6 none, Cond.fieldLink RX6 40 "IndentRulesModel" "openOf" "[I", Cond.fieldLink RX6 43 "IndentRulesModel" "strayOf" "[I", Cond.methodLink RX6 98 yX6_tokenAt, Cond.static yX6_tokenAt, Cond.code yX6_tokenAt cX6_tokenAt 4 (some .int), Cond.methodLink RX6 110 yX6_columnFor, Cond.instanceMethod yX6_columnFor, Cond.selects RX6 yX6_columnFor yX6_columnFor, Cond.code yX6_columnFor cX6_columnFor 6 (some .int), Cond.fieldLink RX6 31 "IndentRulesModel" "kindOf" "[I", Cond.fieldLink RX6 28 "IndentRulesModel" "baseOf" "[I", Cond.fieldLink RX6 25 "IndentRulesModel" "atOf" "[I"]
def wsX6_put_r3 : List Cond := [Cond.methodLink RX6 88 yX6_top, Cond.instanceMethod yX6_top, Cond.selects RX6 yX6_top yX6_top, Cond.code yX6_top cX6_top 1 (some .int), Cond.fieldLink RX6 46 "IndentRulesModel" "stack" "[I", Cond.methodLink RX6 113 yX6_goesToken, Cond.instanceMethod yX6_goesToken, Cond.selects RX6 yX6_goesToken yX6_goesToken, Cond.code yX6_goesToken cX6_goesToken 6 none, Cond.methodLink RX6 102 yX6_comes, Cond.instanceMethod yX6_comes, Cond.selects RX6 yX6_comes yX6_comes, Cond.code yX6_comes cX6_comes 5 none, Cond.fieldLink RX6 19 "IndentRulesModel" "lineOf" "[I", Cond.fieldLink RX6 22 "IndentRulesModel" "tokenOf" "[I", Cond.fieldLink RX6 34 "IndentRulesModel" "partnerOf" "[I", Cond.methodLink RX6 106 yX6_closes, Cond.instanceMethod yX6_closes, Cond.selects RX6 yX6_closes yX6_closes, Cond.code yX6_closes cX6_closes 4 none, Cond.methodLink RX6 116 yX6_widthOf, Cond.static yX6_widthOf, Cond.code yX6_widthOf cX6_widthOf 1 (some .int), Cond.methodLink RX6 136 yX6_moved]
def wsX6_put_r4 : List Cond := [Cond.instanceMethod yX6_moved, Cond.selects RX6 yX6_moved yX6_moved, Cond.code yX6_moved cX6_moved 4 (some .int)]
def wsX6_put : List Cond := .code yX6_put cX6_put 4 (some .int) :: ((wsX6_put_r1 ++ (wsX6_put_r2 ++ (wsX6_put_r3 ++ wsX6_put_r4))) ++ wsX60)
def wsX6_change_r1 : List Cond := [Cond.fieldLink RX6 7 "IndentRulesModel" "row" "[I", Cond.methodLink RX6 139 yX6_isLine, Cond.instanceMethod yX6_isLine, Cond.selects RX6 yX6_isLine yX6_isLine, Cond.initialized RX6, Cond.code yX6_isLine cX6_isLine 2 (some .boolean), Cond.fieldLink RX6 73 "IndentRulesModel" "lines" "I", Cond.methodLink RX6 77 yX6_within, Cond.static yX6_within, Cond.code yX6_within cX6_within 3 (some .boolean), Cond.methodLink RX6 129 yX6_areTokens, Cond.static yX6_areTokens, Cond.code yX6_areTokens cX6_areTokens 2 (some .boolean), Cond.methodLink RX6 81 yX6_lengthOf, Cond.static yX6_lengthOf, Cond.code yX6_lengthOf cX6_lengthOf 3 (some .int), Cond.methodLink RX6 133 yX6_notes, Cond.instanceMethod yX6_notes, Cond.selects RX6 yX6_notes yX6_notes, Cond.code yX6_notes cX6_notes 2 none, Cond.fieldLink RX6 52 "IndentRulesModel" "columnWas" "[I", Cond.fieldLink RX6 37 "IndentRulesModel" "columnOf" "[I", Cond.methodLink RX6 126 yX6_goes, Cond.instanceMethod yX6_goes]
def wsX6_change_r2 : List Cond := [Cond.selects RX6 yX6_goes yX6_goes, Cond.code yX6_goes cX6_goes 1 none, Cond.fieldLink RX6 16 "IndentRulesModel" "style" "[I", Cond.methodLink RX6 123 yX6_goesBy, Cond.instanceMethod yX6_goesBy, Cond.selects RX6 yX6_goesBy yX6_goesBy, Cond.code yX6_goesBy cX6_goesBy 6 none, Cond.fieldLink RX6 49 "IndentRulesModel" "by" "[I", Cond.fieldLink RX6 95 "IndentRulesModel" "openers" "I", Cond.fieldLink RX6 85 "IndentRulesModel" "deep" "I", Cond.fieldLink RX6 92 "IndentRulesModel" "last" "I", Cond.methodLink RX6 119 yX6_goesLine, Cond.instanceMethod yX6_goesLine, Cond.selects RX6 yX6_goesLine yX6_goesLine, Cond.code yX6_goesLine cX6_goesLine 6 none, Cond.fieldLink RX6 40 "IndentRulesModel" "openOf" "[I", Cond.fieldLink RX6 43 "IndentRulesModel" "strayOf" "[I", Cond.methodLink RX6 98 yX6_tokenAt, Cond.static yX6_tokenAt, Cond.code yX6_tokenAt cX6_tokenAt 4 (some .int), Cond.methodLink RX6 110 yX6_columnFor, Cond.instanceMethod yX6_columnFor, Cond.selects RX6 yX6_columnFor yX6_columnFor, Cond.code yX6_columnFor cX6_columnFor 6 (some .int)]
def wsX6_change_r3 : List Cond := [Cond.fieldLink RX6 31 "IndentRulesModel" "kindOf" "[I", Cond.fieldLink RX6 28 "IndentRulesModel" "baseOf" "[I", Cond.fieldLink RX6 25 "IndentRulesModel" "atOf" "[I", Cond.methodLink RX6 88 yX6_top, Cond.instanceMethod yX6_top, Cond.selects RX6 yX6_top yX6_top, Cond.code yX6_top cX6_top 1 (some .int), Cond.fieldLink RX6 46 "IndentRulesModel" "stack" "[I", Cond.methodLink RX6 113 yX6_goesToken, Cond.instanceMethod yX6_goesToken, Cond.selects RX6 yX6_goesToken yX6_goesToken, Cond.code yX6_goesToken cX6_goesToken 6 none, Cond.methodLink RX6 102 yX6_comes, Cond.instanceMethod yX6_comes, Cond.selects RX6 yX6_comes yX6_comes, Cond.code yX6_comes cX6_comes 5 none, Cond.fieldLink RX6 19 "IndentRulesModel" "lineOf" "[I", Cond.fieldLink RX6 22 "IndentRulesModel" "tokenOf" "[I", Cond.fieldLink RX6 34 "IndentRulesModel" "partnerOf" "[I", Cond.methodLink RX6 106 yX6_closes, Cond.instanceMethod yX6_closes, Cond.selects RX6 yX6_closes yX6_closes, Cond.code yX6_closes cX6_closes 4 none, Cond.methodLink RX6 116 yX6_widthOf]
def wsX6_change_r4 : List Cond := [Cond.static yX6_widthOf, Cond.code yX6_widthOf cX6_widthOf 1 (some .int), Cond.methodLink RX6 136 yX6_moved, Cond.instanceMethod yX6_moved, Cond.selects RX6 yX6_moved yX6_moved, Cond.code yX6_moved cX6_moved 4 (some .int)]
def wsX6_change : List Cond := .code yX6_change cX6_change 3 (some .int) :: ((wsX6_change_r1 ++ (wsX6_change_r2 ++ (wsX6_change_r3 ++ wsX6_change_r4))) ++ wsX60)
def wsX6_take_r1 : List Cond := [Cond.fieldLink RX6 73 "IndentRulesModel" "lines" "I", Cond.fieldLink RX6 7 "IndentRulesModel" "row" "[I", Cond.fieldLink RX6 13 "IndentRulesModel" "seen" "[I", Cond.fieldLink RX6 52 "IndentRulesModel" "columnWas" "[I", Cond.methodLink RX6 139 yX6_isLine, Cond.instanceMethod yX6_isLine, Cond.selects RX6 yX6_isLine yX6_isLine, Cond.initialized RX6, Cond.code yX6_isLine cX6_isLine 2 (some .boolean), Cond.methodLink RX6 77 yX6_within, Cond.static yX6_within, Cond.code yX6_within cX6_within 3 (some .boolean), Cond.methodLink RX6 133 yX6_notes, Cond.instanceMethod yX6_notes, Cond.selects RX6 yX6_notes yX6_notes, Cond.code yX6_notes cX6_notes 2 none, Cond.fieldLink RX6 37 "IndentRulesModel" "columnOf" "[I", Cond.methodLink RX6 126 yX6_goes, Cond.instanceMethod yX6_goes, Cond.selects RX6 yX6_goes yX6_goes, Cond.code yX6_goes cX6_goes 1 none, Cond.fieldLink RX6 16 "IndentRulesModel" "style" "[I", Cond.methodLink RX6 123 yX6_goesBy, Cond.instanceMethod yX6_goesBy]
def wsX6_take_r2 : List Cond := [Cond.selects RX6 yX6_goesBy yX6_goesBy, Cond.code yX6_goesBy cX6_goesBy 6 none, Cond.fieldLink RX6 49 "IndentRulesModel" "by" "[I", Cond.fieldLink RX6 95 "IndentRulesModel" "openers" "I", Cond.fieldLink RX6 85 "IndentRulesModel" "deep" "I", Cond.fieldLink RX6 92 "IndentRulesModel" "last" "I", Cond.methodLink RX6 119 yX6_goesLine, Cond.instanceMethod yX6_goesLine, Cond.selects RX6 yX6_goesLine yX6_goesLine, Cond.code yX6_goesLine cX6_goesLine 6 none, Cond.fieldLink RX6 40 "IndentRulesModel" "openOf" "[I", Cond.fieldLink RX6 43 "IndentRulesModel" "strayOf" "[I", Cond.methodLink RX6 81 yX6_lengthOf, Cond.static yX6_lengthOf, Cond.code yX6_lengthOf cX6_lengthOf 3 (some .int), Cond.methodLink RX6 98 yX6_tokenAt, Cond.static yX6_tokenAt, Cond.code yX6_tokenAt cX6_tokenAt 4 (some .int), Cond.methodLink RX6 110 yX6_columnFor, Cond.instanceMethod yX6_columnFor, Cond.selects RX6 yX6_columnFor yX6_columnFor, Cond.code yX6_columnFor cX6_columnFor 6 (some .int), Cond.fieldLink RX6 31 "IndentRulesModel" "kindOf" "[I", Cond.fieldLink RX6 28 "IndentRulesModel" "baseOf" "[I"]
def wsX6_take_r3 : List Cond := [Cond.fieldLink RX6 25 "IndentRulesModel" "atOf" "[I", Cond.methodLink RX6 88 yX6_top, Cond.instanceMethod yX6_top, Cond.selects RX6 yX6_top yX6_top, Cond.code yX6_top cX6_top 1 (some .int), Cond.fieldLink RX6 46 "IndentRulesModel" "stack" "[I", Cond.methodLink RX6 113 yX6_goesToken, Cond.instanceMethod yX6_goesToken, Cond.selects RX6 yX6_goesToken yX6_goesToken, Cond.code yX6_goesToken cX6_goesToken 6 none, Cond.methodLink RX6 102 yX6_comes, Cond.instanceMethod yX6_comes, Cond.selects RX6 yX6_comes yX6_comes, Cond.code yX6_comes cX6_comes 5 none, Cond.fieldLink RX6 19 "IndentRulesModel" "lineOf" "[I", Cond.fieldLink RX6 22 "IndentRulesModel" "tokenOf" "[I", Cond.fieldLink RX6 34 "IndentRulesModel" "partnerOf" "[I", Cond.methodLink RX6 106 yX6_closes, Cond.instanceMethod yX6_closes, Cond.selects RX6 yX6_closes yX6_closes, Cond.code yX6_closes cX6_closes 4 none, Cond.methodLink RX6 116 yX6_widthOf, Cond.static yX6_widthOf, Cond.code yX6_widthOf cX6_widthOf 1 (some .int)]
def wsX6_take_r4 : List Cond := [Cond.methodLink RX6 136 yX6_moved, Cond.instanceMethod yX6_moved, Cond.selects RX6 yX6_moved yX6_moved, Cond.code yX6_moved cX6_moved 4 (some .int)]
def wsX6_take : List Cond := .code yX6_take cX6_take 3 (some .int) :: ((wsX6_take_r1 ++ (wsX6_take_r2 ++ (wsX6_take_r3 ++ wsX6_take_r4))) ++ wsX60)
def wsX6_maySet : List Cond := .code yX6_maySet cX6_maySet 2 (some .boolean) :: ([.methodLink RX6 77 yX6_within, .static yX6_within, .initialized RX6, .code yX6_within cX6_within 3 (some .boolean)])
def wsX6_style : List Cond := .code yX6_style cX6_style 4 (some .int) :: ([.fieldLink RX6 16 "IndentRulesModel" "style" "[I", .methodLink RX6 77 yX6_within, .static yX6_within, .initialized RX6, .code yX6_within cX6_within 3 (some .boolean), .methodLink RX6 142 yX6_maySet, .static yX6_maySet, .code yX6_maySet cX6_maySet 2 (some .boolean)] ++ wsX60)
def wsX6_widthsOf : List Cond := .code yX6_widthsOf cX6_widthsOf 4 (some .int) :: ([.methodLink RX6 81 yX6_lengthOf, .static yX6_lengthOf, .initialized RX6, .code yX6_lengthOf cX6_lengthOf 3 (some .int), .methodLink RX6 98 yX6_tokenAt, .static yX6_tokenAt, .code yX6_tokenAt cX6_tokenAt 4 (some .int), .methodLink RX6 116 yX6_widthOf, .static yX6_widthOf, .code yX6_widthOf cX6_widthOf 1 (some .int)])
def wsX6_ofLine_r1 : List Cond := [Cond.fieldLink RX6 7 "IndentRulesModel" "row" "[I", Cond.fieldLink RX6 37 "IndentRulesModel" "columnOf" "[I", Cond.fieldLink RX6 40 "IndentRulesModel" "openOf" "[I", Cond.fieldLink RX6 43 "IndentRulesModel" "strayOf" "[I", Cond.fieldLink RX6 13 "IndentRulesModel" "seen" "[I", Cond.methodLink RX6 139 yX6_isLine, Cond.instanceMethod yX6_isLine, Cond.selects RX6 yX6_isLine yX6_isLine, Cond.initialized RX6, Cond.code yX6_isLine cX6_isLine 2 (some .boolean), Cond.fieldLink RX6 73 "IndentRulesModel" "lines" "I", Cond.methodLink RX6 77 yX6_within, Cond.static yX6_within, Cond.code yX6_within cX6_within 3 (some .boolean), Cond.methodLink RX6 126 yX6_goes, Cond.instanceMethod yX6_goes, Cond.selects RX6 yX6_goes yX6_goes, Cond.code yX6_goes cX6_goes 1 none, Cond.fieldLink RX6 16 "IndentRulesModel" "style" "[I", Cond.methodLink RX6 123 yX6_goesBy, Cond.instanceMethod yX6_goesBy, Cond.selects RX6 yX6_goesBy yX6_goesBy, Cond.code yX6_goesBy cX6_goesBy 6 none, Cond.fieldLink RX6 49 "IndentRulesModel" "by" "[I"]
def wsX6_ofLine_r2 : List Cond := [Cond.fieldLink RX6 95 "IndentRulesModel" "openers" "I", Cond.fieldLink RX6 85 "IndentRulesModel" "deep" "I", Cond.fieldLink RX6 92 "IndentRulesModel" "last" "I", Cond.methodLink RX6 119 yX6_goesLine, Cond.instanceMethod yX6_goesLine, Cond.selects RX6 yX6_goesLine yX6_goesLine, Cond.code yX6_goesLine cX6_goesLine 6 none, Cond.methodLink RX6 81 yX6_lengthOf, Cond.static yX6_lengthOf, Cond.code yX6_lengthOf cX6_lengthOf 3 (some .int), Cond.methodLink RX6 98 yX6_tokenAt, Cond.static yX6_tokenAt, Cond.code yX6_tokenAt cX6_tokenAt 4 (some .int), Cond.methodLink RX6 110 yX6_columnFor, Cond.instanceMethod yX6_columnFor, Cond.selects RX6 yX6_columnFor yX6_columnFor, Cond.code yX6_columnFor cX6_columnFor 6 (some .int), Cond.fieldLink RX6 31 "IndentRulesModel" "kindOf" "[I", Cond.fieldLink RX6 28 "IndentRulesModel" "baseOf" "[I", Cond.fieldLink RX6 25 "IndentRulesModel" "atOf" "[I", Cond.methodLink RX6 88 yX6_top, Cond.instanceMethod yX6_top, Cond.selects RX6 yX6_top yX6_top, Cond.code yX6_top cX6_top 1 (some .int)]
def wsX6_ofLine_r3 : List Cond := [Cond.fieldLink RX6 46 "IndentRulesModel" "stack" "[I", Cond.methodLink RX6 113 yX6_goesToken, Cond.instanceMethod yX6_goesToken, Cond.selects RX6 yX6_goesToken yX6_goesToken, Cond.code yX6_goesToken cX6_goesToken 6 none, Cond.methodLink RX6 102 yX6_comes, Cond.instanceMethod yX6_comes, Cond.selects RX6 yX6_comes yX6_comes, Cond.code yX6_comes cX6_comes 5 none, Cond.fieldLink RX6 19 "IndentRulesModel" "lineOf" "[I", Cond.fieldLink RX6 22 "IndentRulesModel" "tokenOf" "[I", Cond.fieldLink RX6 34 "IndentRulesModel" "partnerOf" "[I", Cond.methodLink RX6 106 yX6_closes, Cond.instanceMethod yX6_closes, Cond.selects RX6 yX6_closes yX6_closes, Cond.code yX6_closes cX6_closes 4 none, Cond.methodLink RX6 116 yX6_widthOf, Cond.static yX6_widthOf, Cond.code yX6_widthOf cX6_widthOf 1 (some .int), Cond.methodLink RX6 146 yX6_widthsOf, Cond.instanceMethod yX6_widthsOf, Cond.selects RX6 yX6_widthsOf yX6_widthsOf, Cond.code yX6_widthsOf cX6_widthsOf 4 (some .int)]
def wsX6_ofLine : List Cond := .code yX6_ofLine cX6_ofLine 3 (some .int) :: ((wsX6_ofLine_r1 ++ (wsX6_ofLine_r2 ++ wsX6_ofLine_r3)) ++ wsX60)
def wsX6_opener_r1 : List Cond := [Cond.fieldLink RX6 95 "IndentRulesModel" "openers" "I", Cond.fieldLink RX6 19 "IndentRulesModel" "lineOf" "[I", Cond.fieldLink RX6 22 "IndentRulesModel" "tokenOf" "[I", Cond.fieldLink RX6 25 "IndentRulesModel" "atOf" "[I", Cond.fieldLink RX6 28 "IndentRulesModel" "baseOf" "[I", Cond.fieldLink RX6 31 "IndentRulesModel" "kindOf" "[I", Cond.fieldLink RX6 34 "IndentRulesModel" "partnerOf" "[I", Cond.methodLink RX6 126 yX6_goes, Cond.instanceMethod yX6_goes, Cond.selects RX6 yX6_goes yX6_goes, Cond.initialized RX6, Cond.code yX6_goes cX6_goes 1 none, Cond.fieldLink RX6 16 "IndentRulesModel" "style" "[I", Cond.methodLink RX6 123 yX6_goesBy, Cond.instanceMethod yX6_goesBy, Cond.selects RX6 yX6_goesBy yX6_goesBy, Cond.code yX6_goesBy cX6_goesBy 6 none, Cond.fieldLink RX6 49 "IndentRulesModel" "by" "[I", Cond.fieldLink RX6 85 "IndentRulesModel" "deep" "I", Cond.fieldLink RX6 92 "IndentRulesModel" "last" "I", Cond.fieldLink RX6 73 "IndentRulesModel" "lines" "I", Cond.methodLink RX6 119 yX6_goesLine, Cond.instanceMethod yX6_goesLine, Cond.selects RX6 yX6_goesLine yX6_goesLine]
def wsX6_opener_r2 : List Cond := [Cond.code yX6_goesLine cX6_goesLine 6 none, Cond.fieldLink RX6 7 "IndentRulesModel" "row" "[I", Cond.fieldLink RX6 40 "IndentRulesModel" "openOf" "[I", Cond.fieldLink RX6 43 "IndentRulesModel" "strayOf" "[I", Cond.fieldLink RX6 37 "IndentRulesModel" "columnOf" "[I", Cond.methodLink RX6 81 yX6_lengthOf, Cond.static yX6_lengthOf, Cond.code yX6_lengthOf cX6_lengthOf 3 (some .int), Cond.methodLink RX6 98 yX6_tokenAt, Cond.static yX6_tokenAt, Cond.code yX6_tokenAt cX6_tokenAt 4 (some .int), Cond.methodLink RX6 110 yX6_columnFor, Cond.instanceMethod yX6_columnFor, Cond.selects RX6 yX6_columnFor yX6_columnFor, Cond.code yX6_columnFor cX6_columnFor 6 (some .int), Cond.methodLink RX6 88 yX6_top, Cond.instanceMethod yX6_top, Cond.selects RX6 yX6_top yX6_top, Cond.code yX6_top cX6_top 1 (some .int), Cond.fieldLink RX6 46 "IndentRulesModel" "stack" "[I", Cond.methodLink RX6 113 yX6_goesToken, Cond.instanceMethod yX6_goesToken, Cond.selects RX6 yX6_goesToken yX6_goesToken, Cond.code yX6_goesToken cX6_goesToken 6 none]
def wsX6_opener_r3 : List Cond := [Cond.methodLink RX6 102 yX6_comes, Cond.instanceMethod yX6_comes, Cond.selects RX6 yX6_comes yX6_comes, Cond.code yX6_comes cX6_comes 5 none, Cond.methodLink RX6 106 yX6_closes, Cond.instanceMethod yX6_closes, Cond.selects RX6 yX6_closes yX6_closes, Cond.code yX6_closes cX6_closes 4 none, Cond.methodLink RX6 116 yX6_widthOf, Cond.static yX6_widthOf, Cond.code yX6_widthOf cX6_widthOf 1 (some .int), Cond.methodLink RX6 77 yX6_within, Cond.static yX6_within, Cond.code yX6_within cX6_within 3 (some .boolean)]
def wsX6_opener : List Cond := .code yX6_opener cX6_opener 3 (some .int) :: ((wsX6_opener_r1 ++ (wsX6_opener_r2 ++ wsX6_opener_r3)) ++ wsX60)
def wsX6_counts : List Cond := .code yX6_counts cX6_counts 2 (some .boolean) :: ([.fieldLink RX6 13 "IndentRulesModel" "seen" "[I", .fieldLink RX6 7 "IndentRulesModel" "row" "[I"] ++ wsX60)
def wsX6_unlike_r1 : List Cond := [Cond.fieldLink RX6 73 "IndentRulesModel" "lines" "I", Cond.fieldLink RX6 37 "IndentRulesModel" "columnOf" "[I", Cond.fieldLink RX6 13 "IndentRulesModel" "seen" "[I", Cond.methodLink RX6 139 yX6_isLine, Cond.instanceMethod yX6_isLine, Cond.selects RX6 yX6_isLine yX6_isLine, Cond.initialized RX6, Cond.code yX6_isLine cX6_isLine 2 (some .boolean), Cond.methodLink RX6 77 yX6_within, Cond.static yX6_within, Cond.code yX6_within cX6_within 3 (some .boolean), Cond.methodLink RX6 126 yX6_goes, Cond.instanceMethod yX6_goes, Cond.selects RX6 yX6_goes yX6_goes, Cond.code yX6_goes cX6_goes 1 none, Cond.fieldLink RX6 16 "IndentRulesModel" "style" "[I", Cond.methodLink RX6 123 yX6_goesBy, Cond.instanceMethod yX6_goesBy, Cond.selects RX6 yX6_goesBy yX6_goesBy, Cond.code yX6_goesBy cX6_goesBy 6 none, Cond.fieldLink RX6 49 "IndentRulesModel" "by" "[I", Cond.fieldLink RX6 95 "IndentRulesModel" "openers" "I", Cond.fieldLink RX6 85 "IndentRulesModel" "deep" "I", Cond.fieldLink RX6 92 "IndentRulesModel" "last" "I"]
def wsX6_unlike_r2 : List Cond := [Cond.methodLink RX6 119 yX6_goesLine, Cond.instanceMethod yX6_goesLine, Cond.selects RX6 yX6_goesLine yX6_goesLine, Cond.code yX6_goesLine cX6_goesLine 6 none, Cond.fieldLink RX6 7 "IndentRulesModel" "row" "[I", Cond.fieldLink RX6 40 "IndentRulesModel" "openOf" "[I", Cond.fieldLink RX6 43 "IndentRulesModel" "strayOf" "[I", Cond.methodLink RX6 81 yX6_lengthOf, Cond.static yX6_lengthOf, Cond.code yX6_lengthOf cX6_lengthOf 3 (some .int), Cond.methodLink RX6 98 yX6_tokenAt, Cond.static yX6_tokenAt, Cond.code yX6_tokenAt cX6_tokenAt 4 (some .int), Cond.methodLink RX6 110 yX6_columnFor, Cond.instanceMethod yX6_columnFor, Cond.selects RX6 yX6_columnFor yX6_columnFor, Cond.code yX6_columnFor cX6_columnFor 6 (some .int), Cond.fieldLink RX6 31 "IndentRulesModel" "kindOf" "[I", Cond.fieldLink RX6 28 "IndentRulesModel" "baseOf" "[I", Cond.fieldLink RX6 25 "IndentRulesModel" "atOf" "[I", Cond.methodLink RX6 88 yX6_top, Cond.instanceMethod yX6_top, Cond.selects RX6 yX6_top yX6_top, Cond.code yX6_top cX6_top 1 (some .int)]
def wsX6_unlike_r3 : List Cond := [Cond.fieldLink RX6 46 "IndentRulesModel" "stack" "[I", Cond.methodLink RX6 113 yX6_goesToken, Cond.instanceMethod yX6_goesToken, Cond.selects RX6 yX6_goesToken yX6_goesToken, Cond.code yX6_goesToken cX6_goesToken 6 none, Cond.methodLink RX6 102 yX6_comes, Cond.instanceMethod yX6_comes, Cond.selects RX6 yX6_comes yX6_comes, Cond.code yX6_comes cX6_comes 5 none, Cond.fieldLink RX6 19 "IndentRulesModel" "lineOf" "[I", Cond.fieldLink RX6 22 "IndentRulesModel" "tokenOf" "[I", Cond.fieldLink RX6 34 "IndentRulesModel" "partnerOf" "[I", Cond.methodLink RX6 106 yX6_closes, Cond.instanceMethod yX6_closes, Cond.selects RX6 yX6_closes yX6_closes, Cond.code yX6_closes cX6_closes 4 none, Cond.methodLink RX6 116 yX6_widthOf, Cond.static yX6_widthOf, Cond.code yX6_widthOf cX6_widthOf 1 (some .int), Cond.methodLink RX6 149 yX6_counts, Cond.instanceMethod yX6_counts, Cond.selects RX6 yX6_counts yX6_counts, Cond.code yX6_counts cX6_counts 2 (some .boolean)]
def wsX6_unlike : List Cond := .code yX6_unlike cX6_unlike 3 (some .int) :: ((wsX6_unlike_r1 ++ (wsX6_unlike_r2 ++ wsX6_unlike_r3)) ++ wsX60)
def wsX6_see : List Cond := .code yX6_see cX6_see 4 (some .int) :: ([.fieldLink RX6 13 "IndentRulesModel" "seen" "[I", .methodLink RX6 139 yX6_isLine, .instanceMethod yX6_isLine, .selects RX6 yX6_isLine yX6_isLine, .initialized RX6, .code yX6_isLine cX6_isLine 2 (some .boolean), .fieldLink RX6 73 "IndentRulesModel" "lines" "I", .methodLink RX6 77 yX6_within, .static yX6_within, .code yX6_within cX6_within 3 (some .boolean)] ++ wsX60)
def wsX6_isStyle : List Cond := .code yX6_isStyle cX6_isStyle 4 (some .boolean) :: ([.methodLink RX6 142 yX6_maySet, .static yX6_maySet, .initialized RX6, .code yX6_maySet cX6_maySet 2 (some .boolean), .methodLink RX6 77 yX6_within, .static yX6_within, .code yX6_within cX6_within 3 (some .boolean)])
def wsX6_fits_r1 : List Cond := [Cond.fieldLink RX6 73 "IndentRulesModel" "lines" "I", Cond.fieldLink RX6 37 "IndentRulesModel" "columnOf" "[I", Cond.fieldLink RX6 13 "IndentRulesModel" "seen" "[I", Cond.methodLink RX6 152 yX6_isStyle, Cond.static yX6_isStyle, Cond.initialized RX6, Cond.code yX6_isStyle cX6_isStyle 4 (some .boolean), Cond.methodLink RX6 142 yX6_maySet, Cond.static yX6_maySet, Cond.code yX6_maySet cX6_maySet 2 (some .boolean), Cond.methodLink RX6 77 yX6_within, Cond.static yX6_within, Cond.code yX6_within cX6_within 3 (some .boolean), Cond.methodLink RX6 123 yX6_goesBy, Cond.instanceMethod yX6_goesBy, Cond.selects RX6 yX6_goesBy yX6_goesBy, Cond.code yX6_goesBy cX6_goesBy 6 none, Cond.fieldLink RX6 49 "IndentRulesModel" "by" "[I", Cond.fieldLink RX6 95 "IndentRulesModel" "openers" "I", Cond.fieldLink RX6 85 "IndentRulesModel" "deep" "I", Cond.fieldLink RX6 92 "IndentRulesModel" "last" "I", Cond.methodLink RX6 119 yX6_goesLine, Cond.instanceMethod yX6_goesLine, Cond.selects RX6 yX6_goesLine yX6_goesLine]
def wsX6_fits_r2 : List Cond := [Cond.code yX6_goesLine cX6_goesLine 6 none, Cond.fieldLink RX6 7 "IndentRulesModel" "row" "[I", Cond.fieldLink RX6 40 "IndentRulesModel" "openOf" "[I", Cond.fieldLink RX6 43 "IndentRulesModel" "strayOf" "[I", Cond.methodLink RX6 81 yX6_lengthOf, Cond.static yX6_lengthOf, Cond.code yX6_lengthOf cX6_lengthOf 3 (some .int), Cond.methodLink RX6 98 yX6_tokenAt, Cond.static yX6_tokenAt, Cond.code yX6_tokenAt cX6_tokenAt 4 (some .int), Cond.methodLink RX6 110 yX6_columnFor, Cond.instanceMethod yX6_columnFor, Cond.selects RX6 yX6_columnFor yX6_columnFor, Cond.code yX6_columnFor cX6_columnFor 6 (some .int), Cond.fieldLink RX6 31 "IndentRulesModel" "kindOf" "[I", Cond.fieldLink RX6 28 "IndentRulesModel" "baseOf" "[I", Cond.fieldLink RX6 25 "IndentRulesModel" "atOf" "[I", Cond.methodLink RX6 88 yX6_top, Cond.instanceMethod yX6_top, Cond.selects RX6 yX6_top yX6_top, Cond.code yX6_top cX6_top 1 (some .int), Cond.fieldLink RX6 46 "IndentRulesModel" "stack" "[I", Cond.methodLink RX6 113 yX6_goesToken, Cond.instanceMethod yX6_goesToken]
def wsX6_fits_r3 : List Cond := [Cond.selects RX6 yX6_goesToken yX6_goesToken, Cond.code yX6_goesToken cX6_goesToken 6 none, Cond.methodLink RX6 102 yX6_comes, Cond.instanceMethod yX6_comes, Cond.selects RX6 yX6_comes yX6_comes, Cond.code yX6_comes cX6_comes 5 none, Cond.fieldLink RX6 19 "IndentRulesModel" "lineOf" "[I", Cond.fieldLink RX6 22 "IndentRulesModel" "tokenOf" "[I", Cond.fieldLink RX6 34 "IndentRulesModel" "partnerOf" "[I", Cond.methodLink RX6 106 yX6_closes, Cond.instanceMethod yX6_closes, Cond.selects RX6 yX6_closes yX6_closes, Cond.code yX6_closes cX6_closes 4 none, Cond.methodLink RX6 116 yX6_widthOf, Cond.static yX6_widthOf, Cond.code yX6_widthOf cX6_widthOf 1 (some .int), Cond.methodLink RX6 149 yX6_counts, Cond.instanceMethod yX6_counts, Cond.selects RX6 yX6_counts yX6_counts, Cond.code yX6_counts cX6_counts 2 (some .boolean)]
def wsX6_fits : List Cond := .code yX6_fits cX6_fits 7 (some .int) :: ((wsX6_fits_r1 ++ (wsX6_fits_r2 ++ wsX6_fits_r3)) ++ wsX60)
def wsX6_scoreBy_r1 : List Cond := [Cond.fieldLink RX6 73 "IndentRulesModel" "lines" "I", Cond.fieldLink RX6 40 "IndentRulesModel" "openOf" "[I", Cond.fieldLink RX6 37 "IndentRulesModel" "columnOf" "[I", Cond.fieldLink RX6 13 "IndentRulesModel" "seen" "[I", Cond.methodLink RX6 123 yX6_goesBy, Cond.instanceMethod yX6_goesBy, Cond.selects RX6 yX6_goesBy yX6_goesBy, Cond.initialized RX6, Cond.code yX6_goesBy cX6_goesBy 6 none, Cond.fieldLink RX6 49 "IndentRulesModel" "by" "[I", Cond.fieldLink RX6 95 "IndentRulesModel" "openers" "I", Cond.fieldLink RX6 85 "IndentRulesModel" "deep" "I", Cond.fieldLink RX6 92 "IndentRulesModel" "last" "I", Cond.methodLink RX6 119 yX6_goesLine, Cond.instanceMethod yX6_goesLine, Cond.selects RX6 yX6_goesLine yX6_goesLine, Cond.code yX6_goesLine cX6_goesLine 6 none, Cond.fieldLink RX6 7 "IndentRulesModel" "row" "[I", Cond.fieldLink RX6 43 "IndentRulesModel" "strayOf" "[I", Cond.methodLink RX6 81 yX6_lengthOf, Cond.static yX6_lengthOf, Cond.code yX6_lengthOf cX6_lengthOf 3 (some .int), Cond.methodLink RX6 98 yX6_tokenAt, Cond.static yX6_tokenAt]
def wsX6_scoreBy_r2 : List Cond := [Cond.code yX6_tokenAt cX6_tokenAt 4 (some .int), Cond.methodLink RX6 110 yX6_columnFor, Cond.instanceMethod yX6_columnFor, Cond.selects RX6 yX6_columnFor yX6_columnFor, Cond.code yX6_columnFor cX6_columnFor 6 (some .int), Cond.fieldLink RX6 31 "IndentRulesModel" "kindOf" "[I", Cond.fieldLink RX6 28 "IndentRulesModel" "baseOf" "[I", Cond.fieldLink RX6 25 "IndentRulesModel" "atOf" "[I", Cond.methodLink RX6 88 yX6_top, Cond.instanceMethod yX6_top, Cond.selects RX6 yX6_top yX6_top, Cond.code yX6_top cX6_top 1 (some .int), Cond.fieldLink RX6 46 "IndentRulesModel" "stack" "[I", Cond.methodLink RX6 113 yX6_goesToken, Cond.instanceMethod yX6_goesToken, Cond.selects RX6 yX6_goesToken yX6_goesToken, Cond.code yX6_goesToken cX6_goesToken 6 none, Cond.methodLink RX6 102 yX6_comes, Cond.instanceMethod yX6_comes, Cond.selects RX6 yX6_comes yX6_comes, Cond.code yX6_comes cX6_comes 5 none, Cond.fieldLink RX6 19 "IndentRulesModel" "lineOf" "[I", Cond.fieldLink RX6 22 "IndentRulesModel" "tokenOf" "[I", Cond.fieldLink RX6 34 "IndentRulesModel" "partnerOf" "[I"]
def wsX6_scoreBy_r3 : List Cond := [Cond.methodLink RX6 106 yX6_closes, Cond.instanceMethod yX6_closes, Cond.selects RX6 yX6_closes yX6_closes, Cond.code yX6_closes cX6_closes 4 none, Cond.methodLink RX6 116 yX6_widthOf, Cond.static yX6_widthOf, Cond.code yX6_widthOf cX6_widthOf 1 (some .int), Cond.methodLink RX6 149 yX6_counts, Cond.instanceMethod yX6_counts, Cond.selects RX6 yX6_counts yX6_counts, Cond.code yX6_counts cX6_counts 2 (some .boolean)]
def wsX6_scoreBy : List Cond := .code yX6_scoreBy cX6_scoreBy 8 (some .int) :: ((wsX6_scoreBy_r1 ++ (wsX6_scoreBy_r2 ++ wsX6_scoreBy_r3)) ++ wsX60)
def wsX6_bitsOf : List Cond := .code yX6_bitsOf cX6_bitsOf 2 (some .int) :: ([.constant RX6 156 (8388607)])
def wsX6_score_r1 : List Cond := [Cond.methodLink RX6 152 yX6_isStyle, Cond.static yX6_isStyle, Cond.initialized RX6, Cond.code yX6_isStyle cX6_isStyle 4 (some .boolean), Cond.methodLink RX6 142 yX6_maySet, Cond.static yX6_maySet, Cond.code yX6_maySet cX6_maySet 2 (some .boolean), Cond.methodLink RX6 77 yX6_within, Cond.static yX6_within, Cond.code yX6_within cX6_within 3 (some .boolean), Cond.methodLink RX6 157 yX6_scoreBy, Cond.instanceMethod yX6_scoreBy, Cond.selects RX6 yX6_scoreBy yX6_scoreBy, Cond.code yX6_scoreBy cX6_scoreBy 8 (some .int), Cond.fieldLink RX6 73 "IndentRulesModel" "lines" "I", Cond.fieldLink RX6 40 "IndentRulesModel" "openOf" "[I", Cond.fieldLink RX6 37 "IndentRulesModel" "columnOf" "[I", Cond.fieldLink RX6 13 "IndentRulesModel" "seen" "[I", Cond.methodLink RX6 123 yX6_goesBy, Cond.instanceMethod yX6_goesBy, Cond.selects RX6 yX6_goesBy yX6_goesBy, Cond.code yX6_goesBy cX6_goesBy 6 none, Cond.fieldLink RX6 49 "IndentRulesModel" "by" "[I", Cond.fieldLink RX6 95 "IndentRulesModel" "openers" "I"]
def wsX6_score_r2 : List Cond := [Cond.fieldLink RX6 85 "IndentRulesModel" "deep" "I", Cond.fieldLink RX6 92 "IndentRulesModel" "last" "I", Cond.methodLink RX6 119 yX6_goesLine, Cond.instanceMethod yX6_goesLine, Cond.selects RX6 yX6_goesLine yX6_goesLine, Cond.code yX6_goesLine cX6_goesLine 6 none, Cond.fieldLink RX6 7 "IndentRulesModel" "row" "[I", Cond.fieldLink RX6 43 "IndentRulesModel" "strayOf" "[I", Cond.methodLink RX6 81 yX6_lengthOf, Cond.static yX6_lengthOf, Cond.code yX6_lengthOf cX6_lengthOf 3 (some .int), Cond.methodLink RX6 98 yX6_tokenAt, Cond.static yX6_tokenAt, Cond.code yX6_tokenAt cX6_tokenAt 4 (some .int), Cond.methodLink RX6 110 yX6_columnFor, Cond.instanceMethod yX6_columnFor, Cond.selects RX6 yX6_columnFor yX6_columnFor, Cond.code yX6_columnFor cX6_columnFor 6 (some .int), Cond.fieldLink RX6 31 "IndentRulesModel" "kindOf" "[I", Cond.fieldLink RX6 28 "IndentRulesModel" "baseOf" "[I", Cond.fieldLink RX6 25 "IndentRulesModel" "atOf" "[I", Cond.methodLink RX6 88 yX6_top, Cond.instanceMethod yX6_top, Cond.selects RX6 yX6_top yX6_top]
def wsX6_score_r3 : List Cond := [Cond.code yX6_top cX6_top 1 (some .int), Cond.fieldLink RX6 46 "IndentRulesModel" "stack" "[I", Cond.methodLink RX6 113 yX6_goesToken, Cond.instanceMethod yX6_goesToken, Cond.selects RX6 yX6_goesToken yX6_goesToken, Cond.code yX6_goesToken cX6_goesToken 6 none, Cond.methodLink RX6 102 yX6_comes, Cond.instanceMethod yX6_comes, Cond.selects RX6 yX6_comes yX6_comes, Cond.code yX6_comes cX6_comes 5 none, Cond.fieldLink RX6 19 "IndentRulesModel" "lineOf" "[I", Cond.fieldLink RX6 22 "IndentRulesModel" "tokenOf" "[I", Cond.fieldLink RX6 34 "IndentRulesModel" "partnerOf" "[I", Cond.methodLink RX6 106 yX6_closes, Cond.instanceMethod yX6_closes, Cond.selects RX6 yX6_closes yX6_closes, Cond.code yX6_closes cX6_closes 4 none, Cond.methodLink RX6 116 yX6_widthOf, Cond.static yX6_widthOf, Cond.code yX6_widthOf cX6_widthOf 1 (some .int), Cond.methodLink RX6 149 yX6_counts, Cond.instanceMethod yX6_counts, Cond.selects RX6 yX6_counts yX6_counts, Cond.code yX6_counts cX6_counts 2 (some .boolean)]
def wsX6_score_r4 : List Cond := [Cond.methodLink RX6 161 yX6_bitsOf, Cond.static yX6_bitsOf, Cond.code yX6_bitsOf cX6_bitsOf 2 (some .int), Cond.constant RX6 156 (8388607)]
def wsX6_score : List Cond := .code yX6_score cX6_score 7 (some .int) :: ((wsX6_score_r1 ++ (wsX6_score_r2 ++ (wsX6_score_r3 ++ wsX6_score_r4))) ++ wsX60)
def wsX6_guesses_r1 : List Cond := [Cond.fieldLink RX6 73 "IndentRulesModel" "lines" "I", Cond.fieldLink RX6 55 "IndentRulesModel" "guessed" "[I", Cond.methodLink RX6 149 yX6_counts, Cond.instanceMethod yX6_counts, Cond.selects RX6 yX6_counts yX6_counts, Cond.initialized RX6, Cond.code yX6_counts cX6_counts 2 (some .boolean), Cond.fieldLink RX6 13 "IndentRulesModel" "seen" "[I", Cond.fieldLink RX6 7 "IndentRulesModel" "row" "[I", Cond.methodLink RX6 157 yX6_scoreBy, Cond.instanceMethod yX6_scoreBy, Cond.selects RX6 yX6_scoreBy yX6_scoreBy, Cond.code yX6_scoreBy cX6_scoreBy 8 (some .int), Cond.fieldLink RX6 40 "IndentRulesModel" "openOf" "[I", Cond.fieldLink RX6 37 "IndentRulesModel" "columnOf" "[I", Cond.methodLink RX6 123 yX6_goesBy, Cond.instanceMethod yX6_goesBy, Cond.selects RX6 yX6_goesBy yX6_goesBy, Cond.code yX6_goesBy cX6_goesBy 6 none, Cond.fieldLink RX6 49 "IndentRulesModel" "by" "[I", Cond.fieldLink RX6 95 "IndentRulesModel" "openers" "I", Cond.fieldLink RX6 85 "IndentRulesModel" "deep" "I", Cond.fieldLink RX6 92 "IndentRulesModel" "last" "I", Cond.methodLink RX6 119 yX6_goesLine]
def wsX6_guesses_r2 : List Cond := [Cond.instanceMethod yX6_goesLine, Cond.selects RX6 yX6_goesLine yX6_goesLine, Cond.code yX6_goesLine cX6_goesLine 6 none, Cond.fieldLink RX6 43 "IndentRulesModel" "strayOf" "[I", Cond.methodLink RX6 81 yX6_lengthOf, Cond.static yX6_lengthOf, Cond.code yX6_lengthOf cX6_lengthOf 3 (some .int), Cond.methodLink RX6 98 yX6_tokenAt, Cond.static yX6_tokenAt, Cond.code yX6_tokenAt cX6_tokenAt 4 (some .int), Cond.methodLink RX6 110 yX6_columnFor, Cond.instanceMethod yX6_columnFor, Cond.selects RX6 yX6_columnFor yX6_columnFor, Cond.code yX6_columnFor cX6_columnFor 6 (some .int), Cond.fieldLink RX6 31 "IndentRulesModel" "kindOf" "[I", Cond.fieldLink RX6 28 "IndentRulesModel" "baseOf" "[I", Cond.fieldLink RX6 25 "IndentRulesModel" "atOf" "[I", Cond.methodLink RX6 88 yX6_top, Cond.instanceMethod yX6_top, Cond.selects RX6 yX6_top yX6_top, Cond.code yX6_top cX6_top 1 (some .int), Cond.fieldLink RX6 46 "IndentRulesModel" "stack" "[I", Cond.methodLink RX6 113 yX6_goesToken, Cond.instanceMethod yX6_goesToken]
def wsX6_guesses_r3 : List Cond := [Cond.selects RX6 yX6_goesToken yX6_goesToken, Cond.code yX6_goesToken cX6_goesToken 6 none, Cond.methodLink RX6 102 yX6_comes, Cond.instanceMethod yX6_comes, Cond.selects RX6 yX6_comes yX6_comes, Cond.code yX6_comes cX6_comes 5 none, Cond.fieldLink RX6 19 "IndentRulesModel" "lineOf" "[I", Cond.fieldLink RX6 22 "IndentRulesModel" "tokenOf" "[I", Cond.fieldLink RX6 34 "IndentRulesModel" "partnerOf" "[I", Cond.methodLink RX6 106 yX6_closes, Cond.instanceMethod yX6_closes, Cond.selects RX6 yX6_closes yX6_closes, Cond.code yX6_closes cX6_closes 4 none, Cond.methodLink RX6 116 yX6_widthOf, Cond.static yX6_widthOf, Cond.code yX6_widthOf cX6_widthOf 1 (some .int)]
def wsX6_guesses : List Cond := .code yX6_guesses cX6_guesses 4 (some .boolean) :: ((wsX6_guesses_r1 ++ (wsX6_guesses_r2 ++ wsX6_guesses_r3)) ++ wsX60)
def wsX6_guess_r1 : List Cond := [Cond.fieldLink RX6 55 "IndentRulesModel" "guessed" "[I", Cond.methodLink RX6 77 yX6_within, Cond.static yX6_within, Cond.initialized RX6, Cond.code yX6_within cX6_within 3 (some .boolean), Cond.methodLink RX6 164 yX6_guesses, Cond.instanceMethod yX6_guesses, Cond.selects RX6 yX6_guesses yX6_guesses, Cond.code yX6_guesses cX6_guesses 4 (some .boolean), Cond.fieldLink RX6 73 "IndentRulesModel" "lines" "I", Cond.methodLink RX6 149 yX6_counts, Cond.instanceMethod yX6_counts, Cond.selects RX6 yX6_counts yX6_counts, Cond.code yX6_counts cX6_counts 2 (some .boolean), Cond.fieldLink RX6 13 "IndentRulesModel" "seen" "[I", Cond.fieldLink RX6 7 "IndentRulesModel" "row" "[I", Cond.methodLink RX6 157 yX6_scoreBy, Cond.instanceMethod yX6_scoreBy, Cond.selects RX6 yX6_scoreBy yX6_scoreBy, Cond.code yX6_scoreBy cX6_scoreBy 8 (some .int), Cond.fieldLink RX6 40 "IndentRulesModel" "openOf" "[I", Cond.fieldLink RX6 37 "IndentRulesModel" "columnOf" "[I", Cond.methodLink RX6 123 yX6_goesBy, Cond.instanceMethod yX6_goesBy]
def wsX6_guess_r2 : List Cond := [Cond.selects RX6 yX6_goesBy yX6_goesBy, Cond.code yX6_goesBy cX6_goesBy 6 none, Cond.fieldLink RX6 49 "IndentRulesModel" "by" "[I", Cond.fieldLink RX6 95 "IndentRulesModel" "openers" "I", Cond.fieldLink RX6 85 "IndentRulesModel" "deep" "I", Cond.fieldLink RX6 92 "IndentRulesModel" "last" "I", Cond.methodLink RX6 119 yX6_goesLine, Cond.instanceMethod yX6_goesLine, Cond.selects RX6 yX6_goesLine yX6_goesLine, Cond.code yX6_goesLine cX6_goesLine 6 none, Cond.fieldLink RX6 43 "IndentRulesModel" "strayOf" "[I", Cond.methodLink RX6 81 yX6_lengthOf, Cond.static yX6_lengthOf, Cond.code yX6_lengthOf cX6_lengthOf 3 (some .int), Cond.methodLink RX6 98 yX6_tokenAt, Cond.static yX6_tokenAt, Cond.code yX6_tokenAt cX6_tokenAt 4 (some .int), Cond.methodLink RX6 110 yX6_columnFor, Cond.instanceMethod yX6_columnFor, Cond.selects RX6 yX6_columnFor yX6_columnFor, Cond.code yX6_columnFor cX6_columnFor 6 (some .int), Cond.fieldLink RX6 31 "IndentRulesModel" "kindOf" "[I", Cond.fieldLink RX6 28 "IndentRulesModel" "baseOf" "[I", Cond.fieldLink RX6 25 "IndentRulesModel" "atOf" "[I"]
def wsX6_guess_r3 : List Cond := [Cond.methodLink RX6 88 yX6_top, Cond.instanceMethod yX6_top, Cond.selects RX6 yX6_top yX6_top, Cond.code yX6_top cX6_top 1 (some .int), Cond.fieldLink RX6 46 "IndentRulesModel" "stack" "[I", Cond.methodLink RX6 113 yX6_goesToken, Cond.instanceMethod yX6_goesToken, Cond.selects RX6 yX6_goesToken yX6_goesToken, Cond.code yX6_goesToken cX6_goesToken 6 none, Cond.methodLink RX6 102 yX6_comes, Cond.instanceMethod yX6_comes, Cond.selects RX6 yX6_comes yX6_comes, Cond.code yX6_comes cX6_comes 5 none, Cond.fieldLink RX6 19 "IndentRulesModel" "lineOf" "[I", Cond.fieldLink RX6 22 "IndentRulesModel" "tokenOf" "[I", Cond.fieldLink RX6 34 "IndentRulesModel" "partnerOf" "[I", Cond.methodLink RX6 106 yX6_closes, Cond.instanceMethod yX6_closes, Cond.selects RX6 yX6_closes yX6_closes, Cond.code yX6_closes cX6_closes 4 none, Cond.methodLink RX6 116 yX6_widthOf, Cond.static yX6_widthOf, Cond.code yX6_widthOf cX6_widthOf 1 (some .int), Cond.methodLink RX6 161 yX6_bitsOf]
def wsX6_guess_r4 : List Cond := [Cond.static yX6_bitsOf, Cond.code yX6_bitsOf cX6_bitsOf 2 (some .int), Cond.constant RX6 156 (8388607)]
def wsX6_guess : List Cond := .code yX6_guess cX6_guess 2 (some .int) :: ((wsX6_guess_r1 ++ (wsX6_guess_r2 ++ (wsX6_guess_r3 ++ wsX6_guess_r4))) ++ wsX60)
def wsX6_follow_r1 : List Cond := [Cond.fieldLink RX6 16 "IndentRulesModel" "style" "[I", Cond.fieldLink RX6 55 "IndentRulesModel" "guessed" "[I", Cond.methodLink RX6 164 yX6_guesses, Cond.instanceMethod yX6_guesses, Cond.selects RX6 yX6_guesses yX6_guesses, Cond.initialized RX6, Cond.code yX6_guesses cX6_guesses 4 (some .boolean), Cond.fieldLink RX6 73 "IndentRulesModel" "lines" "I", Cond.methodLink RX6 149 yX6_counts, Cond.instanceMethod yX6_counts, Cond.selects RX6 yX6_counts yX6_counts, Cond.code yX6_counts cX6_counts 2 (some .boolean), Cond.fieldLink RX6 13 "IndentRulesModel" "seen" "[I", Cond.fieldLink RX6 7 "IndentRulesModel" "row" "[I", Cond.methodLink RX6 157 yX6_scoreBy, Cond.instanceMethod yX6_scoreBy, Cond.selects RX6 yX6_scoreBy yX6_scoreBy, Cond.code yX6_scoreBy cX6_scoreBy 8 (some .int), Cond.fieldLink RX6 40 "IndentRulesModel" "openOf" "[I", Cond.fieldLink RX6 37 "IndentRulesModel" "columnOf" "[I", Cond.methodLink RX6 123 yX6_goesBy, Cond.instanceMethod yX6_goesBy, Cond.selects RX6 yX6_goesBy yX6_goesBy, Cond.code yX6_goesBy cX6_goesBy 6 none]
def wsX6_follow_r2 : List Cond := [Cond.fieldLink RX6 49 "IndentRulesModel" "by" "[I", Cond.fieldLink RX6 95 "IndentRulesModel" "openers" "I", Cond.fieldLink RX6 85 "IndentRulesModel" "deep" "I", Cond.fieldLink RX6 92 "IndentRulesModel" "last" "I", Cond.methodLink RX6 119 yX6_goesLine, Cond.instanceMethod yX6_goesLine, Cond.selects RX6 yX6_goesLine yX6_goesLine, Cond.code yX6_goesLine cX6_goesLine 6 none, Cond.fieldLink RX6 43 "IndentRulesModel" "strayOf" "[I", Cond.methodLink RX6 81 yX6_lengthOf, Cond.static yX6_lengthOf, Cond.code yX6_lengthOf cX6_lengthOf 3 (some .int), Cond.methodLink RX6 98 yX6_tokenAt, Cond.static yX6_tokenAt, Cond.code yX6_tokenAt cX6_tokenAt 4 (some .int), Cond.methodLink RX6 110 yX6_columnFor, Cond.instanceMethod yX6_columnFor, Cond.selects RX6 yX6_columnFor yX6_columnFor, Cond.code yX6_columnFor cX6_columnFor 6 (some .int), Cond.fieldLink RX6 31 "IndentRulesModel" "kindOf" "[I", Cond.fieldLink RX6 28 "IndentRulesModel" "baseOf" "[I", Cond.fieldLink RX6 25 "IndentRulesModel" "atOf" "[I", Cond.methodLink RX6 88 yX6_top, Cond.instanceMethod yX6_top]
def wsX6_follow_r3 : List Cond := [Cond.selects RX6 yX6_top yX6_top, Cond.code yX6_top cX6_top 1 (some .int), Cond.fieldLink RX6 46 "IndentRulesModel" "stack" "[I", Cond.methodLink RX6 113 yX6_goesToken, Cond.instanceMethod yX6_goesToken, Cond.selects RX6 yX6_goesToken yX6_goesToken, Cond.code yX6_goesToken cX6_goesToken 6 none, Cond.methodLink RX6 102 yX6_comes, Cond.instanceMethod yX6_comes, Cond.selects RX6 yX6_comes yX6_comes, Cond.code yX6_comes cX6_comes 5 none, Cond.fieldLink RX6 19 "IndentRulesModel" "lineOf" "[I", Cond.fieldLink RX6 22 "IndentRulesModel" "tokenOf" "[I", Cond.fieldLink RX6 34 "IndentRulesModel" "partnerOf" "[I", Cond.methodLink RX6 106 yX6_closes, Cond.instanceMethod yX6_closes, Cond.selects RX6 yX6_closes yX6_closes, Cond.code yX6_closes cX6_closes 4 none, Cond.methodLink RX6 116 yX6_widthOf, Cond.static yX6_widthOf, Cond.code yX6_widthOf cX6_widthOf 1 (some .int), Cond.methodLink RX6 133 yX6_notes, Cond.instanceMethod yX6_notes, Cond.selects RX6 yX6_notes yX6_notes]
def wsX6_follow_r4 : List Cond := [Cond.code yX6_notes cX6_notes 2 none, Cond.fieldLink RX6 52 "IndentRulesModel" "columnWas" "[I", Cond.methodLink RX6 126 yX6_goes, Cond.instanceMethod yX6_goes, Cond.selects RX6 yX6_goes yX6_goes, Cond.code yX6_goes cX6_goes 1 none, Cond.methodLink RX6 136 yX6_moved, Cond.instanceMethod yX6_moved, Cond.selects RX6 yX6_moved yX6_moved, Cond.code yX6_moved cX6_moved 4 (some .int)]
def wsX6_follow : List Cond := .code yX6_follow cX6_follow 2 (some .int) :: ((wsX6_follow_r1 ++ (wsX6_follow_r2 ++ (wsX6_follow_r3 ++ wsX6_follow_r4))) ++ wsX60)
def wsX6_isPocket : List Cond := .code yX6_isPocket cX6_isPocket 1 (some .boolean) :: ([.methodLink RX6 77 yX6_within, .static yX6_within, .initialized RX6, .code yX6_within cX6_within 3 (some .boolean)])
def wsX6_pocket : List Cond := .code yX6_pocket cX6_pocket 5 (some .int) :: ([.fieldLink RX6 58 "IndentRulesModel" "cellsOf" "[I", .fieldLink RX6 61 "IndentRulesModel" "sortOf" "[I", .fieldLink RX6 64 "IndentRulesModel" "keptLine" "[I", .methodLink RX6 168 yX6_isPocket, .static yX6_isPocket, .initialized RX6, .code yX6_isPocket cX6_isPocket 1 (some .boolean), .methodLink RX6 77 yX6_within, .static yX6_within, .code yX6_within cX6_within 3 (some .boolean)] ++ wsX60)
def wsX6_isOf : List Cond := .code yX6_isOf cX6_isOf 2 (some .boolean) :: ([])
def wsX6_store_r1 : List Cond := [Cond.fieldLink RX6 95 "IndentRulesModel" "openers" "I", Cond.fieldLink RX6 58 "IndentRulesModel" "cellsOf" "[I", Cond.fieldLink RX6 31 "IndentRulesModel" "kindOf" "[I", Cond.fieldLink RX6 61 "IndentRulesModel" "sortOf" "[I", Cond.fieldLink RX6 64 "IndentRulesModel" "keptLine" "[I", Cond.fieldLink RX6 19 "IndentRulesModel" "lineOf" "[I", Cond.fieldLink RX6 67 "IndentRulesModel" "keptAt" "[I", Cond.fieldLink RX6 25 "IndentRulesModel" "atOf" "[I", Cond.fieldLink RX6 70 "IndentRulesModel" "keptKind" "[I", Cond.methodLink RX6 126 yX6_goes, Cond.instanceMethod yX6_goes, Cond.selects RX6 yX6_goes yX6_goes, Cond.initialized RX6, Cond.code yX6_goes cX6_goes 1 none, Cond.fieldLink RX6 16 "IndentRulesModel" "style" "[I", Cond.methodLink RX6 123 yX6_goesBy, Cond.instanceMethod yX6_goesBy, Cond.selects RX6 yX6_goesBy yX6_goesBy, Cond.code yX6_goesBy cX6_goesBy 6 none, Cond.fieldLink RX6 49 "IndentRulesModel" "by" "[I", Cond.fieldLink RX6 85 "IndentRulesModel" "deep" "I", Cond.fieldLink RX6 92 "IndentRulesModel" "last" "I", Cond.fieldLink RX6 73 "IndentRulesModel" "lines" "I", Cond.methodLink RX6 119 yX6_goesLine]
def wsX6_store_r2 : List Cond := [Cond.instanceMethod yX6_goesLine, Cond.selects RX6 yX6_goesLine yX6_goesLine, Cond.code yX6_goesLine cX6_goesLine 6 none, Cond.fieldLink RX6 7 "IndentRulesModel" "row" "[I", Cond.fieldLink RX6 40 "IndentRulesModel" "openOf" "[I", Cond.fieldLink RX6 43 "IndentRulesModel" "strayOf" "[I", Cond.fieldLink RX6 37 "IndentRulesModel" "columnOf" "[I", Cond.methodLink RX6 81 yX6_lengthOf, Cond.static yX6_lengthOf, Cond.code yX6_lengthOf cX6_lengthOf 3 (some .int), Cond.methodLink RX6 98 yX6_tokenAt, Cond.static yX6_tokenAt, Cond.code yX6_tokenAt cX6_tokenAt 4 (some .int), Cond.methodLink RX6 110 yX6_columnFor, Cond.instanceMethod yX6_columnFor, Cond.selects RX6 yX6_columnFor yX6_columnFor, Cond.code yX6_columnFor cX6_columnFor 6 (some .int), Cond.fieldLink RX6 28 "IndentRulesModel" "baseOf" "[I", Cond.methodLink RX6 88 yX6_top, Cond.instanceMethod yX6_top, Cond.selects RX6 yX6_top yX6_top, Cond.code yX6_top cX6_top 1 (some .int), Cond.fieldLink RX6 46 "IndentRulesModel" "stack" "[I", Cond.methodLink RX6 113 yX6_goesToken]
def wsX6_store_r3 : List Cond := [Cond.instanceMethod yX6_goesToken, Cond.selects RX6 yX6_goesToken yX6_goesToken, Cond.code yX6_goesToken cX6_goesToken 6 none, Cond.methodLink RX6 102 yX6_comes, Cond.instanceMethod yX6_comes, Cond.selects RX6 yX6_comes yX6_comes, Cond.code yX6_comes cX6_comes 5 none, Cond.fieldLink RX6 22 "IndentRulesModel" "tokenOf" "[I", Cond.fieldLink RX6 34 "IndentRulesModel" "partnerOf" "[I", Cond.methodLink RX6 106 yX6_closes, Cond.instanceMethod yX6_closes, Cond.selects RX6 yX6_closes yX6_closes, Cond.code yX6_closes cX6_closes 4 none, Cond.methodLink RX6 116 yX6_widthOf, Cond.static yX6_widthOf, Cond.code yX6_widthOf cX6_widthOf 1 (some .int), Cond.methodLink RX6 168 yX6_isPocket, Cond.static yX6_isPocket, Cond.code yX6_isPocket cX6_isPocket 1 (some .boolean), Cond.methodLink RX6 77 yX6_within, Cond.static yX6_within, Cond.code yX6_within cX6_within 3 (some .boolean), Cond.methodLink RX6 171 yX6_isOf, Cond.static yX6_isOf]
def wsX6_store_r4 : List Cond := [Cond.code yX6_isOf cX6_isOf 2 (some .boolean)]
def wsX6_store : List Cond := .code yX6_store cX6_store 4 (some .int) :: ((wsX6_store_r1 ++ (wsX6_store_r2 ++ (wsX6_store_r3 ++ wsX6_store_r4))) ++ wsX60)
def wsX6_copy : List Cond := .code yX6_copy cX6_copy 4 (some .int) :: ([.fieldLink RX6 58 "IndentRulesModel" "cellsOf" "[I", .fieldLink RX6 61 "IndentRulesModel" "sortOf" "[I", .fieldLink RX6 64 "IndentRulesModel" "keptLine" "[I", .fieldLink RX6 67 "IndentRulesModel" "keptAt" "[I", .fieldLink RX6 70 "IndentRulesModel" "keptKind" "[I", .methodLink RX6 168 yX6_isPocket, .static yX6_isPocket, .initialized RX6, .code yX6_isPocket cX6_isPocket 1 (some .boolean), .methodLink RX6 77 yX6_within, .static yX6_within, .code yX6_within cX6_within 3 (some .boolean)] ++ wsX60)
def wsX6_ofPocket : List Cond := .code yX6_ofPocket cX6_ofPocket 5 (some .int) :: ([.fieldLink RX6 58 "IndentRulesModel" "cellsOf" "[I", .fieldLink RX6 64 "IndentRulesModel" "keptLine" "[I", .fieldLink RX6 67 "IndentRulesModel" "keptAt" "[I", .fieldLink RX6 70 "IndentRulesModel" "keptKind" "[I", .methodLink RX6 168 yX6_isPocket, .static yX6_isPocket, .initialized RX6, .code yX6_isPocket cX6_isPocket 1 (some .boolean), .methodLink RX6 77 yX6_within, .static yX6_within, .code yX6_within cX6_within 3 (some .boolean)] ++ wsX60)
def wsX6_manyWithout : List Cond := .code yX6_manyWithout cX6_manyWithout 3 (some .int) :: ([.fieldLink RX6 95 "IndentRulesModel" "openers" "I", .fieldLink RX6 34 "IndentRulesModel" "partnerOf" "[I"] ++ wsX60)
def wsX6_manyOf : List Cond := .code yX6_manyOf cX6_manyOf 4 (some .int) :: ([.fieldLink RX6 73 "IndentRulesModel" "lines" "I", .fieldLink RX6 43 "IndentRulesModel" "strayOf" "[I", .fieldLink RX6 13 "IndentRulesModel" "seen" "[I", .fieldLink RX6 7 "IndentRulesModel" "row" "[I", .methodLink RX6 81 yX6_lengthOf, .static yX6_lengthOf, .initialized RX6, .code yX6_lengthOf cX6_lengthOf 3 (some .int)] ++ wsX60)
def wsX6_many_r1 : List Cond := [Cond.fieldLink RX6 73 "IndentRulesModel" "lines" "I", Cond.fieldLink RX6 95 "IndentRulesModel" "openers" "I", Cond.methodLink RX6 126 yX6_goes, Cond.instanceMethod yX6_goes, Cond.selects RX6 yX6_goes yX6_goes, Cond.initialized RX6, Cond.code yX6_goes cX6_goes 1 none, Cond.fieldLink RX6 16 "IndentRulesModel" "style" "[I", Cond.methodLink RX6 123 yX6_goesBy, Cond.instanceMethod yX6_goesBy, Cond.selects RX6 yX6_goesBy yX6_goesBy, Cond.code yX6_goesBy cX6_goesBy 6 none, Cond.fieldLink RX6 49 "IndentRulesModel" "by" "[I", Cond.fieldLink RX6 85 "IndentRulesModel" "deep" "I", Cond.fieldLink RX6 92 "IndentRulesModel" "last" "I", Cond.methodLink RX6 119 yX6_goesLine, Cond.instanceMethod yX6_goesLine, Cond.selects RX6 yX6_goesLine yX6_goesLine, Cond.code yX6_goesLine cX6_goesLine 6 none, Cond.fieldLink RX6 7 "IndentRulesModel" "row" "[I", Cond.fieldLink RX6 40 "IndentRulesModel" "openOf" "[I", Cond.fieldLink RX6 43 "IndentRulesModel" "strayOf" "[I", Cond.fieldLink RX6 37 "IndentRulesModel" "columnOf" "[I", Cond.methodLink RX6 81 yX6_lengthOf]
def wsX6_many_r2 : List Cond := [Cond.static yX6_lengthOf, Cond.code yX6_lengthOf cX6_lengthOf 3 (some .int), Cond.methodLink RX6 98 yX6_tokenAt, Cond.static yX6_tokenAt, Cond.code yX6_tokenAt cX6_tokenAt 4 (some .int), Cond.methodLink RX6 110 yX6_columnFor, Cond.instanceMethod yX6_columnFor, Cond.selects RX6 yX6_columnFor yX6_columnFor, Cond.code yX6_columnFor cX6_columnFor 6 (some .int), Cond.fieldLink RX6 31 "IndentRulesModel" "kindOf" "[I", Cond.fieldLink RX6 28 "IndentRulesModel" "baseOf" "[I", Cond.fieldLink RX6 25 "IndentRulesModel" "atOf" "[I", Cond.methodLink RX6 88 yX6_top, Cond.instanceMethod yX6_top, Cond.selects RX6 yX6_top yX6_top, Cond.code yX6_top cX6_top 1 (some .int), Cond.fieldLink RX6 46 "IndentRulesModel" "stack" "[I", Cond.methodLink RX6 113 yX6_goesToken, Cond.instanceMethod yX6_goesToken, Cond.selects RX6 yX6_goesToken yX6_goesToken, Cond.code yX6_goesToken cX6_goesToken 6 none, Cond.methodLink RX6 102 yX6_comes, Cond.instanceMethod yX6_comes, Cond.selects RX6 yX6_comes yX6_comes]
def wsX6_many_r3 : List Cond := [Cond.code yX6_comes cX6_comes 5 none, Cond.fieldLink RX6 19 "IndentRulesModel" "lineOf" "[I", Cond.fieldLink RX6 22 "IndentRulesModel" "tokenOf" "[I", Cond.fieldLink RX6 34 "IndentRulesModel" "partnerOf" "[I", Cond.methodLink RX6 106 yX6_closes, Cond.instanceMethod yX6_closes, Cond.selects RX6 yX6_closes yX6_closes, Cond.code yX6_closes cX6_closes 4 none, Cond.methodLink RX6 116 yX6_widthOf, Cond.static yX6_widthOf, Cond.code yX6_widthOf cX6_widthOf 1 (some .int), Cond.methodLink RX6 174 yX6_manyWithout, Cond.instanceMethod yX6_manyWithout, Cond.selects RX6 yX6_manyWithout yX6_manyWithout, Cond.code yX6_manyWithout cX6_manyWithout 3 (some .int), Cond.methodLink RX6 177 yX6_manyOf, Cond.instanceMethod yX6_manyOf, Cond.selects RX6 yX6_manyOf yX6_manyOf, Cond.code yX6_manyOf cX6_manyOf 4 (some .int), Cond.fieldLink RX6 13 "IndentRulesModel" "seen" "[I"]
def wsX6_many : List Cond := .code yX6_many cX6_many 2 (some .int) :: ((wsX6_many_r1 ++ (wsX6_many_r2 ++ wsX6_many_r3)) ++ wsX60)
def wsJ9_min_7cf53 : List Cond := .code yJ9_min_7cf53 cJ9_min_7cf53 2 (some .int) :: ([])
def wsL_law_r1 : List Cond := [Cond.classLink RL 7 RX5, Cond.instantiable RX5 7, Cond.initialized RX5, Cond.classLink RL 10 RX6, Cond.instantiable RX6 25, Cond.initialized RX6, Cond.methodLink RL 9 yX5_init, Cond.instanceMethod yX5_init, Cond.code yX5_init cX5_init 2 none, Cond.methodLink RX5 3 objectInit, Cond.instanceMethod objectInit, Cond.code objectInit ⟨#[0xb1]⟩ 1 none, Cond.classLink RX5 9 RX4, Cond.instantiable RX4 2, Cond.initialized RX4, Cond.fieldLink RX5 12 "IndentRules" "text" "LIndentRules$Text;", Cond.classLink RX5 16 RX2, Cond.instantiable RX2 14, Cond.initialized RX2, Cond.fieldLink RX5 19 "IndentRules" "nesting" "LIndentRules$Nesting;", Cond.classLink RX5 23 RX0, Cond.instantiable RX0 2, Cond.initialized RX0, Cond.fieldLink RX5 26 "IndentRules" "now" "LIndentRules$Layout;"]
def wsL_law_r2 : List Cond := [Cond.fieldLink RX5 30 "IndentRules" "tried" "LIndentRules$Layout;", Cond.arrayClass .int, Cond.fieldLink RX5 33 "IndentRules" "guessed" "[I", Cond.classLink RX5 37 RX3, Cond.fieldLink RX5 39 "IndentRules" "pockets" "[LIndentRules$Pocket;", Cond.instantiable RX3 5, Cond.initialized RX3, Cond.methodLink RX5 11 yX4_init, Cond.instanceMethod yX4_init, Cond.code yX4_init cX4_init 2 none, Cond.methodLink RX4 3 objectInit, Cond.classLink RX4 9 RX1, Cond.fieldLink RX4 11 "IndentRules$Text" "lines" "[LIndentRules$Line;", Cond.instantiable RX1 6, Cond.initialized RX1, Cond.instanceMethod yX1_init, Cond.code yX1_init cX1_init 1 none, Cond.methodLink RX1 3 objectInit, Cond.fieldLink RX1 9 "IndentRules$Line" "tokens" "[I", Cond.fieldLink RX1 15 "IndentRules$Line" "seen" "I", Cond.instanceMethod yX2_init, Cond.code yX2_init cX2_init 1 none, Cond.methodLink RX2 3 objectInit, Cond.fieldLink RX2 9 "IndentRules$Nesting" "tops" "[I"]
def wsL_law_r3 : List Cond := [Cond.fieldLink RX2 15 "IndentRules$Nesting" "depths" "[I", Cond.fieldLink RX2 18 "IndentRules$Nesting" "lasts" "[I", Cond.fieldLink RX2 21 "IndentRules$Nesting" "strays" "[I", Cond.fieldLink RX2 24 "IndentRules$Nesting" "sortOf" "[I", Cond.fieldLink RX2 27 "IndentRules$Nesting" "lineOf" "[I", Cond.fieldLink RX2 30 "IndentRules$Nesting" "tokenOf" "[I", Cond.fieldLink RX2 33 "IndentRules$Nesting" "widthAheadOf" "[I", Cond.arrayClass .boolean, Cond.fieldLink RX2 36 "IndentRules$Nesting" "followed" "[Z", Cond.fieldLink RX2 40 "IndentRules$Nesting" "partnerLineOf" "[I", Cond.fieldLink RX2 43 "IndentRules$Nesting" "open" "[I", Cond.instanceMethod yX0_init, Cond.code yX0_init cX0_init 1 none, Cond.methodLink RX0 3 objectInit, Cond.fieldLink RX0 9 "IndentRules$Layout" "settings" "[I", Cond.fieldLink RX0 15 "IndentRules$Layout" "columns" "[I", Cond.methodLink RX5 43 yX0_choose, Cond.instanceMethod yX0_choose, Cond.selects RX0 yX0_choose yX0_choose, Cond.code yX0_choose cX0_choose 5 none, Cond.instanceMethod yX3_init, Cond.code yX3_init cX3_init 1 none, Cond.methodLink RX3 3 objectInit, Cond.fieldLink RX3 9 "IndentRules$Pocket" "lineIn" "[I"]
def wsL_law_r4 : List Cond := [Cond.fieldLink RX3 15 "IndentRules$Pocket" "placeIn" "[I", Cond.fieldLink RX3 18 "IndentRules$Pocket" "kindIn" "[I", Cond.methodLink RL 12 yX6_init, Cond.instanceMethod yX6_init, Cond.code yX6_init cX6_init 2 none, Cond.methodLink RX6 1 objectInit, Cond.fieldLink RX6 7 "IndentRulesModel" "row" "[I", Cond.fieldLink RX6 13 "IndentRulesModel" "seen" "[I", Cond.fieldLink RX6 16 "IndentRulesModel" "style" "[I", Cond.fieldLink RX6 19 "IndentRulesModel" "lineOf" "[I", Cond.fieldLink RX6 22 "IndentRulesModel" "tokenOf" "[I", Cond.fieldLink RX6 25 "IndentRulesModel" "atOf" "[I", Cond.fieldLink RX6 28 "IndentRulesModel" "baseOf" "[I", Cond.fieldLink RX6 31 "IndentRulesModel" "kindOf" "[I", Cond.fieldLink RX6 34 "IndentRulesModel" "partnerOf" "[I", Cond.fieldLink RX6 37 "IndentRulesModel" "columnOf" "[I", Cond.fieldLink RX6 40 "IndentRulesModel" "openOf" "[I", Cond.fieldLink RX6 43 "IndentRulesModel" "strayOf" "[I", Cond.fieldLink RX6 46 "IndentRulesModel" "stack" "[I", Cond.fieldLink RX6 49 "IndentRulesModel" "by" "[I", Cond.fieldLink RX6 52 "IndentRulesModel" "columnWas" "[I", Cond.fieldLink RX6 55 "IndentRulesModel" "guessed" "[I", Cond.fieldLink RX6 58 "IndentRulesModel" "cellsOf" "[I", Cond.fieldLink RX6 61 "IndentRulesModel" "sortOf" "[I"]
def wsL_law_r5 : List Cond := [Cond.fieldLink RX6 64 "IndentRulesModel" "keptLine" "[I", Cond.fieldLink RX6 67 "IndentRulesModel" "keptAt" "[I", Cond.fieldLink RX6 70 "IndentRulesModel" "keptKind" "[I", Cond.methodLink RL 13 yX5_put, Cond.instanceMethod yX5_put, Cond.selects RX5 yX5_put yX5_put, Cond.code yX5_put cX5_put 3 (some .int), Cond.fieldLink RX5 48 "IndentRules$Text" "size" "I", Cond.methodLink RX5 52 yX5_areTokens, Cond.static yX5_areTokens, Cond.code yX5_areTokens cX5_areTokens 3 (some .boolean), Cond.constant RX5 210 (999999999), Cond.methodLink RX5 56 yX5_rememberColumns, Cond.instanceMethod yX5_rememberColumns, Cond.selects RX5 yX5_rememberColumns yX5_rememberColumns, Cond.code yX5_rememberColumns cX5_rememberColumns 2 none, Cond.fieldLink RX5 73 "IndentRules$Text" "lines" "[LIndentRules$Line;", Cond.fieldLink RX5 100 "IndentRules$Layout" "columns" "[I", Cond.fieldLink RX5 220 "IndentRules$Line" "columnBefore" "I", Cond.methodLink RX5 59 yX4_insert, Cond.instanceMethod yX4_insert, Cond.selects RX4 yX4_insert yX4_insert, Cond.code yX4_insert cX4_insert 5 none, Cond.fieldLink RX4 18 "IndentRules$Text" "size" "I"]
def wsL_law_r6 : List Cond := [Cond.fieldLink RX4 26 "IndentRules$Line" "seen" "I", Cond.methodLink RX4 22 yX1_read, Cond.instanceMethod yX1_read, Cond.selects RX1 yX1_read yX1_read, Cond.code yX1_read cX1_read 4 none, Cond.fieldLink RX1 19 "IndentRules$Line" "told" "I", Cond.fieldLink RX1 26 "IndentRules$Line" "count" "I", Cond.fieldLink RX1 29 "IndentRules$Line" "present" "I", Cond.methodLink RX1 22 yX1_digitsOf, Cond.static yX1_digitsOf, Cond.code yX1_digitsOf cX1_digitsOf 4 (some .int), Cond.methodLink RX5 63 yX5_readLines, Cond.instanceMethod yX5_readLines, Cond.selects RX5 yX5_readLines yX5_readLines, Cond.code yX5_readLines cX5_readLines 1 none, Cond.methodLink RX5 217 yX2_read, Cond.instanceMethod yX2_read, Cond.selects RX2 yX2_read yX2_read, Cond.code yX2_read cX2_read 3 none, Cond.fieldLink RX2 46 "IndentRules$Nesting" "openers" "I", Cond.fieldLink RX2 50 "IndentRules$Nesting" "height" "I", Cond.fieldLink RX2 53 "IndentRules$Nesting" "last" "I", Cond.fieldLink RX2 56 "IndentRules$Text" "size" "I", Cond.fieldLink RX2 61 "IndentRules$Text" "lines" "[LIndentRules$Line;"]
def wsL_law_r7 : List Cond := [Cond.methodLink RX2 65 yX2_readLine, Cond.instanceMethod yX2_readLine, Cond.selects RX2 yX2_readLine yX2_readLine, Cond.code yX2_readLine cX2_readLine 5 none, Cond.fieldLink RX2 69 "IndentRules$Line" "present" "I", Cond.fieldLink RX2 74 "IndentRules$Line" "tokens" "[I", Cond.methodLink RX2 77 yX2_openOne, Cond.instanceMethod yX2_openOne, Cond.selects RX2 yX2_openOne yX2_openOne, Cond.code yX2_openOne cX2_openOne 4 none, Cond.methodLink RX2 85 yX1_widthAhead, Cond.instanceMethod yX1_widthAhead, Cond.selects RX1 yX1_widthAhead yX1_widthAhead, Cond.code yX1_widthAhead cX1_widthAhead 4 (some .int), Cond.methodLink RX2 89 yX1_isFollowed, Cond.instanceMethod yX1_isFollowed, Cond.selects RX1 yX1_isFollowed yX1_isFollowed, Cond.code yX1_isFollowed cX1_isFollowed 3 (some .boolean), Cond.methodLink RX2 81 yX2_closeOne, Cond.instanceMethod yX2_closeOne, Cond.selects RX2 yX2_closeOne yX2_closeOne, Cond.code yX2_closeOne cX2_closeOne 3 none, Cond.methodLink RX5 93 yX0_lay, Cond.instanceMethod yX0_lay]
def wsL_law_r8 : List Cond := [Cond.selects RX0 yX0_lay yX0_lay, Cond.code yX0_lay cX0_lay 5 none, Cond.fieldLink RX0 18 "IndentRules$Text" "size" "I", Cond.fieldLink RX0 24 "IndentRules$Text" "lines" "[LIndentRules$Line;", Cond.fieldLink RX0 28 "IndentRules$Line" "count" "I", Cond.fieldLink RX0 33 "IndentRules$Line" "tokens" "[I", Cond.methodLink RX0 36 yX0_columnBehind, Cond.instanceMethod yX0_columnBehind, Cond.selects RX0 yX0_columnBehind yX0_columnBehind, Cond.code yX0_columnBehind cX0_columnBehind 6 (some .int), Cond.fieldLink RX0 40 "IndentRules$Nesting" "tops" "[I", Cond.fieldLink RX0 45 "IndentRules$Nesting" "lasts" "[I", Cond.fieldLink RX0 52 "IndentRules$Nesting" "sortOf" "[I", Cond.methodLink RX0 48 yX0_goingOn, Cond.instanceMethod yX0_goingOn, Cond.selects RX0 yX0_goingOn yX0_goingOn, Cond.code yX0_goingOn cX0_goingOn 3 (some .int), Cond.methodLink RX0 55 yX0_columnInBracket, Cond.instanceMethod yX0_columnInBracket, Cond.selects RX0 yX0_columnInBracket yX0_columnInBracket, Cond.code yX0_columnInBracket cX0_columnInBracket 6 (some .int), Cond.methodLink RX0 62 yX0_isAligned, Cond.instanceMethod yX0_isAligned, Cond.selects RX0 yX0_isAligned yX0_isAligned]
def wsL_law_r9 : List Cond := [Cond.code yX0_isAligned cX0_isAligned 3 (some .boolean), Cond.fieldLink RX0 69 "IndentRules$Nesting" "followed" "[Z", Cond.methodLink RX0 66 yX0_placeOf, Cond.instanceMethod yX0_placeOf, Cond.selects RX0 yX0_placeOf yX0_placeOf, Cond.code yX0_placeOf cX0_placeOf 3 (some .int), Cond.fieldLink RX0 73 "IndentRules$Nesting" "lineOf" "[I", Cond.fieldLink RX0 76 "IndentRules$Nesting" "widthAheadOf" "[I", Cond.methodLink RX0 58 yX0_baseOf, Cond.instanceMethod yX0_baseOf, Cond.selects RX0 yX0_baseOf yX0_baseOf, Cond.code yX0_baseOf cX0_baseOf 3 (some .int), Cond.methodLink RX5 66 yX5_movedBut, Cond.instanceMethod yX5_movedBut, Cond.selects RX5 yX5_movedBut yX5_movedBut, Cond.code yX5_movedBut cX5_movedBut 4 (some .int), Cond.methodLink RL 17 yX6_put, Cond.instanceMethod yX6_put, Cond.selects RX6 yX6_put yX6_put, Cond.code yX6_put cX6_put 4 (some .int), Cond.fieldLink RX6 73 "IndentRulesModel" "lines" "I", Cond.methodLink RX6 77 yX6_within, Cond.static yX6_within, Cond.code yX6_within cX6_within 3 (some .boolean)]
def wsL_law_r10 : List Cond := [Cond.methodLink RX6 129 yX6_areTokens, Cond.static yX6_areTokens, Cond.code yX6_areTokens cX6_areTokens 2 (some .boolean), Cond.methodLink RX6 81 yX6_lengthOf, Cond.static yX6_lengthOf, Cond.code yX6_lengthOf cX6_lengthOf 3 (some .int), Cond.methodLink RX6 133 yX6_notes, Cond.instanceMethod yX6_notes, Cond.selects RX6 yX6_notes yX6_notes, Cond.code yX6_notes cX6_notes 2 none, Cond.methodLink RX6 126 yX6_goes, Cond.instanceMethod yX6_goes, Cond.selects RX6 yX6_goes yX6_goes, Cond.code yX6_goes cX6_goes 1 none, Cond.methodLink RX6 123 yX6_goesBy, Cond.instanceMethod yX6_goesBy, Cond.selects RX6 yX6_goesBy yX6_goesBy, Cond.code yX6_goesBy cX6_goesBy 6 none, Cond.fieldLink RX6 95 "IndentRulesModel" "openers" "I", Cond.fieldLink RX6 85 "IndentRulesModel" "deep" "I", Cond.fieldLink RX6 92 "IndentRulesModel" "last" "I", Cond.methodLink RX6 119 yX6_goesLine, Cond.instanceMethod yX6_goesLine, Cond.selects RX6 yX6_goesLine yX6_goesLine]
def wsL_law_r11 : List Cond := [Cond.code yX6_goesLine cX6_goesLine 6 none, Cond.methodLink RX6 98 yX6_tokenAt, Cond.static yX6_tokenAt, Cond.code yX6_tokenAt cX6_tokenAt 4 (some .int), Cond.methodLink RX6 110 yX6_columnFor, Cond.instanceMethod yX6_columnFor, Cond.selects RX6 yX6_columnFor yX6_columnFor, Cond.code yX6_columnFor cX6_columnFor 6 (some .int), Cond.methodLink RX6 88 yX6_top, Cond.instanceMethod yX6_top, Cond.selects RX6 yX6_top yX6_top, Cond.code yX6_top cX6_top 1 (some .int), Cond.methodLink RX6 113 yX6_goesToken, Cond.instanceMethod yX6_goesToken, Cond.selects RX6 yX6_goesToken yX6_goesToken, Cond.code yX6_goesToken cX6_goesToken 6 none, Cond.methodLink RX6 102 yX6_comes, Cond.instanceMethod yX6_comes, Cond.selects RX6 yX6_comes yX6_comes, Cond.code yX6_comes cX6_comes 5 none, Cond.methodLink RX6 106 yX6_closes, Cond.instanceMethod yX6_closes, Cond.selects RX6 yX6_closes yX6_closes, Cond.code yX6_closes cX6_closes 4 none]
def wsL_law_r12 : List Cond := [Cond.methodLink RX6 116 yX6_widthOf, Cond.static yX6_widthOf, Cond.code yX6_widthOf cX6_widthOf 1 (some .int), Cond.methodLink RX6 136 yX6_moved, Cond.instanceMethod yX6_moved, Cond.selects RX6 yX6_moved yX6_moved, Cond.code yX6_moved cX6_moved 4 (some .int), Cond.methodLink RL 18 yX5_change, Cond.instanceMethod yX5_change, Cond.selects RX5 yX5_change yX5_change, Cond.code yX5_change cX5_change 3 (some .int), Cond.methodLink RX5 70 yX5_isLine, Cond.instanceMethod yX5_isLine, Cond.selects RX5 yX5_isLine yX5_isLine, Cond.code yX5_isLine cX5_isLine 2 (some .boolean), Cond.methodLink RX5 77 yX1_read, Cond.methodLink RL 21 yX6_change, Cond.instanceMethod yX6_change, Cond.selects RX6 yX6_change yX6_change, Cond.code yX6_change cX6_change 3 (some .int), Cond.methodLink RX6 139 yX6_isLine, Cond.instanceMethod yX6_isLine, Cond.selects RX6 yX6_isLine yX6_isLine, Cond.code yX6_isLine cX6_isLine 2 (some .boolean)]
def wsL_law_r13 : List Cond := [Cond.methodLink RL 22 yX5_take, Cond.instanceMethod yX5_take, Cond.selects RX5 yX5_take yX5_take, Cond.code yX5_take cX5_take 2 (some .int), Cond.methodLink RX5 83 yX4_remove, Cond.instanceMethod yX4_remove, Cond.selects RX4 yX4_remove yX4_remove, Cond.code yX4_remove cX4_remove 4 none, Cond.methodLink RL 26 yX6_take, Cond.instanceMethod yX6_take, Cond.selects RX6 yX6_take yX6_take, Cond.code yX6_take cX6_take 3 (some .int), Cond.methodLink RL 27 yX5_style, Cond.instanceMethod yX5_style, Cond.selects RX5 yX5_style yX5_style, Cond.code yX5_style cX5_style 4 (some .int), Cond.fieldLink RX5 90 "IndentRules$Layout" "settings" "[I", Cond.methodLink RX5 86 yX5_isSetting, Cond.static yX5_isSetting, Cond.code yX5_isSetting cX5_isSetting 2 (some .boolean), Cond.fieldLink RX5 211 "IndentRules" "LEAST" "[I", Cond.fieldLink RX5 214 "IndentRules" "MOST" "[I", Cond.methodLink RL 30 yX6_style, Cond.instanceMethod yX6_style]
def wsL_law_r14 : List Cond := [Cond.selects RX6 yX6_style yX6_style, Cond.code yX6_style cX6_style 4 (some .int), Cond.methodLink RX6 142 yX6_maySet, Cond.static yX6_maySet, Cond.code yX6_maySet cX6_maySet 2 (some .boolean), Cond.methodLink RL 31 yX5_ofLine, Cond.instanceMethod yX5_ofLine, Cond.selects RX5 yX5_ofLine yX5_ofLine, Cond.code yX5_ofLine cX5_ofLine 4 (some .int), Cond.fieldLink RX5 97 "IndentRules$Line" "told" "I", Cond.fieldLink RX5 103 "IndentRules$Line" "count" "I", Cond.fieldLink RX5 109 "IndentRules$Nesting" "depths" "[I", Cond.fieldLink RX5 112 "IndentRules$Nesting" "strays" "[I", Cond.fieldLink RX5 115 "IndentRules$Line" "seen" "I", Cond.methodLink RX5 106 yX1_widthAhead, Cond.methodLink RL 34 yX6_ofLine, Cond.instanceMethod yX6_ofLine, Cond.selects RX6 yX6_ofLine yX6_ofLine, Cond.code yX6_ofLine cX6_ofLine 3 (some .int), Cond.methodLink RX6 146 yX6_widthsOf, Cond.instanceMethod yX6_widthsOf, Cond.selects RX6 yX6_widthsOf yX6_widthsOf, Cond.code yX6_widthsOf cX6_widthsOf 4 (some .int), Cond.methodLink RL 35 yX5_opener]
def wsL_law_r15 : List Cond := [Cond.instanceMethod yX5_opener, Cond.selects RX5 yX5_opener yX5_opener, Cond.code yX5_opener cX5_opener 3 (some .int), Cond.fieldLink RX5 121 "IndentRules$Nesting" "lineOf" "[I", Cond.fieldLink RX5 124 "IndentRules$Nesting" "tokenOf" "[I", Cond.fieldLink RX5 137 "IndentRules$Nesting" "partnerLineOf" "[I", Cond.methodLink RX5 118 yX5_isOpener, Cond.instanceMethod yX5_isOpener, Cond.selects RX5 yX5_isOpener yX5_isOpener, Cond.code yX5_isOpener cX5_isOpener 2 (some .boolean), Cond.fieldLink RX5 195 "IndentRules$Nesting" "openers" "I", Cond.methodLink RX5 127 yX0_placeOf, Cond.methodLink RX5 131 yX0_baseOf, Cond.methodLink RX5 134 yX0_kindOf, Cond.instanceMethod yX0_kindOf, Cond.selects RX0 yX0_kindOf yX0_kindOf, Cond.code yX0_kindOf cX0_kindOf 3 (some .int), Cond.methodLink RL 38 yX6_opener, Cond.instanceMethod yX6_opener, Cond.selects RX6 yX6_opener yX6_opener, Cond.code yX6_opener cX6_opener 3 (some .int), Cond.methodLink RL 39 yX5_unlike, Cond.instanceMethod yX5_unlike, Cond.selects RX5 yX5_unlike yX5_unlike]
def wsL_law_r16 : List Cond := [Cond.code yX5_unlike cX5_unlike 3 (some .int), Cond.methodLink RX5 140 yX1_counts, Cond.instanceMethod yX1_counts, Cond.selects RX1 yX1_counts yX1_counts, Cond.code yX1_counts cX1_counts 1 (some .boolean), Cond.methodLink RX5 144 yX5_isAsSeen, Cond.instanceMethod yX5_isAsSeen, Cond.selects RX5 yX5_isAsSeen yX5_isAsSeen, Cond.code yX5_isAsSeen cX5_isAsSeen 4 (some .boolean), Cond.methodLink RL 42 yX6_unlike, Cond.instanceMethod yX6_unlike, Cond.selects RX6 yX6_unlike yX6_unlike, Cond.code yX6_unlike cX6_unlike 3 (some .int), Cond.methodLink RX6 149 yX6_counts, Cond.instanceMethod yX6_counts, Cond.selects RX6 yX6_counts yX6_counts, Cond.code yX6_counts cX6_counts 2 (some .boolean), Cond.methodLink RL 43 yX5_see, Cond.instanceMethod yX5_see, Cond.selects RX5 yX5_see yX5_see, Cond.code yX5_see cX5_see 5 (some .int), Cond.methodLink RL 46 yX6_see, Cond.instanceMethod yX6_see, Cond.selects RX6 yX6_see yX6_see]
def wsL_law_r17 : List Cond := [Cond.code yX6_see cX6_see 4 (some .int), Cond.methodLink RL 47 yX5_fits, Cond.instanceMethod yX5_fits, Cond.selects RX5 yX5_fits yX5_fits, Cond.code yX5_fits cX5_fits 7 (some .int), Cond.methodLink RX5 148 yX5_isStyle, Cond.static yX5_isStyle, Cond.code yX5_isStyle cX5_isStyle 4 (some .boolean), Cond.methodLink RX5 152 yX5_layTried, Cond.instanceMethod yX5_layTried, Cond.selects RX5 yX5_layTried yX5_layTried, Cond.code yX5_layTried cX5_layTried 5 none, Cond.methodLink RL 51 yX6_fits, Cond.instanceMethod yX6_fits, Cond.selects RX6 yX6_fits yX6_fits, Cond.code yX6_fits cX6_fits 7 (some .int), Cond.methodLink RX6 152 yX6_isStyle, Cond.static yX6_isStyle, Cond.code yX6_isStyle cX6_isStyle 4 (some .boolean), Cond.methodLink RL 52 yX5_score, Cond.instanceMethod yX5_score, Cond.selects RX5 yX5_score yX5_score, Cond.code yX5_score cX5_score 7 (some .int), Cond.methodLink RX5 155 yX5_partsOfTried]
def wsL_law_r18 : List Cond := [Cond.instanceMethod yX5_partsOfTried, Cond.selects RX5 yX5_partsOfTried yX5_partsOfTried, Cond.code yX5_partsOfTried cX5_partsOfTried 3 (some .int), Cond.methodLink RX5 223 Lib.Math.min.name, Cond.static Lib.Math.min.name, Cond.initialized "java/lang/Math", Cond.code Lib.Math.min.name Lib.Math.min.code 2 (some .int), Cond.methodLink RX5 159 yX5_floatBits, Cond.static yX5_floatBits, Cond.code yX5_floatBits cX5_floatBits 4 (some .int), Cond.methodLink RL 56 yX6_score, Cond.instanceMethod yX6_score, Cond.selects RX6 yX6_score yX6_score, Cond.code yX6_score cX6_score 7 (some .int), Cond.methodLink RX6 157 yX6_scoreBy, Cond.instanceMethod yX6_scoreBy, Cond.selects RX6 yX6_scoreBy yX6_scoreBy, Cond.code yX6_scoreBy cX6_scoreBy 8 (some .int), Cond.methodLink RX6 161 yX6_bitsOf, Cond.static yX6_bitsOf, Cond.code yX6_bitsOf cX6_bitsOf 2 (some .int), Cond.constant RX6 156 (8388607), Cond.methodLink RL 57 yX5_guess, Cond.instanceMethod yX5_guess]
def wsL_law_r19 : List Cond := [Cond.selects RX5 yX5_guess yX5_guess, Cond.code yX5_guess cX5_guess 2 (some .int), Cond.fieldLink RX5 168 "IndentRules" "guessedParts" "I", Cond.methodLink RX5 162 yX5_hasSeenTokens, Cond.instanceMethod yX5_hasSeenTokens, Cond.selects RX5 yX5_hasSeenTokens yX5_hasSeenTokens, Cond.code yX5_hasSeenTokens cX5_hasSeenTokens 2 (some .boolean), Cond.methodLink RX5 165 yX5_findGuess, Cond.instanceMethod yX5_findGuess, Cond.selects RX5 yX5_findGuess yX5_findGuess, Cond.code yX5_findGuess cX5_findGuess 5 none, Cond.methodLink RX5 228 yX5_keepIfBetter, Cond.instanceMethod yX5_keepIfBetter, Cond.selects RX5 yX5_keepIfBetter yX5_keepIfBetter, Cond.code yX5_keepIfBetter cX5_keepIfBetter 3 none, Cond.methodLink RL 60 yX6_guess, Cond.instanceMethod yX6_guess, Cond.selects RX6 yX6_guess yX6_guess, Cond.code yX6_guess cX6_guess 2 (some .int), Cond.methodLink RX6 164 yX6_guesses, Cond.instanceMethod yX6_guesses, Cond.selects RX6 yX6_guesses yX6_guesses, Cond.code yX6_guesses cX6_guesses 4 (some .boolean), Cond.methodLink RL 61 yX5_follow]
def wsL_law_r20 : List Cond := [Cond.instanceMethod yX5_follow, Cond.selects RX5 yX5_follow yX5_follow, Cond.code yX5_follow cX5_follow 1 (some .int), Cond.methodLink RL 65 yX6_follow, Cond.instanceMethod yX6_follow, Cond.selects RX6 yX6_follow yX6_follow, Cond.code yX6_follow cX6_follow 2 (some .int), Cond.methodLink RL 66 yX5_pocket, Cond.instanceMethod yX5_pocket, Cond.selects RX5 yX5_pocket yX5_pocket, Cond.code yX5_pocket cX5_pocket 4 (some .int), Cond.methodLink RX5 171 yX5_isPocket, Cond.static yX5_isPocket, Cond.code yX5_isPocket cX5_isPocket 1 (some .boolean), Cond.methodLink RX5 174 yX3_renew, Cond.instanceMethod yX3_renew, Cond.selects RX3 yX3_renew yX3_renew, Cond.code yX3_renew cX3_renew 4 none, Cond.fieldLink RX3 21 "IndentRules$Pocket" "kind" "I", Cond.fieldLink RX3 25 "IndentRules$Pocket" "size" "I", Cond.methodLink RX3 28 yX3_fill, Cond.instanceMethod yX3_fill, Cond.selects RX3 yX3_fill yX3_fill, Cond.code yX3_fill cX3_fill 5 none]
def wsL_law_r21 : List Cond := [Cond.methodLink RL 70 yX6_pocket, Cond.instanceMethod yX6_pocket, Cond.selects RX6 yX6_pocket yX6_pocket, Cond.code yX6_pocket cX6_pocket 5 (some .int), Cond.methodLink RX6 168 yX6_isPocket, Cond.static yX6_isPocket, Cond.code yX6_isPocket cX6_isPocket 1 (some .boolean), Cond.methodLink RL 71 yX5_store, Cond.instanceMethod yX5_store, Cond.selects RX5 yX5_store yX5_store, Cond.code yX5_store cX5_store 6 (some .int), Cond.fieldLink RX5 177 "IndentRules$Pocket" "size" "I", Cond.methodLink RX5 178 yX3_hasCell, Cond.instanceMethod yX3_hasCell, Cond.selects RX3 yX3_hasCell yX3_hasCell, Cond.code yX3_hasCell cX3_hasCell 2 (some .boolean), Cond.methodLink RX5 181 yX3_takes, Cond.instanceMethod yX3_takes, Cond.selects RX3 yX3_takes yX3_takes, Cond.code yX3_takes cX3_takes 2 (some .boolean), Cond.methodLink RX5 184 yX3_fill, Cond.methodLink RL 74 yX6_store, Cond.instanceMethod yX6_store, Cond.selects RX6 yX6_store yX6_store]
def wsL_law_r22 : List Cond := [Cond.code yX6_store cX6_store 4 (some .int), Cond.methodLink RX6 171 yX6_isOf, Cond.static yX6_isOf, Cond.code yX6_isOf cX6_isOf 2 (some .boolean), Cond.methodLink RL 75 yX5_copy, Cond.instanceMethod yX5_copy, Cond.selects RX5 yX5_copy yX5_copy, Cond.code yX5_copy cX5_copy 3 (some .int), Cond.methodLink RX5 187 yX3_becomeLike, Cond.instanceMethod yX3_becomeLike, Cond.selects RX3 yX3_becomeLike yX3_becomeLike, Cond.code yX3_becomeLike cX3_becomeLike 3 none, Cond.methodLink RL 78 yX6_copy, Cond.instanceMethod yX6_copy, Cond.selects RX6 yX6_copy yX6_copy, Cond.code yX6_copy cX6_copy 4 (some .int), Cond.methodLink RL 79 yX5_ofPocket, Cond.instanceMethod yX5_ofPocket, Cond.selects RX5 yX5_ofPocket yX5_ofPocket, Cond.code yX5_ofPocket cX5_ofPocket 5 (some .int), Cond.methodLink RX5 191 yX3_tell, Cond.instanceMethod yX3_tell, Cond.selects RX3 yX3_tell yX3_tell, Cond.code yX3_tell cX3_tell 3 (some .int)]
def wsL_law_r23 : List Cond := [Cond.methodLink RL 82 yX6_ofPocket, Cond.instanceMethod yX6_ofPocket, Cond.selects RX6 yX6_ofPocket yX6_ofPocket, Cond.code yX6_ofPocket cX6_ofPocket 5 (some .int), Cond.methodLink RL 83 yX5_many, Cond.instanceMethod yX5_many, Cond.selects RX5 yX5_many yX5_many, Cond.code yX5_many cX5_many 2 (some .int), Cond.methodLink RX5 198 yX2_withoutPartner, Cond.instanceMethod yX2_withoutPartner, Cond.selects RX2 yX2_withoutPartner yX2_withoutPartner, Cond.code yX2_withoutPartner cX2_withoutPartner 3 (some .int), Cond.methodLink RX5 201 yX5_allStrays, Cond.instanceMethod yX5_allStrays, Cond.selects RX5 yX5_allStrays yX5_allStrays, Cond.code yX5_allStrays cX5_allStrays 3 (some .int), Cond.methodLink RX5 204 yX5_seenLines, Cond.instanceMethod yX5_seenLines, Cond.selects RX5 yX5_seenLines yX5_seenLines, Cond.code yX5_seenLines cX5_seenLines 3 (some .int), Cond.methodLink RX5 207 yX5_allTokens, Cond.instanceMethod yX5_allTokens, Cond.selects RX5 yX5_allTokens yX5_allTokens, Cond.code yX5_allTokens cX5_allTokens 3 (some .int)]
def wsL_law_r24 : List Cond := [Cond.methodLink RL 86 yX6_many, Cond.instanceMethod yX6_many, Cond.selects RX6 yX6_many yX6_many, Cond.code yX6_many cX6_many 2 (some .int), Cond.methodLink RX6 174 yX6_manyWithout, Cond.instanceMethod yX6_manyWithout, Cond.selects RX6 yX6_manyWithout yX6_manyWithout, Cond.code yX6_manyWithout cX6_manyWithout 3 (some .int), Cond.methodLink RX6 177 yX6_manyOf, Cond.instanceMethod yX6_manyOf, Cond.selects RX6 yX6_manyOf yX6_manyOf, Cond.code yX6_manyOf cX6_manyOf 4 (some .int)]
def wsL_law : List Cond := (wsL_law_r1 ++ (wsL_law_r2 ++ (wsL_law_r3 ++ (wsL_law_r4 ++ (wsL_law_r5 ++ (wsL_law_r6 ++ (wsL_law_r7 ++ (wsL_law_r8 ++ (wsL_law_r9 ++ (wsL_law_r10 ++ (wsL_law_r11 ++ (wsL_law_r12 ++ (wsL_law_r13 ++ (wsL_law_r14 ++ (wsL_law_r15 ++ (wsL_law_r16 ++ (wsL_law_r17 ++ (wsL_law_r18 ++ (wsL_law_r19 ++ (wsL_law_r20 ++ (wsL_law_r21 ++ (wsL_law_r22 ++ (wsL_law_r23 ++ wsL_law_r24))))))))))))))))))))))) ++ wsX50 ++ wsX60 ++ wsX40 ++ wsX20 ++ wsX00 ++ wsX30 ++ wsX10 ++ ([] : List Cond)
theorem mem_pl {big ws : List Cond} (ps : List Nat) (h : ws = ps.filterMap (fun i => big[i]?)) : ∀ w ∈ ws, w ∈ big := by
  intro w hw
  rw [h] at hw
  obtain ⟨i, -, hi⟩ := List.mem_filterMap.mp hw
  exact List.mem_of_getElem? hi
set_option maxRecDepth 20000 in
theorem in_wsL_law_r1 : ∀ w ∈ wsL_law_r1, w ∈ lw_tbl := mem_pl [47, 48, 39, 493, 494, 45, 49, 50, 51, 52, 53, 54, 55, 56, 40, 214, 109, 110, 42, 215, 171, 172, 43, 216] (by decide +kernel)
set_option maxRecDepth 20000 in
theorem in_wsL_law_r2 : ∀ w ∈ wsL_law_r2, w ∈ lw_tbl := mem_pl [217, 95, 218, 186, 220, 192, 44, 57, 58, 59, 60, 61, 96, 63, 41, 65, 66, 67, 68, 78, 112, 113, 114, 115] (by decide +kernel)
set_option maxRecDepth 20000 in
theorem in_wsL_law_r3 : ∀ w ∈ wsL_law_r3, w ∈ lw_tbl := mem_pl [117, 119, 121, 125, 127, 130, 132, 170, 134, 136, 138, 174, 175, 176, 177, 179, 188, 189, 190, 191, 194, 195, 196, 200] (by decide +kernel)
set_option maxRecDepth 20000 in
theorem in_wsL_law_r4 : ∀ w ∈ wsL_law_r4, w ∈ lw_tbl := mem_pl [201, 202, 495, 496, 497, 498, 500, 501, 502, 504, 505, 506, 507, 508, 509, 510, 511, 512, 514, 516, 517, 518, 519, 520] (by decide +kernel)
set_option maxRecDepth 20000 in
theorem in_wsL_law_r5 : ∀ w ∈ wsL_law_r5, w ∈ lw_tbl := mem_pl [521, 522, 523, 236, 237, 238, 239, 101, 240, 241, 242, 243, 244, 246, 0, 247, 99, 180, 81, 248, 249, 250, 251, 100] (by decide +kernel)
set_option maxRecDepth 20000 in
theorem in_wsL_law_r6 : ∀ w ∈ wsL_law_r6, w ∈ lw_tbl := mem_pl [79, 252, 253, 254, 255, 71, 73, 76, 256, 257, 258, 259, 261, 1, 262, 263, 264, 265, 266, 123, 139, 140, 102, 97] (by decide +kernel)
set_option maxRecDepth 20000 in
theorem in_wsL_law_r7 : ∀ w ∈ wsL_law_r7, w ∈ lw_tbl := mem_pl [267, 269, 2, 270, 77, 69, 271, 273, 3, 274, 275, 276, 277, 278, 281, 282, 283, 284, 285, 287, 4, 288, 289, 290] (by decide +kernel)
set_option maxRecDepth 20000 in
theorem in_wsL_law_r8 : ∀ w ∈ wsL_law_r8, w ∈ lw_tbl := mem_pl [291, 292, 103, 98, 74, 70, 293, 295, 5, 296, 116, 120, 126, 297, 299, 6, 300, 301, 303, 7, 304, 305, 307, 8] (by decide +kernel)
set_option maxRecDepth 20000 in
theorem in_wsL_law_r9 : ∀ w ∈ wsL_law_r9, w ∈ lw_tbl := mem_pl [308, 135, 309, 310, 311, 312, 129, 133, 313, 314, 315, 316, 317, 319, 9, 320, 575, 576, 577, 578, 499, 579, 580, 581] (by decide +kernel)
set_option maxRecDepth 20000 in
theorem in_wsL_law_r10 : ∀ w ∈ wsL_law_r10, w ∈ lw_tbl := mem_pl [582, 583, 584, 585, 586, 587, 588, 590, 21, 591, 592, 594, 22, 595, 596, 598, 23, 599, 503, 513, 515, 600, 602, 24] (by decide +kernel)
set_option maxRecDepth 20000 in
theorem in_wsL_law_r11 : ∀ w ∈ wsL_law_r11, w ∈ lw_tbl := mem_pl [603, 604, 605, 606, 607, 609, 25, 610, 611, 613, 26, 614, 615, 617, 27, 618, 619, 621, 28, 622, 623, 625, 29, 626] (by decide +kernel)
set_option maxRecDepth 20000 in
theorem in_wsL_law_r12 : ∀ w ∈ wsL_law_r12, w ∈ lw_tbl := mem_pl [627, 628, 629, 630, 632, 30, 633, 321, 322, 323, 324, 325, 327, 10, 328, 329, 634, 635, 636, 637, 638, 640, 31, 641] (by decide +kernel)
set_option maxRecDepth 20000 in
theorem in_wsL_law_r13 : ∀ w ∈ wsL_law_r13, w ∈ lw_tbl := mem_pl [330, 331, 332, 333, 334, 335, 336, 337, 642, 643, 644, 645, 338, 339, 340, 341, 178, 342, 343, 344, 345, 347, 646, 647] (by decide +kernel)
set_option maxRecDepth 20000 in
theorem in_wsL_law_r14 : ∀ w ∈ wsL_law_r14, w ∈ lw_tbl := mem_pl [648, 649, 650, 651, 652, 349, 350, 351, 352, 72, 75, 118, 122, 80, 353, 653, 654, 655, 656, 657, 659, 32, 660, 354] (by decide +kernel)
set_option maxRecDepth 20000 in
theorem in_wsL_law_r15 : ∀ w ∈ wsL_law_r15, w ∈ lw_tbl := mem_pl [355, 356, 357, 128, 131, 137, 358, 360, 11, 361, 124, 362, 363, 364, 365, 366, 367, 661, 662, 663, 664, 368, 369, 370] (by decide +kernel)
set_option maxRecDepth 20000 in
theorem in_wsL_law_r16 : ∀ w ∈ wsL_law_r16, w ∈ lw_tbl := mem_pl [371, 372, 373, 374, 375, 376, 378, 12, 379, 665, 666, 667, 668, 669, 671, 33, 672, 380, 381, 382, 383, 673, 674, 675] (by decide +kernel)
set_option maxRecDepth 20000 in
theorem in_wsL_law_r17 : ∀ w ∈ wsL_law_r17, w ∈ lw_tbl := mem_pl [676, 384, 385, 386, 387, 388, 389, 390, 391, 393, 13, 394, 677, 678, 679, 680, 681, 682, 683, 395, 396, 397, 398, 399] (by decide +kernel)
set_option maxRecDepth 20000 in
theorem in_wsL_law_r18 : ∀ w ∈ wsL_law_r18, w ∈ lw_tbl := mem_pl [401, 14, 402, 403, 404, 46, 405, 406, 407, 408, 684, 685, 686, 687, 688, 690, 34, 691, 692, 693, 694, 695, 409, 410] (by decide +kernel)
set_option maxRecDepth 20000 in
theorem in_wsL_law_r19 : ∀ w ∈ wsL_law_r19, w ∈ lw_tbl := mem_pl [411, 412, 219, 413, 415, 15, 416, 417, 419, 16, 420, 421, 423, 17, 424, 696, 697, 698, 699, 700, 702, 35, 703, 425] (by decide +kernel)
set_option maxRecDepth 20000 in
theorem in_wsL_law_r20 : ∀ w ∈ wsL_law_r20, w ∈ lw_tbl := mem_pl [426, 427, 428, 704, 705, 706, 707, 429, 430, 431, 432, 433, 434, 435, 436, 437, 438, 439, 197, 198, 440, 441, 442, 443] (by decide +kernel)
set_option maxRecDepth 20000 in
theorem in_wsL_law_r21 : ∀ w ∈ wsL_law_r21, w ∈ lw_tbl := mem_pl [708, 709, 710, 711, 712, 713, 714, 444, 445, 446, 447, 199, 448, 449, 450, 451, 452, 453, 454, 455, 456, 715, 716, 717] (by decide +kernel)
set_option maxRecDepth 20000 in
theorem in_wsL_law_r22 : ∀ w ∈ wsL_law_r22, w ∈ lw_tbl := mem_pl [718, 719, 720, 721, 457, 458, 459, 460, 461, 462, 463, 464, 722, 723, 724, 725, 465, 466, 467, 468, 469, 470, 471, 472] (by decide +kernel)
set_option maxRecDepth 20000 in
theorem in_wsL_law_r23 : ∀ w ∈ wsL_law_r23, w ∈ lw_tbl := mem_pl [726, 727, 728, 729, 473, 474, 475, 476, 477, 478, 479, 480, 481, 483, 18, 484, 485, 487, 19, 488, 489, 491, 20, 492] (by decide +kernel)
set_option maxRecDepth 20000 in
theorem in_wsL_law_r24 : ∀ w ∈ wsL_law_r24, w ∈ lw_tbl := mem_pl [730, 731, 732, 733, 734, 736, 36, 737, 738, 740, 37, 741] (by decide +kernel)
set_option maxRecDepth 20000 in
theorem in_wsX00 : ∀ w ∈ wsX00, w ∈ lw_tbl := mem_pl [181, 183] (by decide +kernel)
set_option maxRecDepth 20000 in
theorem in_wsX10 : ∀ w ∈ wsX10, w ∈ lw_tbl := mem_pl [82, 84, 86, 88, 90, 92] (by decide +kernel)
set_option maxRecDepth 20000 in
theorem in_wsX20 : ∀ w ∈ wsX20, w ∈ lw_tbl := mem_pl [141, 143, 145, 147, 149, 151, 153, 155, 157, 159, 161, 163, 165, 167] (by decide +kernel)
set_option maxRecDepth 20000 in
theorem in_wsX30 : ∀ w ∈ wsX30, w ∈ lw_tbl := mem_pl [203, 205, 207, 209, 211] (by decide +kernel)
set_option maxRecDepth 20000 in
theorem in_wsX40 : ∀ w ∈ wsX40, w ∈ lw_tbl := mem_pl [104, 106] (by decide +kernel)
set_option maxRecDepth 20000 in
theorem in_wsX50 : ∀ w ∈ wsX50, w ∈ lw_tbl := mem_pl [221, 223, 225, 227, 229, 231, 233] (by decide +kernel)
set_option maxRecDepth 20000 in
theorem in_wsX60 : ∀ w ∈ wsX60, w ∈ lw_tbl := mem_pl [524, 526, 528, 530, 532, 534, 536, 538, 540, 542, 544, 546, 548, 550, 552, 554, 556, 558, 560, 562, 564, 566, 568, 570, 572] (by decide +kernel)
theorem in_app {big a b : List Cond} (ha : ∀ w ∈ a, w ∈ big) (hb : ∀ w ∈ b, w ∈ big) : ∀ w ∈ a ++ b, w ∈ big := fun w h => (List.mem_append.mp h).elim (ha w) (hb w)
theorem wsL_law_in : ∀ w ∈ wsL_law, w ∈ lw_tbl := in_app (in_app (in_app (in_app (in_app (in_app (in_app (in_app (in_app in_wsL_law_r1 (in_app in_wsL_law_r2 (in_app in_wsL_law_r3 (in_app in_wsL_law_r4 (in_app in_wsL_law_r5 (in_app in_wsL_law_r6 (in_app in_wsL_law_r7 (in_app in_wsL_law_r8 (in_app in_wsL_law_r9 (in_app in_wsL_law_r10 (in_app in_wsL_law_r11 (in_app in_wsL_law_r12 (in_app in_wsL_law_r13 (in_app in_wsL_law_r14 (in_app in_wsL_law_r15 (in_app in_wsL_law_r16 (in_app in_wsL_law_r17 (in_app in_wsL_law_r18 (in_app in_wsL_law_r19 (in_app in_wsL_law_r20 (in_app in_wsL_law_r21 (in_app in_wsL_law_r22 (in_app in_wsL_law_r23 (in_wsL_law_r24)))))))))))))))))))))))) in_wsX50) in_wsX60) in_wsX40) in_wsX20) in_wsX00) in_wsX30) in_wsX10) (fun w h => absurd h List.not_mem_nil)
theorem inlX0 : ∀ w ∈ wsX00, w ∈ wsL_law := fun _ h => List.mem_append_left _ (List.mem_append_left _ (List.mem_append_left _ (List.mem_append_right _ h)))
theorem inX0 : ∀ w ∈ wsX00, w ∈ lw_tbl := fun w h => wsL_law_in w (inlX0 w h)
theorem inlX1 : ∀ w ∈ wsX10, w ∈ wsL_law := fun _ h => List.mem_append_left _ (List.mem_append_right _ h)
theorem inX1 : ∀ w ∈ wsX10, w ∈ lw_tbl := fun w h => wsL_law_in w (inlX1 w h)
theorem inlX2 : ∀ w ∈ wsX20, w ∈ wsL_law := fun _ h => List.mem_append_left _ (List.mem_append_left _ (List.mem_append_left _ (List.mem_append_left _ (List.mem_append_right _ h))))
theorem inX2 : ∀ w ∈ wsX20, w ∈ lw_tbl := fun w h => wsL_law_in w (inlX2 w h)
theorem inlX3 : ∀ w ∈ wsX30, w ∈ wsL_law := fun _ h => List.mem_append_left _ (List.mem_append_left _ (List.mem_append_right _ h))
theorem inX3 : ∀ w ∈ wsX30, w ∈ lw_tbl := fun w h => wsL_law_in w (inlX3 w h)
theorem inlX4 : ∀ w ∈ wsX40, w ∈ wsL_law := fun _ h => List.mem_append_left _ (List.mem_append_left _ (List.mem_append_left _ (List.mem_append_left _ (List.mem_append_left _ (List.mem_append_right _ h)))))
theorem inX4 : ∀ w ∈ wsX40, w ∈ lw_tbl := fun w h => wsL_law_in w (inlX4 w h)
theorem inlX5 : ∀ w ∈ wsX50, w ∈ wsL_law := fun _ h => List.mem_append_left _ (List.mem_append_left _ (List.mem_append_left _ (List.mem_append_left _ (List.mem_append_left _ (List.mem_append_left _ (List.mem_append_left _ (List.mem_append_right _ h)))))))
theorem inX5 : ∀ w ∈ wsX50, w ∈ lw_tbl := fun w h => wsL_law_in w (inlX5 w h)
theorem inlX6 : ∀ w ∈ wsX60, w ∈ wsL_law := fun _ h => List.mem_append_left _ (List.mem_append_left _ (List.mem_append_left _ (List.mem_append_left _ (List.mem_append_left _ (List.mem_append_left _ (List.mem_append_right _ h))))))
theorem inX6 : ∀ w ∈ wsX60, w ∈ lw_tbl := fun w h => wsL_law_in w (inlX6 w h)
theorem inJ9 : ∀ w ∈ wsJ90, w ∈ lw_tbl := by decide +kernel
end
section
theorem dX0_init_0 : decode cX0_init 0 = .ok (.aload_n 0, 1) := by decide +kernel
theorem dX0_init_1 : decode cX0_init 1 = .ok (.invokespecial 3, 3) := by decide +kernel
theorem dX0_init_4 : decode cX0_init 4 = .ok (.aload_n 0, 1) := by decide +kernel
theorem dX0_init_5 : decode cX0_init 5 = .ok (.iconst 4, 1) := by decide +kernel
theorem dX0_init_6 : decode cX0_init 6 = .ok (.newarray .int, 2) := by decide +kernel
theorem dX0_init_8 : decode cX0_init 8 = .ok (.putfield 9, 3) := by decide +kernel
theorem dX0_init_11 : decode cX0_init 11 = .ok (.aload_n 0, 1) := by decide +kernel
theorem dX0_init_12 : decode cX0_init 12 = .ok (.bipush 20, 2) := by decide +kernel
theorem dX0_init_14 : decode cX0_init 14 = .ok (.newarray .int, 2) := by decide +kernel
theorem dX0_init_16 : decode cX0_init 16 = .ok (.putfield 15, 3) := by decide +kernel
theorem dX0_init_19 : decode cX0_init 19 = .ok (.return_, 1) := by decide +kernel
theorem dX0_choose_0 : decode cX0_choose 0 = .ok (.aload_n 0, 1) := by decide +kernel
theorem dX0_choose_1 : decode cX0_choose 1 = .ok (.getfield 9, 3) := by decide +kernel
theorem dX0_choose_4 : decode cX0_choose 4 = .ok (.iconst 0, 1) := by decide +kernel
theorem dX0_choose_5 : decode cX0_choose 5 = .ok (.iload_n 1, 1) := by decide +kernel
theorem dX0_choose_6 : decode cX0_choose 6 = .ok (.iastore, 1) := by decide +kernel
theorem dX0_choose_7 : decode cX0_choose 7 = .ok (.aload_n 0, 1) := by decide +kernel
theorem dX0_choose_8 : decode cX0_choose 8 = .ok (.getfield 9, 3) := by decide +kernel
theorem dX0_choose_11 : decode cX0_choose 11 = .ok (.iconst 1, 1) := by decide +kernel
theorem dX0_choose_12 : decode cX0_choose 12 = .ok (.iload_n 2, 1) := by decide +kernel
theorem dX0_choose_13 : decode cX0_choose 13 = .ok (.iastore, 1) := by decide +kernel
theorem dX0_choose_14 : decode cX0_choose 14 = .ok (.aload_n 0, 1) := by decide +kernel
theorem dX0_choose_15 : decode cX0_choose 15 = .ok (.getfield 9, 3) := by decide +kernel
theorem dX0_choose_18 : decode cX0_choose 18 = .ok (.iconst 2, 1) := by decide +kernel
theorem dX0_choose_19 : decode cX0_choose 19 = .ok (.iload_n 3, 1) := by decide +kernel
theorem dX0_choose_20 : decode cX0_choose 20 = .ok (.iastore, 1) := by decide +kernel
theorem dX0_choose_21 : decode cX0_choose 21 = .ok (.aload_n 0, 1) := by decide +kernel
theorem dX0_choose_22 : decode cX0_choose 22 = .ok (.getfield 9, 3) := by decide +kernel
theorem dX0_choose_25 : decode cX0_choose 25 = .ok (.iconst 3, 1) := by decide +kernel
theorem dX0_choose_26 : decode cX0_choose 26 = .ok (.iload 4, 2) := by decide +kernel
theorem dX0_choose_28 : decode cX0_choose 28 = .ok (.iastore, 1) := by decide +kernel
theorem dX0_choose_29 : decode cX0_choose 29 = .ok (.return_, 1) := by decide +kernel
set_option maxRecDepth 20000 in
theorem ggX0_lay_X0_columnBehind : GoodIn wsX0_lay wsX0_columnBehind := goodIn_r _ [10, 11, 12, 13, 14, 15, 16, 17, 9, 18, 19, 20, 21, 22, 23, 24, 25, 26, 27, 28, 29, 30, 31, 3, 32, 33, 34, 35, 36, 37, 48, 49, 50, 51, 52, 53, 54, 55, 56, 57, 58, 59, 60, 61, 40, 41] (by decide +kernel) (by decide +kernel)
set_option maxRecDepth 20000 in
theorem gX0_lay_X0_columnBehind : GoodIn wsX0_lay (wsV RX0 36 RX0 yX0_columnBehind wsX0_columnBehind) := goodIn_app (goodIn_of _ (by decide +kernel)) ggX0_lay_X0_columnBehind
theorem dX0_lay_0 : decode cX0_lay 0 = .ok (.iconst 0, 1) := by decide +kernel
theorem dX0_lay_1 : decode cX0_lay 1 = .ok (.istore_n 3, 1) := by decide +kernel
theorem dX0_lay_2 : decode cX0_lay 2 = .ok (.iload_n 3, 1) := by decide +kernel
theorem dX0_lay_3 : decode cX0_lay 3 = .ok (.aload_n 1, 1) := by decide +kernel
theorem dX0_lay_4 : decode cX0_lay 4 = .ok (.getfield 18, 3) := by decide +kernel
theorem dX0_lay_7 : decode cX0_lay 7 = .ok (.if_icmp .ge 48, 3) := by decide +kernel
theorem dX0_lay_10 : decode cX0_lay 10 = .ok (.aload_n 1, 1) := by decide +kernel
theorem dX0_lay_11 : decode cX0_lay 11 = .ok (.getfield 24, 3) := by decide +kernel
theorem dX0_lay_14 : decode cX0_lay 14 = .ok (.iload_n 3, 1) := by decide +kernel
theorem dX0_lay_15 : decode cX0_lay 15 = .ok (.aaload, 1) := by decide +kernel
theorem dX0_lay_16 : decode cX0_lay 16 = .ok (.astore 4, 2) := by decide +kernel
theorem dX0_lay_18 : decode cX0_lay 18 = .ok (.aload_n 0, 1) := by decide +kernel
theorem dX0_lay_19 : decode cX0_lay 19 = .ok (.getfield 15, 3) := by decide +kernel
theorem dX0_lay_22 : decode cX0_lay 22 = .ok (.iload_n 3, 1) := by decide +kernel
theorem dX0_lay_23 : decode cX0_lay 23 = .ok (.aload 4, 2) := by decide +kernel
theorem dX0_lay_25 : decode cX0_lay 25 = .ok (.getfield 28, 3) := by decide +kernel
theorem dX0_lay_28 : decode cX0_lay 28 = .ok (.ifCond .ne 7, 3) := by decide +kernel
theorem dX0_lay_31 : decode cX0_lay 31 = .ok (.iconst 0, 1) := by decide +kernel
theorem dX0_lay_32 : decode cX0_lay 32 = .ok (.goto 16, 3) := by decide +kernel
theorem dX0_lay_35 : decode cX0_lay 35 = .ok (.aload_n 0, 1) := by decide +kernel
theorem dX0_lay_36 : decode cX0_lay 36 = .ok (.aload_n 2, 1) := by decide +kernel
theorem dX0_lay_37 : decode cX0_lay 37 = .ok (.iload_n 3, 1) := by decide +kernel
theorem dX0_lay_38 : decode cX0_lay 38 = .ok (.aload 4, 2) := by decide +kernel
theorem dX0_lay_40 : decode cX0_lay 40 = .ok (.getfield 33, 3) := by decide +kernel
theorem dX0_lay_43 : decode cX0_lay 43 = .ok (.iconst 0, 1) := by decide +kernel
theorem dX0_lay_44 : decode cX0_lay 44 = .ok (.iaload, 1) := by decide +kernel
theorem dX0_lay_45 : decode cX0_lay 45 = .ok (.invokevirtual 36, 3) := by decide +kernel
theorem dX0_lay_48 : decode cX0_lay 48 = .ok (.iastore, 1) := by decide +kernel
theorem dX0_lay_49 : decode cX0_lay 49 = .ok (.iinc 3 1, 3) := by decide +kernel
theorem dX0_lay_52 : decode cX0_lay 52 = .ok (.goto (-50), 3) := by decide +kernel
theorem dX0_lay_55 : decode cX0_lay 55 = .ok (.return_, 1) := by decide +kernel
set_option maxRecDepth 20000 in
theorem ggX0_columnBehind_X0_goingOn : GoodIn wsX0_columnBehind wsX0_goingOn := goodIn_r _ [9, 4, 44, 45] (by decide +kernel) (by decide +kernel)
set_option maxRecDepth 20000 in
theorem gX0_columnBehind_X0_goingOn : GoodIn wsX0_columnBehind (wsV RX0 48 RX0 yX0_goingOn wsX0_goingOn) := goodIn_app (goodIn_of _ (by decide +kernel)) ggX0_columnBehind_X0_goingOn
set_option maxRecDepth 20000 in
theorem ggX0_columnBehind_X0_columnInBracket : GoodIn wsX0_columnBehind wsX0_columnInBracket := goodIn_r _ [13, 4, 14, 15, 16, 8, 17, 3, 18, 19, 20, 21, 22, 23, 24, 25, 26, 27, 28, 29, 44, 45, 30, 31, 32, 33, 34, 35, 36, 37, 38, 39, 40, 41, 42, 43] (by decide +kernel) (by decide +kernel)
set_option maxRecDepth 20000 in
theorem gX0_columnBehind_X0_columnInBracket : GoodIn wsX0_columnBehind (wsV RX0 55 RX0 yX0_columnInBracket wsX0_columnInBracket) := goodIn_app (goodIn_of _ (by decide +kernel)) ggX0_columnBehind_X0_columnInBracket
set_option maxRecDepth 20000 in
theorem ggX0_columnBehind_X0_baseOf : GoodIn wsX0_columnBehind wsX0_baseOf := goodIn_r _ [29, 23, 24, 44, 45, 30, 31, 32, 33, 34, 35, 36, 37, 38, 39, 40, 41, 42, 43] (by decide +kernel) (by decide +kernel)
set_option maxRecDepth 20000 in
theorem gX0_columnBehind_X0_baseOf : GoodIn wsX0_columnBehind (wsV RX0 58 RX0 yX0_baseOf wsX0_baseOf) := goodIn_app (goodIn_of _ (by decide +kernel)) ggX0_columnBehind_X0_baseOf
theorem dX0_columnBehind_0 : decode cX0_columnBehind 0 = .ok (.aload_n 1, 1) := by decide +kernel
theorem dX0_columnBehind_1 : decode cX0_columnBehind 1 = .ok (.getfield 40, 3) := by decide +kernel
theorem dX0_columnBehind_4 : decode cX0_columnBehind 4 = .ok (.iload_n 2, 1) := by decide +kernel
theorem dX0_columnBehind_5 : decode cX0_columnBehind 5 = .ok (.iaload, 1) := by decide +kernel
theorem dX0_columnBehind_6 : decode cX0_columnBehind 6 = .ok (.istore 4, 2) := by decide +kernel
theorem dX0_columnBehind_8 : decode cX0_columnBehind 8 = .ok (.iload 4, 2) := by decide +kernel
theorem dX0_columnBehind_10 : decode cX0_columnBehind 10 = .ok (.bipush (-9), 2) := by decide +kernel
theorem dX0_columnBehind_12 : decode cX0_columnBehind 12 = .ok (.if_icmp .ne 15, 3) := by decide +kernel
theorem dX0_columnBehind_15 : decode cX0_columnBehind 15 = .ok (.aload_n 0, 1) := by decide +kernel
theorem dX0_columnBehind_16 : decode cX0_columnBehind 16 = .ok (.iconst 0, 1) := by decide +kernel
theorem dX0_columnBehind_17 : decode cX0_columnBehind 17 = .ok (.aload_n 1, 1) := by decide +kernel
theorem dX0_columnBehind_18 : decode cX0_columnBehind 18 = .ok (.getfield 45, 3) := by decide +kernel
theorem dX0_columnBehind_21 : decode cX0_columnBehind 21 = .ok (.iload_n 2, 1) := by decide +kernel
theorem dX0_columnBehind_22 : decode cX0_columnBehind 22 = .ok (.iaload, 1) := by decide +kernel
theorem dX0_columnBehind_23 : decode cX0_columnBehind 23 = .ok (.invokevirtual 48, 3) := by decide +kernel
theorem dX0_columnBehind_26 : decode cX0_columnBehind 26 = .ok (.ireturn, 1) := by decide +kernel
theorem dX0_columnBehind_27 : decode cX0_columnBehind 27 = .ok (.aload_n 1, 1) := by decide +kernel
theorem dX0_columnBehind_28 : decode cX0_columnBehind 28 = .ok (.getfield 52, 3) := by decide +kernel
theorem dX0_columnBehind_31 : decode cX0_columnBehind 31 = .ok (.iload 4, 2) := by decide +kernel
theorem dX0_columnBehind_33 : decode cX0_columnBehind 33 = .ok (.iaload, 1) := by decide +kernel
theorem dX0_columnBehind_34 : decode cX0_columnBehind 34 = .ok (.iconst 4, 1) := by decide +kernel
theorem dX0_columnBehind_35 : decode cX0_columnBehind 35 = .ok (.if_icmp .ne 12, 3) := by decide +kernel
theorem dX0_columnBehind_38 : decode cX0_columnBehind 38 = .ok (.aload_n 0, 1) := by decide +kernel
theorem dX0_columnBehind_39 : decode cX0_columnBehind 39 = .ok (.aload_n 1, 1) := by decide +kernel
theorem dX0_columnBehind_40 : decode cX0_columnBehind 40 = .ok (.iload 4, 2) := by decide +kernel
theorem dX0_columnBehind_42 : decode cX0_columnBehind 42 = .ok (.iload_n 3, 1) := by decide +kernel
theorem dX0_columnBehind_43 : decode cX0_columnBehind 43 = .ok (.invokevirtual 55, 3) := by decide +kernel
theorem dX0_columnBehind_46 : decode cX0_columnBehind 46 = .ok (.ireturn, 1) := by decide +kernel
theorem dX0_columnBehind_47 : decode cX0_columnBehind 47 = .ok (.aload_n 0, 1) := by decide +kernel
theorem dX0_columnBehind_48 : decode cX0_columnBehind 48 = .ok (.aload_n 1, 1) := by decide +kernel
theorem dX0_columnBehind_49 : decode cX0_columnBehind 49 = .ok (.iload 4, 2) := by decide +kernel
theorem dX0_columnBehind_51 : decode cX0_columnBehind 51 = .ok (.invokevirtual 58, 3) := by decide +kernel
theorem dX0_columnBehind_54 : decode cX0_columnBehind 54 = .ok (.istore 5, 2) := by decide +kernel
theorem dX0_columnBehind_56 : decode cX0_columnBehind 56 = .ok (.iload_n 3, 1) := by decide +kernel
theorem dX0_columnBehind_57 : decode cX0_columnBehind 57 = .ok (.iconst 3, 1) := by decide +kernel
theorem dX0_columnBehind_58 : decode cX0_columnBehind 58 = .ok (.if_icmp .ne 28, 3) := by decide +kernel
theorem dX0_columnBehind_61 : decode cX0_columnBehind 61 = .ok (.aload_n 0, 1) := by decide +kernel
theorem dX0_columnBehind_62 : decode cX0_columnBehind 62 = .ok (.getfield 9, 3) := by decide +kernel
theorem dX0_columnBehind_65 : decode cX0_columnBehind 65 = .ok (.iconst 3, 1) := by decide +kernel
theorem dX0_columnBehind_66 : decode cX0_columnBehind 66 = .ok (.iaload, 1) := by decide +kernel
theorem dX0_columnBehind_67 : decode cX0_columnBehind 67 = .ok (.iconst 1, 1) := by decide +kernel
theorem dX0_columnBehind_68 : decode cX0_columnBehind 68 = .ok (.if_icmp .ne 15, 3) := by decide +kernel
theorem dX0_columnBehind_71 : decode cX0_columnBehind 71 = .ok (.iload 5, 2) := by decide +kernel
theorem dX0_columnBehind_73 : decode cX0_columnBehind 73 = .ok (.aload_n 0, 1) := by decide +kernel
theorem dX0_columnBehind_74 : decode cX0_columnBehind 74 = .ok (.getfield 9, 3) := by decide +kernel
theorem dX0_columnBehind_77 : decode cX0_columnBehind 77 = .ok (.iconst 0, 1) := by decide +kernel
theorem dX0_columnBehind_78 : decode cX0_columnBehind 78 = .ok (.iaload, 1) := by decide +kernel
theorem dX0_columnBehind_79 : decode cX0_columnBehind 79 = .ok (.iadd, 1) := by decide +kernel
theorem dX0_columnBehind_80 : decode cX0_columnBehind 80 = .ok (.goto 5, 3) := by decide +kernel
theorem dX0_columnBehind_83 : decode cX0_columnBehind 83 = .ok (.iload 5, 2) := by decide +kernel
theorem dX0_columnBehind_85 : decode cX0_columnBehind 85 = .ok (.ireturn, 1) := by decide +kernel
theorem dX0_columnBehind_86 : decode cX0_columnBehind 86 = .ok (.aload_n 0, 1) := by decide +kernel
theorem dX0_columnBehind_87 : decode cX0_columnBehind 87 = .ok (.iload 5, 2) := by decide +kernel
theorem dX0_columnBehind_89 : decode cX0_columnBehind 89 = .ok (.aload_n 0, 1) := by decide +kernel
theorem dX0_columnBehind_90 : decode cX0_columnBehind 90 = .ok (.getfield 9, 3) := by decide +kernel
theorem dX0_columnBehind_93 : decode cX0_columnBehind 93 = .ok (.iconst 0, 1) := by decide +kernel
theorem dX0_columnBehind_94 : decode cX0_columnBehind 94 = .ok (.iaload, 1) := by decide +kernel
theorem dX0_columnBehind_95 : decode cX0_columnBehind 95 = .ok (.iadd, 1) := by decide +kernel
theorem dX0_columnBehind_96 : decode cX0_columnBehind 96 = .ok (.aload_n 1, 1) := by decide +kernel
theorem dX0_columnBehind_97 : decode cX0_columnBehind 97 = .ok (.getfield 45, 3) := by decide +kernel
theorem dX0_columnBehind_100 : decode cX0_columnBehind 100 = .ok (.iload_n 2, 1) := by decide +kernel
theorem dX0_columnBehind_101 : decode cX0_columnBehind 101 = .ok (.iaload, 1) := by decide +kernel
theorem dX0_columnBehind_102 : decode cX0_columnBehind 102 = .ok (.invokevirtual 48, 3) := by decide +kernel
theorem dX0_columnBehind_105 : decode cX0_columnBehind 105 = .ok (.ireturn, 1) := by decide +kernel
set_option maxRecDepth 20000 in
theorem ggX0_columnInBracket_X0_isAligned : GoodIn wsX0_columnInBracket wsX0_isAligned := goodIn_r _ [6, 7, 1, 8, 22, 23, 24, 25, 26, 27, 28, 29, 30, 31, 32, 33, 34, 35, 20, 21] (by decide +kernel) (by decide +kernel)
set_option maxRecDepth 20000 in
theorem gX0_columnInBracket_X0_isAligned : GoodIn wsX0_columnInBracket (wsV RX0 62 RX0 yX0_isAligned wsX0_isAligned) := goodIn_app (goodIn_of _ (by decide +kernel)) ggX0_columnInBracket_X0_isAligned
set_option maxRecDepth 20000 in
theorem ggX0_columnInBracket_X0_placeOf : GoodIn wsX0_columnInBracket wsX0_placeOf := goodIn_r _ [12, 13, 14, 15, 20, 21, 22, 23, 24, 25, 26, 27, 28, 29, 30, 31, 32, 33, 34, 35] (by decide +kernel) (by decide +kernel)
set_option maxRecDepth 20000 in
theorem gX0_columnInBracket_X0_placeOf : GoodIn wsX0_columnInBracket (wsV RX0 66 RX0 yX0_placeOf wsX0_placeOf) := goodIn_app (goodIn_of _ (by decide +kernel)) ggX0_columnInBracket_X0_placeOf
set_option maxRecDepth 20000 in
theorem ggX0_columnInBracket_X0_baseOf : GoodIn wsX0_columnInBracket wsX0_baseOf := goodIn_r _ [19, 13, 14, 20, 21, 22, 23, 24, 25, 26, 27, 28, 29, 30, 31, 32, 33, 34, 35] (by decide +kernel) (by decide +kernel)
set_option maxRecDepth 20000 in
theorem gX0_columnInBracket_X0_baseOf : GoodIn wsX0_columnInBracket (wsV RX0 58 RX0 yX0_baseOf wsX0_baseOf) := goodIn_app (goodIn_of _ (by decide +kernel)) ggX0_columnInBracket_X0_baseOf
theorem dX0_columnInBracket_0 : decode cX0_columnInBracket 0 = .ok (.iload_n 3, 1) := by decide +kernel
theorem dX0_columnInBracket_1 : decode cX0_columnInBracket 1 = .ok (.iconst 5, 1) := by decide +kernel
theorem dX0_columnInBracket_2 : decode cX0_columnInBracket 2 = .ok (.if_icmp .ne 7, 3) := by decide +kernel
theorem dX0_columnInBracket_5 : decode cX0_columnInBracket 5 = .ok (.iconst 1, 1) := by decide +kernel
theorem dX0_columnInBracket_6 : decode cX0_columnInBracket 6 = .ok (.goto 4, 3) := by decide +kernel
theorem dX0_columnInBracket_9 : decode cX0_columnInBracket 9 = .ok (.iconst 0, 1) := by decide +kernel
theorem dX0_columnInBracket_10 : decode cX0_columnInBracket 10 = .ok (.istore 4, 2) := by decide +kernel
theorem dX0_columnInBracket_12 : decode cX0_columnInBracket 12 = .ok (.aload_n 0, 1) := by decide +kernel
theorem dX0_columnInBracket_13 : decode cX0_columnInBracket 13 = .ok (.aload_n 1, 1) := by decide +kernel
theorem dX0_columnInBracket_14 : decode cX0_columnInBracket 14 = .ok (.iload_n 2, 1) := by decide +kernel
theorem dX0_columnInBracket_15 : decode cX0_columnInBracket 15 = .ok (.invokevirtual 62, 3) := by decide +kernel
theorem dX0_columnInBracket_18 : decode cX0_columnInBracket 18 = .ok (.ifCond .eq 26, 3) := by decide +kernel
theorem dX0_columnInBracket_21 : decode cX0_columnInBracket 21 = .ok (.aload_n 0, 1) := by decide +kernel
theorem dX0_columnInBracket_22 : decode cX0_columnInBracket 22 = .ok (.aload_n 1, 1) := by decide +kernel
theorem dX0_columnInBracket_23 : decode cX0_columnInBracket 23 = .ok (.iload_n 2, 1) := by decide +kernel
theorem dX0_columnInBracket_24 : decode cX0_columnInBracket 24 = .ok (.invokevirtual 66, 3) := by decide +kernel
theorem dX0_columnInBracket_27 : decode cX0_columnInBracket 27 = .ok (.istore 5, 2) := by decide +kernel
theorem dX0_columnInBracket_29 : decode cX0_columnInBracket 29 = .ok (.iload 4, 2) := by decide +kernel
theorem dX0_columnInBracket_31 : decode cX0_columnInBracket 31 = .ok (.ifCond .eq 8, 3) := by decide +kernel
theorem dX0_columnInBracket_34 : decode cX0_columnInBracket 34 = .ok (.iload 5, 2) := by decide +kernel
theorem dX0_columnInBracket_36 : decode cX0_columnInBracket 36 = .ok (.goto 7, 3) := by decide +kernel
theorem dX0_columnInBracket_39 : decode cX0_columnInBracket 39 = .ok (.iload 5, 2) := by decide +kernel
theorem dX0_columnInBracket_41 : decode cX0_columnInBracket 41 = .ok (.iconst 1, 1) := by decide +kernel
theorem dX0_columnInBracket_42 : decode cX0_columnInBracket 42 = .ok (.iadd, 1) := by decide +kernel
theorem dX0_columnInBracket_43 : decode cX0_columnInBracket 43 = .ok (.ireturn, 1) := by decide +kernel
theorem dX0_columnInBracket_44 : decode cX0_columnInBracket 44 = .ok (.aload_n 0, 1) := by decide +kernel
theorem dX0_columnInBracket_45 : decode cX0_columnInBracket 45 = .ok (.aload_n 1, 1) := by decide +kernel
theorem dX0_columnInBracket_46 : decode cX0_columnInBracket 46 = .ok (.iload_n 2, 1) := by decide +kernel
theorem dX0_columnInBracket_47 : decode cX0_columnInBracket 47 = .ok (.invokevirtual 58, 3) := by decide +kernel
theorem dX0_columnInBracket_50 : decode cX0_columnInBracket 50 = .ok (.istore 5, 2) := by decide +kernel
theorem dX0_columnInBracket_52 : decode cX0_columnInBracket 52 = .ok (.iload 4, 2) := by decide +kernel
theorem dX0_columnInBracket_54 : decode cX0_columnInBracket 54 = .ok (.ifCond .eq 8, 3) := by decide +kernel
theorem dX0_columnInBracket_57 : decode cX0_columnInBracket 57 = .ok (.iload 5, 2) := by decide +kernel
theorem dX0_columnInBracket_59 : decode cX0_columnInBracket 59 = .ok (.goto 12, 3) := by decide +kernel
theorem dX0_columnInBracket_62 : decode cX0_columnInBracket 62 = .ok (.iload 5, 2) := by decide +kernel
theorem dX0_columnInBracket_64 : decode cX0_columnInBracket 64 = .ok (.aload_n 0, 1) := by decide +kernel
theorem dX0_columnInBracket_65 : decode cX0_columnInBracket 65 = .ok (.getfield 9, 3) := by decide +kernel
theorem dX0_columnInBracket_68 : decode cX0_columnInBracket 68 = .ok (.iconst 1, 1) := by decide +kernel
theorem dX0_columnInBracket_69 : decode cX0_columnInBracket 69 = .ok (.iaload, 1) := by decide +kernel
theorem dX0_columnInBracket_70 : decode cX0_columnInBracket 70 = .ok (.iadd, 1) := by decide +kernel
theorem dX0_columnInBracket_71 : decode cX0_columnInBracket 71 = .ok (.ireturn, 1) := by decide +kernel
theorem dX0_goingOn_0 : decode cX0_goingOn 0 = .ok (.iload_n 2, 1) := by decide +kernel
theorem dX0_goingOn_1 : decode cX0_goingOn 1 = .ok (.iconst 1, 1) := by decide +kernel
theorem dX0_goingOn_2 : decode cX0_goingOn 2 = .ok (.if_icmp .eq 14, 3) := by decide +kernel
theorem dX0_goingOn_5 : decode cX0_goingOn 5 = .ok (.iload_n 2, 1) := by decide +kernel
theorem dX0_goingOn_6 : decode cX0_goingOn 6 = .ok (.iconst 5, 1) := by decide +kernel
theorem dX0_goingOn_7 : decode cX0_goingOn 7 = .ok (.if_icmp .eq 9, 3) := by decide +kernel
theorem dX0_goingOn_10 : decode cX0_goingOn 10 = .ok (.iload_n 2, 1) := by decide +kernel
theorem dX0_goingOn_11 : decode cX0_goingOn 11 = .ok (.bipush 6, 2) := by decide +kernel
theorem dX0_goingOn_13 : decode cX0_goingOn 13 = .ok (.if_icmp .ne 12, 3) := by decide +kernel
theorem dX0_goingOn_16 : decode cX0_goingOn 16 = .ok (.iload_n 1, 1) := by decide +kernel
theorem dX0_goingOn_17 : decode cX0_goingOn 17 = .ok (.aload_n 0, 1) := by decide +kernel
theorem dX0_goingOn_18 : decode cX0_goingOn 18 = .ok (.getfield 9, 3) := by decide +kernel
theorem dX0_goingOn_21 : decode cX0_goingOn 21 = .ok (.iconst 1, 1) := by decide +kernel
theorem dX0_goingOn_22 : decode cX0_goingOn 22 = .ok (.iaload, 1) := by decide +kernel
theorem dX0_goingOn_23 : decode cX0_goingOn 23 = .ok (.iadd, 1) := by decide +kernel
theorem dX0_goingOn_24 : decode cX0_goingOn 24 = .ok (.ireturn, 1) := by decide +kernel
theorem dX0_goingOn_25 : decode cX0_goingOn 25 = .ok (.iload_n 2, 1) := by decide +kernel
theorem dX0_goingOn_26 : decode cX0_goingOn 26 = .ok (.bipush 7, 2) := by decide +kernel
theorem dX0_goingOn_28 : decode cX0_goingOn 28 = .ok (.if_icmp .ne 14, 3) := by decide +kernel
theorem dX0_goingOn_31 : decode cX0_goingOn 31 = .ok (.iload_n 1, 1) := by decide +kernel
theorem dX0_goingOn_32 : decode cX0_goingOn 32 = .ok (.aload_n 0, 1) := by decide +kernel
theorem dX0_goingOn_33 : decode cX0_goingOn 33 = .ok (.getfield 9, 3) := by decide +kernel
theorem dX0_goingOn_36 : decode cX0_goingOn 36 = .ok (.iconst 0, 1) := by decide +kernel
theorem dX0_goingOn_37 : decode cX0_goingOn 37 = .ok (.iaload, 1) := by decide +kernel
theorem dX0_goingOn_38 : decode cX0_goingOn 38 = .ok (.iadd, 1) := by decide +kernel
theorem dX0_goingOn_39 : decode cX0_goingOn 39 = .ok (.goto 4, 3) := by decide +kernel
theorem dX0_goingOn_42 : decode cX0_goingOn 42 = .ok (.iload_n 1, 1) := by decide +kernel
theorem dX0_goingOn_43 : decode cX0_goingOn 43 = .ok (.ireturn, 1) := by decide +kernel
theorem dX0_isAligned_0 : decode cX0_isAligned 0 = .ok (.aload_n 1, 1) := by decide +kernel
theorem dX0_isAligned_1 : decode cX0_isAligned 1 = .ok (.getfield 52, 3) := by decide +kernel
theorem dX0_isAligned_4 : decode cX0_isAligned 4 = .ok (.iload_n 2, 1) := by decide +kernel
theorem dX0_isAligned_5 : decode cX0_isAligned 5 = .ok (.iaload, 1) := by decide +kernel
theorem dX0_isAligned_6 : decode cX0_isAligned 6 = .ok (.iconst 4, 1) := by decide +kernel
theorem dX0_isAligned_7 : decode cX0_isAligned 7 = .ok (.if_icmp .ne 26, 3) := by decide +kernel
theorem dX0_isAligned_10 : decode cX0_isAligned 10 = .ok (.aload_n 0, 1) := by decide +kernel
theorem dX0_isAligned_11 : decode cX0_isAligned 11 = .ok (.getfield 9, 3) := by decide +kernel
theorem dX0_isAligned_14 : decode cX0_isAligned 14 = .ok (.iconst 2, 1) := by decide +kernel
theorem dX0_isAligned_15 : decode cX0_isAligned 15 = .ok (.iaload, 1) := by decide +kernel
theorem dX0_isAligned_16 : decode cX0_isAligned 16 = .ok (.iconst 1, 1) := by decide +kernel
theorem dX0_isAligned_17 : decode cX0_isAligned 17 = .ok (.if_icmp .ne 16, 3) := by decide +kernel
theorem dX0_isAligned_20 : decode cX0_isAligned 20 = .ok (.aload_n 1, 1) := by decide +kernel
theorem dX0_isAligned_21 : decode cX0_isAligned 21 = .ok (.getfield 69, 3) := by decide +kernel
theorem dX0_isAligned_24 : decode cX0_isAligned 24 = .ok (.iload_n 2, 1) := by decide +kernel
theorem dX0_isAligned_25 : decode cX0_isAligned 25 = .ok (.baload, 1) := by decide +kernel
theorem dX0_isAligned_26 : decode cX0_isAligned 26 = .ok (.ifCond .eq 7, 3) := by decide +kernel
theorem dX0_isAligned_29 : decode cX0_isAligned 29 = .ok (.iconst 1, 1) := by decide +kernel
theorem dX0_isAligned_30 : decode cX0_isAligned 30 = .ok (.goto 4, 3) := by decide +kernel
theorem dX0_isAligned_33 : decode cX0_isAligned 33 = .ok (.iconst 0, 1) := by decide +kernel
theorem dX0_isAligned_34 : decode cX0_isAligned 34 = .ok (.ireturn, 1) := by decide +kernel
theorem dX0_baseOf_0 : decode cX0_baseOf 0 = .ok (.aload_n 0, 1) := by decide +kernel
theorem dX0_baseOf_1 : decode cX0_baseOf 1 = .ok (.getfield 15, 3) := by decide +kernel
theorem dX0_baseOf_4 : decode cX0_baseOf 4 = .ok (.aload_n 1, 1) := by decide +kernel
theorem dX0_baseOf_5 : decode cX0_baseOf 5 = .ok (.getfield 73, 3) := by decide +kernel
theorem dX0_baseOf_8 : decode cX0_baseOf 8 = .ok (.iload_n 2, 1) := by decide +kernel
theorem dX0_baseOf_9 : decode cX0_baseOf 9 = .ok (.iaload, 1) := by decide +kernel
theorem dX0_baseOf_10 : decode cX0_baseOf 10 = .ok (.iaload, 1) := by decide +kernel
theorem dX0_baseOf_11 : decode cX0_baseOf 11 = .ok (.ireturn, 1) := by decide +kernel
theorem dX0_placeOf_0 : decode cX0_placeOf 0 = .ok (.aload_n 0, 1) := by decide +kernel
theorem dX0_placeOf_1 : decode cX0_placeOf 1 = .ok (.getfield 15, 3) := by decide +kernel
theorem dX0_placeOf_4 : decode cX0_placeOf 4 = .ok (.aload_n 1, 1) := by decide +kernel
theorem dX0_placeOf_5 : decode cX0_placeOf 5 = .ok (.getfield 73, 3) := by decide +kernel
theorem dX0_placeOf_8 : decode cX0_placeOf 8 = .ok (.iload_n 2, 1) := by decide +kernel
theorem dX0_placeOf_9 : decode cX0_placeOf 9 = .ok (.iaload, 1) := by decide +kernel
theorem dX0_placeOf_10 : decode cX0_placeOf 10 = .ok (.iaload, 1) := by decide +kernel
theorem dX0_placeOf_11 : decode cX0_placeOf 11 = .ok (.aload_n 1, 1) := by decide +kernel
theorem dX0_placeOf_12 : decode cX0_placeOf 12 = .ok (.getfield 76, 3) := by decide +kernel
theorem dX0_placeOf_15 : decode cX0_placeOf 15 = .ok (.iload_n 2, 1) := by decide +kernel
theorem dX0_placeOf_16 : decode cX0_placeOf 16 = .ok (.iaload, 1) := by decide +kernel
theorem dX0_placeOf_17 : decode cX0_placeOf 17 = .ok (.iadd, 1) := by decide +kernel
theorem dX0_placeOf_18 : decode cX0_placeOf 18 = .ok (.ireturn, 1) := by decide +kernel
set_option maxRecDepth 20000 in
theorem ggX0_kindOf_X0_isAligned : GoodIn wsX0_kindOf wsX0_isAligned := goodIn_r _ [6, 1, 7, 8, 9, 10, 11, 12, 13, 14, 15, 16, 17, 18, 19, 20, 21, 22, 23, 24] (by decide +kernel) (by decide +kernel)
set_option maxRecDepth 20000 in
theorem gX0_kindOf_X0_isAligned : GoodIn wsX0_kindOf (wsV RX0 62 RX0 yX0_isAligned wsX0_isAligned) := goodIn_app (goodIn_of _ (by decide +kernel)) ggX0_kindOf_X0_isAligned
theorem dX0_kindOf_0 : decode cX0_kindOf 0 = .ok (.aload_n 1, 1) := by decide +kernel
theorem dX0_kindOf_1 : decode cX0_kindOf 1 = .ok (.getfield 52, 3) := by decide +kernel
theorem dX0_kindOf_4 : decode cX0_kindOf 4 = .ok (.iload_n 2, 1) := by decide +kernel
theorem dX0_kindOf_5 : decode cX0_kindOf 5 = .ok (.iaload, 1) := by decide +kernel
theorem dX0_kindOf_6 : decode cX0_kindOf 6 = .ok (.iconst 2, 1) := by decide +kernel
theorem dX0_kindOf_7 : decode cX0_kindOf 7 = .ok (.if_icmp .ne 5, 3) := by decide +kernel
theorem dX0_kindOf_10 : decode cX0_kindOf 10 = .ok (.iconst 1, 1) := by decide +kernel
theorem dX0_kindOf_11 : decode cX0_kindOf 11 = .ok (.ireturn, 1) := by decide +kernel
theorem dX0_kindOf_12 : decode cX0_kindOf 12 = .ok (.aload_n 0, 1) := by decide +kernel
theorem dX0_kindOf_13 : decode cX0_kindOf 13 = .ok (.aload_n 1, 1) := by decide +kernel
theorem dX0_kindOf_14 : decode cX0_kindOf 14 = .ok (.iload_n 2, 1) := by decide +kernel
theorem dX0_kindOf_15 : decode cX0_kindOf 15 = .ok (.invokevirtual 62, 3) := by decide +kernel
theorem dX0_kindOf_18 : decode cX0_kindOf 18 = .ok (.ifCond .eq 7, 3) := by decide +kernel
theorem dX0_kindOf_21 : decode cX0_kindOf 21 = .ok (.iconst 3, 1) := by decide +kernel
theorem dX0_kindOf_22 : decode cX0_kindOf 22 = .ok (.goto 4, 3) := by decide +kernel
theorem dX0_kindOf_25 : decode cX0_kindOf 25 = .ok (.iconst 2, 1) := by decide +kernel
theorem dX0_kindOf_26 : decode cX0_kindOf 26 = .ok (.ireturn, 1) := by decide +kernel
theorem dX1_init_0 : decode cX1_init 0 = .ok (.aload_n 0, 1) := by decide +kernel
theorem dX1_init_1 : decode cX1_init 1 = .ok (.invokespecial 3, 3) := by decide +kernel
theorem dX1_init_4 : decode cX1_init 4 = .ok (.aload_n 0, 1) := by decide +kernel
theorem dX1_init_5 : decode cX1_init 5 = .ok (.bipush 9, 2) := by decide +kernel
theorem dX1_init_7 : decode cX1_init 7 = .ok (.newarray .int, 2) := by decide +kernel
theorem dX1_init_9 : decode cX1_init 9 = .ok (.putfield 9, 3) := by decide +kernel
theorem dX1_init_12 : decode cX1_init 12 = .ok (.aload_n 0, 1) := by decide +kernel
theorem dX1_init_13 : decode cX1_init 13 = .ok (.bipush (-9), 2) := by decide +kernel
theorem dX1_init_15 : decode cX1_init 15 = .ok (.putfield 15, 3) := by decide +kernel
theorem dX1_init_18 : decode cX1_init 18 = .ok (.return_, 1) := by decide +kernel
set_option maxRecDepth 20000 in
theorem ggX1_read_X1_digitsOf : GoodIn wsX1_read wsX1_digitsOf := goodIn_r _ [8] (by decide +kernel) (by decide +kernel)
set_option maxRecDepth 20000 in
theorem gX1_read_X1_digitsOf : GoodIn wsX1_read (va_wsS RX1 22 yX1_digitsOf wsX1_digitsOf) := goodIn_app (goodIn_of _ (by decide +kernel)) ggX1_read_X1_digitsOf
theorem dX1_read_0 : decode cX1_read 0 = .ok (.aload_n 0, 1) := by decide +kernel
theorem dX1_read_1 : decode cX1_read 1 = .ok (.iload_n 1, 1) := by decide +kernel
theorem dX1_read_2 : decode cX1_read 2 = .ok (.putfield 19, 3) := by decide +kernel
theorem dX1_read_5 : decode cX1_read 5 = .ok (.aload_n 0, 1) := by decide +kernel
theorem dX1_read_6 : decode cX1_read 6 = .ok (.iload_n 1, 1) := by decide +kernel
theorem dX1_read_7 : decode cX1_read 7 = .ok (.invokestatic 22, 3) := by decide +kernel
theorem dX1_read_10 : decode cX1_read 10 = .ok (.putfield 26, 3) := by decide +kernel
theorem dX1_read_13 : decode cX1_read 13 = .ok (.iload_n 1, 1) := by decide +kernel
theorem dX1_read_14 : decode cX1_read 14 = .ok (.istore_n 2, 1) := by decide +kernel
theorem dX1_read_15 : decode cX1_read 15 = .ok (.aload_n 0, 1) := by decide +kernel
theorem dX1_read_16 : decode cX1_read 16 = .ok (.getfield 26, 3) := by decide +kernel
theorem dX1_read_19 : decode cX1_read 19 = .ok (.iconst 1, 1) := by decide +kernel
theorem dX1_read_20 : decode cX1_read 20 = .ok (.isub, 1) := by decide +kernel
theorem dX1_read_21 : decode cX1_read 21 = .ok (.istore_n 3, 1) := by decide +kernel
theorem dX1_read_22 : decode cX1_read 22 = .ok (.iload_n 3, 1) := by decide +kernel
theorem dX1_read_23 : decode cX1_read 23 = .ok (.ifCond .lt 24, 3) := by decide +kernel
theorem dX1_read_26 : decode cX1_read 26 = .ok (.aload_n 0, 1) := by decide +kernel
theorem dX1_read_27 : decode cX1_read 27 = .ok (.getfield 9, 3) := by decide +kernel
theorem dX1_read_30 : decode cX1_read 30 = .ok (.iload_n 3, 1) := by decide +kernel
theorem dX1_read_31 : decode cX1_read 31 = .ok (.iload_n 2, 1) := by decide +kernel
theorem dX1_read_32 : decode cX1_read 32 = .ok (.bipush 10, 2) := by decide +kernel
theorem dX1_read_34 : decode cX1_read 34 = .ok (.irem, 1) := by decide +kernel
theorem dX1_read_35 : decode cX1_read 35 = .ok (.iastore, 1) := by decide +kernel
theorem dX1_read_36 : decode cX1_read 36 = .ok (.iload_n 2, 1) := by decide +kernel
theorem dX1_read_37 : decode cX1_read 37 = .ok (.bipush 10, 2) := by decide +kernel
theorem dX1_read_39 : decode cX1_read 39 = .ok (.idiv, 1) := by decide +kernel
theorem dX1_read_40 : decode cX1_read 40 = .ok (.istore_n 2, 1) := by decide +kernel
theorem dX1_read_41 : decode cX1_read 41 = .ok (.iinc 3 (-1), 3) := by decide +kernel
theorem dX1_read_44 : decode cX1_read 44 = .ok (.goto (-22), 3) := by decide +kernel
theorem dX1_read_47 : decode cX1_read 47 = .ok (.aload_n 0, 1) := by decide +kernel
theorem dX1_read_48 : decode cX1_read 48 = .ok (.aload_n 0, 1) := by decide +kernel
theorem dX1_read_49 : decode cX1_read 49 = .ok (.getfield 26, 3) := by decide +kernel
theorem dX1_read_52 : decode cX1_read 52 = .ok (.putfield 29, 3) := by decide +kernel
theorem dX1_read_55 : decode cX1_read 55 = .ok (.aload_n 0, 1) := by decide +kernel
theorem dX1_read_56 : decode cX1_read 56 = .ok (.getfield 26, 3) := by decide +kernel
theorem dX1_read_59 : decode cX1_read 59 = .ok (.iconst 1, 1) := by decide +kernel
theorem dX1_read_60 : decode cX1_read 60 = .ok (.isub, 1) := by decide +kernel
theorem dX1_read_61 : decode cX1_read 61 = .ok (.istore_n 3, 1) := by decide +kernel
theorem dX1_read_62 : decode cX1_read 62 = .ok (.iload_n 3, 1) := by decide +kernel
theorem dX1_read_63 : decode cX1_read 63 = .ok (.ifCond .lt 27, 3) := by decide +kernel
theorem dX1_read_66 : decode cX1_read 66 = .ok (.aload_n 0, 1) := by decide +kernel
theorem dX1_read_67 : decode cX1_read 67 = .ok (.getfield 9, 3) := by decide +kernel
theorem dX1_read_70 : decode cX1_read 70 = .ok (.iload_n 3, 1) := by decide +kernel
theorem dX1_read_71 : decode cX1_read 71 = .ok (.iaload, 1) := by decide +kernel
theorem dX1_read_72 : decode cX1_read 72 = .ok (.bipush 9, 2) := by decide +kernel
theorem dX1_read_74 : decode cX1_read 74 = .ok (.if_icmp .ne 10, 3) := by decide +kernel
theorem dX1_read_77 : decode cX1_read 77 = .ok (.aload_n 0, 1) := by decide +kernel
theorem dX1_read_78 : decode cX1_read 78 = .ok (.iload_n 3, 1) := by decide +kernel
theorem dX1_read_79 : decode cX1_read 79 = .ok (.iconst 1, 1) := by decide +kernel
theorem dX1_read_80 : decode cX1_read 80 = .ok (.iadd, 1) := by decide +kernel
theorem dX1_read_81 : decode cX1_read 81 = .ok (.putfield 29, 3) := by decide +kernel
theorem dX1_read_84 : decode cX1_read 84 = .ok (.iinc 3 (-1), 3) := by decide +kernel
theorem dX1_read_87 : decode cX1_read 87 = .ok (.goto (-25), 3) := by decide +kernel
theorem dX1_read_90 : decode cX1_read 90 = .ok (.return_, 1) := by decide +kernel
theorem dX1_digitsOf_0 : decode cX1_digitsOf 0 = .ok (.iconst 0, 1) := by decide +kernel
theorem dX1_digitsOf_1 : decode cX1_digitsOf 1 = .ok (.istore_n 1, 1) := by decide +kernel
theorem dX1_digitsOf_2 : decode cX1_digitsOf 2 = .ok (.iload_n 0, 1) := by decide +kernel
theorem dX1_digitsOf_3 : decode cX1_digitsOf 3 = .ok (.istore_n 2, 1) := by decide +kernel
theorem dX1_digitsOf_4 : decode cX1_digitsOf 4 = .ok (.iconst 0, 1) := by decide +kernel
theorem dX1_digitsOf_5 : decode cX1_digitsOf 5 = .ok (.istore_n 3, 1) := by decide +kernel
theorem dX1_digitsOf_6 : decode cX1_digitsOf 6 = .ok (.iload_n 3, 1) := by decide +kernel
theorem dX1_digitsOf_7 : decode cX1_digitsOf 7 = .ok (.bipush 9, 2) := by decide +kernel
theorem dX1_digitsOf_9 : decode cX1_digitsOf 9 = .ok (.if_icmp .ge 21, 3) := by decide +kernel
theorem dX1_digitsOf_12 : decode cX1_digitsOf 12 = .ok (.iload_n 2, 1) := by decide +kernel
theorem dX1_digitsOf_13 : decode cX1_digitsOf 13 = .ok (.ifCond .le 17, 3) := by decide +kernel
theorem dX1_digitsOf_16 : decode cX1_digitsOf 16 = .ok (.iinc 1 1, 3) := by decide +kernel
theorem dX1_digitsOf_19 : decode cX1_digitsOf 19 = .ok (.iload_n 2, 1) := by decide +kernel
theorem dX1_digitsOf_20 : decode cX1_digitsOf 20 = .ok (.bipush 10, 2) := by decide +kernel
theorem dX1_digitsOf_22 : decode cX1_digitsOf 22 = .ok (.idiv, 1) := by decide +kernel
theorem dX1_digitsOf_23 : decode cX1_digitsOf 23 = .ok (.istore_n 2, 1) := by decide +kernel
theorem dX1_digitsOf_24 : decode cX1_digitsOf 24 = .ok (.iinc 3 1, 3) := by decide +kernel
theorem dX1_digitsOf_27 : decode cX1_digitsOf 27 = .ok (.goto (-21), 3) := by decide +kernel
theorem dX1_digitsOf_30 : decode cX1_digitsOf 30 = .ok (.iload_n 1, 1) := by decide +kernel
theorem dX1_digitsOf_31 : decode cX1_digitsOf 31 = .ok (.ireturn, 1) := by decide +kernel
theorem dX1_widthAhead_0 : decode cX1_widthAhead 0 = .ok (.iconst 0, 1) := by decide +kernel
theorem dX1_widthAhead_1 : decode cX1_widthAhead 1 = .ok (.istore_n 2, 1) := by decide +kernel
theorem dX1_widthAhead_2 : decode cX1_widthAhead 2 = .ok (.iconst 0, 1) := by decide +kernel
theorem dX1_widthAhead_3 : decode cX1_widthAhead 3 = .ok (.istore_n 3, 1) := by decide +kernel
theorem dX1_widthAhead_4 : decode cX1_widthAhead 4 = .ok (.iload_n 3, 1) := by decide +kernel
theorem dX1_widthAhead_5 : decode cX1_widthAhead 5 = .ok (.iload_n 1, 1) := by decide +kernel
theorem dX1_widthAhead_6 : decode cX1_widthAhead 6 = .ok (.if_icmp .ge 30, 3) := by decide +kernel
theorem dX1_widthAhead_9 : decode cX1_widthAhead 9 = .ok (.iload_n 3, 1) := by decide +kernel
theorem dX1_widthAhead_10 : decode cX1_widthAhead 10 = .ok (.aload_n 0, 1) := by decide +kernel
theorem dX1_widthAhead_11 : decode cX1_widthAhead 11 = .ok (.getfield 26, 3) := by decide +kernel
theorem dX1_widthAhead_14 : decode cX1_widthAhead 14 = .ok (.if_icmp .ge 22, 3) := by decide +kernel
theorem dX1_widthAhead_17 : decode cX1_widthAhead 17 = .ok (.iload_n 2, 1) := by decide +kernel
theorem dX1_widthAhead_18 : decode cX1_widthAhead 18 = .ok (.getstatic 32, 3) := by decide +kernel
theorem dX1_widthAhead_21 : decode cX1_widthAhead 21 = .ok (.aload_n 0, 1) := by decide +kernel
theorem dX1_widthAhead_22 : decode cX1_widthAhead 22 = .ok (.getfield 9, 3) := by decide +kernel
theorem dX1_widthAhead_25 : decode cX1_widthAhead 25 = .ok (.iload_n 3, 1) := by decide +kernel
theorem dX1_widthAhead_26 : decode cX1_widthAhead 26 = .ok (.iaload, 1) := by decide +kernel
theorem dX1_widthAhead_27 : decode cX1_widthAhead 27 = .ok (.iaload, 1) := by decide +kernel
theorem dX1_widthAhead_28 : decode cX1_widthAhead 28 = .ok (.iadd, 1) := by decide +kernel
theorem dX1_widthAhead_29 : decode cX1_widthAhead 29 = .ok (.istore_n 2, 1) := by decide +kernel
theorem dX1_widthAhead_30 : decode cX1_widthAhead 30 = .ok (.iinc 3 1, 3) := by decide +kernel
theorem dX1_widthAhead_33 : decode cX1_widthAhead 33 = .ok (.goto (-29), 3) := by decide +kernel
theorem dX1_widthAhead_36 : decode cX1_widthAhead 36 = .ok (.iload_n 2, 1) := by decide +kernel
theorem dX1_widthAhead_37 : decode cX1_widthAhead 37 = .ok (.ireturn, 1) := by decide +kernel
theorem dX1_isFollowed_0 : decode cX1_isFollowed 0 = .ok (.iload_n 1, 1) := by decide +kernel
theorem dX1_isFollowed_1 : decode cX1_isFollowed 1 = .ok (.iconst 1, 1) := by decide +kernel
theorem dX1_isFollowed_2 : decode cX1_isFollowed 2 = .ok (.iadd, 1) := by decide +kernel
theorem dX1_isFollowed_3 : decode cX1_isFollowed 3 = .ok (.istore_n 2, 1) := by decide +kernel
theorem dX1_isFollowed_4 : decode cX1_isFollowed 4 = .ok (.iload_n 2, 1) := by decide +kernel
theorem dX1_isFollowed_5 : decode cX1_isFollowed 5 = .ok (.aload_n 0, 1) := by decide +kernel
theorem dX1_isFollowed_6 : decode cX1_isFollowed 6 = .ok (.getfield 29, 3) := by decide +kernel
theorem dX1_isFollowed_9 : decode cX1_isFollowed 9 = .ok (.if_icmp .ge 18, 3) := by decide +kernel
theorem dX1_isFollowed_12 : decode cX1_isFollowed 12 = .ok (.aload_n 0, 1) := by decide +kernel
theorem dX1_isFollowed_13 : decode cX1_isFollowed 13 = .ok (.getfield 9, 3) := by decide +kernel
theorem dX1_isFollowed_16 : decode cX1_isFollowed 16 = .ok (.iload_n 2, 1) := by decide +kernel
theorem dX1_isFollowed_17 : decode cX1_isFollowed 17 = .ok (.iaload, 1) := by decide +kernel
theorem dX1_isFollowed_18 : decode cX1_isFollowed 18 = .ok (.bipush 9, 2) := by decide +kernel
theorem dX1_isFollowed_20 : decode cX1_isFollowed 20 = .ok (.if_icmp .eq 7, 3) := by decide +kernel
theorem dX1_isFollowed_23 : decode cX1_isFollowed 23 = .ok (.iconst 1, 1) := by decide +kernel
theorem dX1_isFollowed_24 : decode cX1_isFollowed 24 = .ok (.goto 4, 3) := by decide +kernel
theorem dX1_isFollowed_27 : decode cX1_isFollowed 27 = .ok (.iconst 0, 1) := by decide +kernel
theorem dX1_isFollowed_28 : decode cX1_isFollowed 28 = .ok (.ireturn, 1) := by decide +kernel
theorem dX1_counts_0 : decode cX1_counts 0 = .ok (.aload_n 0, 1) := by decide +kernel
theorem dX1_counts_1 : decode cX1_counts 1 = .ok (.getfield 15, 3) := by decide +kernel
theorem dX1_counts_4 : decode cX1_counts 4 = .ok (.bipush (-9), 2) := by decide +kernel
theorem dX1_counts_6 : decode cX1_counts 6 = .ok (.if_icmp .eq 14, 3) := by decide +kernel
theorem dX1_counts_9 : decode cX1_counts 9 = .ok (.aload_n 0, 1) := by decide +kernel
theorem dX1_counts_10 : decode cX1_counts 10 = .ok (.getfield 26, 3) := by decide +kernel
theorem dX1_counts_13 : decode cX1_counts 13 = .ok (.ifCond .le 7, 3) := by decide +kernel
theorem dX1_counts_16 : decode cX1_counts 16 = .ok (.iconst 1, 1) := by decide +kernel
theorem dX1_counts_17 : decode cX1_counts 17 = .ok (.goto 4, 3) := by decide +kernel
theorem dX1_counts_20 : decode cX1_counts 20 = .ok (.iconst 0, 1) := by decide +kernel
theorem dX1_counts_21 : decode cX1_counts 21 = .ok (.ireturn, 1) := by decide +kernel
theorem dX2_init_0 : decode cX2_init 0 = .ok (.aload_n 0, 1) := by decide +kernel
theorem dX2_init_1 : decode cX2_init 1 = .ok (.invokespecial 3, 3) := by decide +kernel
theorem dX2_init_4 : decode cX2_init 4 = .ok (.aload_n 0, 1) := by decide +kernel
theorem dX2_init_5 : decode cX2_init 5 = .ok (.bipush 20, 2) := by decide +kernel
theorem dX2_init_7 : decode cX2_init 7 = .ok (.newarray .int, 2) := by decide +kernel
theorem dX2_init_9 : decode cX2_init 9 = .ok (.putfield 9, 3) := by decide +kernel
theorem dX2_init_12 : decode cX2_init 12 = .ok (.aload_n 0, 1) := by decide +kernel
theorem dX2_init_13 : decode cX2_init 13 = .ok (.bipush 20, 2) := by decide +kernel
theorem dX2_init_15 : decode cX2_init 15 = .ok (.newarray .int, 2) := by decide +kernel
theorem dX2_init_17 : decode cX2_init 17 = .ok (.putfield 15, 3) := by decide +kernel
theorem dX2_init_20 : decode cX2_init 20 = .ok (.aload_n 0, 1) := by decide +kernel
theorem dX2_init_21 : decode cX2_init 21 = .ok (.bipush 20, 2) := by decide +kernel
theorem dX2_init_23 : decode cX2_init 23 = .ok (.newarray .int, 2) := by decide +kernel
theorem dX2_init_25 : decode cX2_init 25 = .ok (.putfield 18, 3) := by decide +kernel
theorem dX2_init_28 : decode cX2_init 28 = .ok (.aload_n 0, 1) := by decide +kernel
theorem dX2_init_29 : decode cX2_init 29 = .ok (.bipush 20, 2) := by decide +kernel
theorem dX2_init_31 : decode cX2_init 31 = .ok (.newarray .int, 2) := by decide +kernel
theorem dX2_init_33 : decode cX2_init 33 = .ok (.putfield 21, 3) := by decide +kernel
theorem dX2_init_36 : decode cX2_init 36 = .ok (.aload_n 0, 1) := by decide +kernel
theorem dX2_init_37 : decode cX2_init 37 = .ok (.sipush 180, 3) := by decide +kernel
theorem dX2_init_40 : decode cX2_init 40 = .ok (.newarray .int, 2) := by decide +kernel
theorem dX2_init_42 : decode cX2_init 42 = .ok (.putfield 24, 3) := by decide +kernel
theorem dX2_init_45 : decode cX2_init 45 = .ok (.aload_n 0, 1) := by decide +kernel
theorem dX2_init_46 : decode cX2_init 46 = .ok (.sipush 180, 3) := by decide +kernel
theorem dX2_init_49 : decode cX2_init 49 = .ok (.newarray .int, 2) := by decide +kernel
theorem dX2_init_51 : decode cX2_init 51 = .ok (.putfield 27, 3) := by decide +kernel
theorem dX2_init_54 : decode cX2_init 54 = .ok (.aload_n 0, 1) := by decide +kernel
theorem dX2_init_55 : decode cX2_init 55 = .ok (.sipush 180, 3) := by decide +kernel
theorem dX2_init_58 : decode cX2_init 58 = .ok (.newarray .int, 2) := by decide +kernel
theorem dX2_init_60 : decode cX2_init 60 = .ok (.putfield 30, 3) := by decide +kernel
theorem dX2_init_63 : decode cX2_init 63 = .ok (.aload_n 0, 1) := by decide +kernel
theorem dX2_init_64 : decode cX2_init 64 = .ok (.sipush 180, 3) := by decide +kernel
theorem dX2_init_67 : decode cX2_init 67 = .ok (.newarray .int, 2) := by decide +kernel
theorem dX2_init_69 : decode cX2_init 69 = .ok (.putfield 33, 3) := by decide +kernel
theorem dX2_init_72 : decode cX2_init 72 = .ok (.aload_n 0, 1) := by decide +kernel
theorem dX2_init_73 : decode cX2_init 73 = .ok (.sipush 180, 3) := by decide +kernel
theorem dX2_init_76 : decode cX2_init 76 = .ok (.newarray .boolean, 2) := by decide +kernel
theorem dX2_init_78 : decode cX2_init 78 = .ok (.putfield 36, 3) := by decide +kernel
theorem dX2_init_81 : decode cX2_init 81 = .ok (.aload_n 0, 1) := by decide +kernel
theorem dX2_init_82 : decode cX2_init 82 = .ok (.sipush 180, 3) := by decide +kernel
theorem dX2_init_85 : decode cX2_init 85 = .ok (.newarray .int, 2) := by decide +kernel
theorem dX2_init_87 : decode cX2_init 87 = .ok (.putfield 40, 3) := by decide +kernel
theorem dX2_init_90 : decode cX2_init 90 = .ok (.aload_n 0, 1) := by decide +kernel
theorem dX2_init_91 : decode cX2_init 91 = .ok (.sipush 180, 3) := by decide +kernel
theorem dX2_init_94 : decode cX2_init 94 = .ok (.newarray .int, 2) := by decide +kernel
theorem dX2_init_96 : decode cX2_init 96 = .ok (.putfield 43, 3) := by decide +kernel
theorem dX2_init_99 : decode cX2_init 99 = .ok (.return_, 1) := by decide +kernel
set_option maxRecDepth 20000 in
theorem ggX2_read_X2_readLine : GoodIn wsX2_read wsX2_readLine := goodIn_r _ [15, 16, 17, 3, 18, 19, 20, 14, 21, 1, 2, 22, 23, 24, 25, 26, 27, 6, 28, 29, 30, 31, 32, 33, 34, 35, 36, 37, 38, 39, 40, 41, 42, 43, 9, 60, 61, 62, 63, 64, 65, 44, 45, 46, 47, 48, 49, 50, 51, 52, 53, 54, 55, 56, 57] (by decide +kernel) (by decide +kernel)
set_option maxRecDepth 20000 in
theorem gX2_read_X2_readLine : GoodIn wsX2_read (wsV RX2 65 RX2 yX2_readLine wsX2_readLine) := goodIn_app (goodIn_of _ (by decide +kernel)) ggX2_read_X2_readLine
theorem dX2_read_0 : decode cX2_read 0 = .ok (.aload_n 0, 1) := by decide +kernel
theorem dX2_read_1 : decode cX2_read 1 = .ok (.iconst 0, 1) := by decide +kernel
theorem dX2_read_2 : decode cX2_read 2 = .ok (.putfield 46, 3) := by decide +kernel
theorem dX2_read_5 : decode cX2_read 5 = .ok (.aload_n 0, 1) := by decide +kernel
theorem dX2_read_6 : decode cX2_read 6 = .ok (.iconst 0, 1) := by decide +kernel
theorem dX2_read_7 : decode cX2_read 7 = .ok (.putfield 50, 3) := by decide +kernel
theorem dX2_read_10 : decode cX2_read 10 = .ok (.aload_n 0, 1) := by decide +kernel
theorem dX2_read_11 : decode cX2_read 11 = .ok (.iconst 0, 1) := by decide +kernel
theorem dX2_read_12 : decode cX2_read 12 = .ok (.putfield 53, 3) := by decide +kernel
theorem dX2_read_15 : decode cX2_read 15 = .ok (.iconst 0, 1) := by decide +kernel
theorem dX2_read_16 : decode cX2_read 16 = .ok (.istore_n 2, 1) := by decide +kernel
theorem dX2_read_17 : decode cX2_read 17 = .ok (.iload_n 2, 1) := by decide +kernel
theorem dX2_read_18 : decode cX2_read 18 = .ok (.aload_n 1, 1) := by decide +kernel
theorem dX2_read_19 : decode cX2_read 19 = .ok (.getfield 56, 3) := by decide +kernel
theorem dX2_read_22 : decode cX2_read 22 = .ok (.if_icmp .ge 76, 3) := by decide +kernel
theorem dX2_read_25 : decode cX2_read 25 = .ok (.aload_n 0, 1) := by decide +kernel
theorem dX2_read_26 : decode cX2_read 26 = .ok (.getfield 9, 3) := by decide +kernel
theorem dX2_read_29 : decode cX2_read 29 = .ok (.iload_n 2, 1) := by decide +kernel
theorem dX2_read_30 : decode cX2_read 30 = .ok (.aload_n 0, 1) := by decide +kernel
theorem dX2_read_31 : decode cX2_read 31 = .ok (.getfield 50, 3) := by decide +kernel
theorem dX2_read_34 : decode cX2_read 34 = .ok (.ifCond .le 17, 3) := by decide +kernel
theorem dX2_read_37 : decode cX2_read 37 = .ok (.aload_n 0, 1) := by decide +kernel
theorem dX2_read_38 : decode cX2_read 38 = .ok (.getfield 43, 3) := by decide +kernel
theorem dX2_read_41 : decode cX2_read 41 = .ok (.aload_n 0, 1) := by decide +kernel
theorem dX2_read_42 : decode cX2_read 42 = .ok (.getfield 50, 3) := by decide +kernel
theorem dX2_read_45 : decode cX2_read 45 = .ok (.iconst 1, 1) := by decide +kernel
theorem dX2_read_46 : decode cX2_read 46 = .ok (.isub, 1) := by decide +kernel
theorem dX2_read_47 : decode cX2_read 47 = .ok (.iaload, 1) := by decide +kernel
theorem dX2_read_48 : decode cX2_read 48 = .ok (.goto 5, 3) := by decide +kernel
theorem dX2_read_51 : decode cX2_read 51 = .ok (.bipush (-9), 2) := by decide +kernel
theorem dX2_read_53 : decode cX2_read 53 = .ok (.iastore, 1) := by decide +kernel
theorem dX2_read_54 : decode cX2_read 54 = .ok (.aload_n 0, 1) := by decide +kernel
theorem dX2_read_55 : decode cX2_read 55 = .ok (.getfield 15, 3) := by decide +kernel
theorem dX2_read_58 : decode cX2_read 58 = .ok (.iload_n 2, 1) := by decide +kernel
theorem dX2_read_59 : decode cX2_read 59 = .ok (.aload_n 0, 1) := by decide +kernel
theorem dX2_read_60 : decode cX2_read 60 = .ok (.getfield 50, 3) := by decide +kernel
theorem dX2_read_63 : decode cX2_read 63 = .ok (.iastore, 1) := by decide +kernel
theorem dX2_read_64 : decode cX2_read 64 = .ok (.aload_n 0, 1) := by decide +kernel
theorem dX2_read_65 : decode cX2_read 65 = .ok (.getfield 18, 3) := by decide +kernel
theorem dX2_read_68 : decode cX2_read 68 = .ok (.iload_n 2, 1) := by decide +kernel
theorem dX2_read_69 : decode cX2_read 69 = .ok (.aload_n 0, 1) := by decide +kernel
theorem dX2_read_70 : decode cX2_read 70 = .ok (.getfield 53, 3) := by decide +kernel
theorem dX2_read_73 : decode cX2_read 73 = .ok (.iastore, 1) := by decide +kernel
theorem dX2_read_74 : decode cX2_read 74 = .ok (.aload_n 0, 1) := by decide +kernel
theorem dX2_read_75 : decode cX2_read 75 = .ok (.getfield 21, 3) := by decide +kernel
theorem dX2_read_78 : decode cX2_read 78 = .ok (.iload_n 2, 1) := by decide +kernel
theorem dX2_read_79 : decode cX2_read 79 = .ok (.iconst 0, 1) := by decide +kernel
theorem dX2_read_80 : decode cX2_read 80 = .ok (.iastore, 1) := by decide +kernel
theorem dX2_read_81 : decode cX2_read 81 = .ok (.aload_n 0, 1) := by decide +kernel
theorem dX2_read_82 : decode cX2_read 82 = .ok (.aload_n 1, 1) := by decide +kernel
theorem dX2_read_83 : decode cX2_read 83 = .ok (.getfield 61, 3) := by decide +kernel
theorem dX2_read_86 : decode cX2_read 86 = .ok (.iload_n 2, 1) := by decide +kernel
theorem dX2_read_87 : decode cX2_read 87 = .ok (.aaload, 1) := by decide +kernel
theorem dX2_read_88 : decode cX2_read 88 = .ok (.iload_n 2, 1) := by decide +kernel
theorem dX2_read_89 : decode cX2_read 89 = .ok (.invokevirtual 65, 3) := by decide +kernel
theorem dX2_read_92 : decode cX2_read 92 = .ok (.iinc 2 1, 3) := by decide +kernel
theorem dX2_read_95 : decode cX2_read 95 = .ok (.goto (-78), 3) := by decide +kernel
theorem dX2_read_98 : decode cX2_read 98 = .ok (.return_, 1) := by decide +kernel
set_option maxRecDepth 20000 in
theorem ggX2_readLine_X2_openOne : GoodIn wsX2_readLine wsX2_openOne := goodIn_r _ [8, 9, 10, 11, 2, 12, 13, 14, 15, 16, 17, 18, 19, 20, 21, 22, 23, 24, 25, 26, 27, 28, 29, 41, 42, 43, 44, 45, 46, 47, 48, 49, 50, 51, 52, 53, 54, 35, 36, 37, 38, 39, 40] (by decide +kernel) (by decide +kernel)
set_option maxRecDepth 20000 in
theorem gX2_readLine_X2_openOne : GoodIn wsX2_readLine (wsV RX2 77 RX2 yX2_openOne wsX2_openOne) := goodIn_app (goodIn_of _ (by decide +kernel)) ggX2_readLine_X2_openOne
set_option maxRecDepth 20000 in
theorem ggX2_readLine_X2_closeOne : GoodIn wsX2_readLine wsX2_closeOne := goodIn_r _ [33, 10, 11, 17, 16, 34, 41, 42, 43, 44, 45, 46, 47, 48, 49, 50, 51, 52, 53, 54] (by decide +kernel) (by decide +kernel)
set_option maxRecDepth 20000 in
theorem gX2_readLine_X2_closeOne : GoodIn wsX2_readLine (wsV RX2 81 RX2 yX2_closeOne wsX2_closeOne) := goodIn_app (goodIn_of _ (by decide +kernel)) ggX2_readLine_X2_closeOne
theorem dX2_readLine_0 : decode cX2_readLine 0 = .ok (.iconst 0, 1) := by decide +kernel
theorem dX2_readLine_1 : decode cX2_readLine 1 = .ok (.istore_n 3, 1) := by decide +kernel
theorem dX2_readLine_2 : decode cX2_readLine 2 = .ok (.iload_n 3, 1) := by decide +kernel
theorem dX2_readLine_3 : decode cX2_readLine 3 = .ok (.aload_n 1, 1) := by decide +kernel
theorem dX2_readLine_4 : decode cX2_readLine 4 = .ok (.getfield 69, 3) := by decide +kernel
theorem dX2_readLine_7 : decode cX2_readLine 7 = .ok (.if_icmp .ge 79, 3) := by decide +kernel
theorem dX2_readLine_10 : decode cX2_readLine 10 = .ok (.aload_n 1, 1) := by decide +kernel
theorem dX2_readLine_11 : decode cX2_readLine 11 = .ok (.getfield 74, 3) := by decide +kernel
theorem dX2_readLine_14 : decode cX2_readLine 14 = .ok (.iload_n 3, 1) := by decide +kernel
theorem dX2_readLine_15 : decode cX2_readLine 15 = .ok (.iaload, 1) := by decide +kernel
theorem dX2_readLine_16 : decode cX2_readLine 16 = .ok (.istore 4, 2) := by decide +kernel
theorem dX2_readLine_18 : decode cX2_readLine 18 = .ok (.iload 4, 2) := by decide +kernel
theorem dX2_readLine_20 : decode cX2_readLine 20 = .ok (.iconst 2, 1) := by decide +kernel
theorem dX2_readLine_21 : decode cX2_readLine 21 = .ok (.if_icmp .eq 9, 3) := by decide +kernel
theorem dX2_readLine_24 : decode cX2_readLine 24 = .ok (.iload 4, 2) := by decide +kernel
theorem dX2_readLine_26 : decode cX2_readLine 26 = .ok (.iconst 4, 1) := by decide +kernel
theorem dX2_readLine_27 : decode cX2_readLine 27 = .ok (.if_icmp .ne 13, 3) := by decide +kernel
theorem dX2_readLine_30 : decode cX2_readLine 30 = .ok (.aload_n 0, 1) := by decide +kernel
theorem dX2_readLine_31 : decode cX2_readLine 31 = .ok (.aload_n 1, 1) := by decide +kernel
theorem dX2_readLine_32 : decode cX2_readLine 32 = .ok (.iload_n 2, 1) := by decide +kernel
theorem dX2_readLine_33 : decode cX2_readLine 33 = .ok (.iload_n 3, 1) := by decide +kernel
theorem dX2_readLine_34 : decode cX2_readLine 34 = .ok (.invokevirtual 77, 3) := by decide +kernel
theorem dX2_readLine_37 : decode cX2_readLine 37 = .ok (.goto 30, 3) := by decide +kernel
theorem dX2_readLine_40 : decode cX2_readLine 40 = .ok (.iload 4, 2) := by decide +kernel
theorem dX2_readLine_42 : decode cX2_readLine 42 = .ok (.iconst 3, 1) := by decide +kernel
theorem dX2_readLine_43 : decode cX2_readLine 43 = .ok (.if_icmp .ne 12, 3) := by decide +kernel
theorem dX2_readLine_46 : decode cX2_readLine 46 = .ok (.aload_n 0, 1) := by decide +kernel
theorem dX2_readLine_47 : decode cX2_readLine 47 = .ok (.iconst 2, 1) := by decide +kernel
theorem dX2_readLine_48 : decode cX2_readLine 48 = .ok (.iload_n 2, 1) := by decide +kernel
theorem dX2_readLine_49 : decode cX2_readLine 49 = .ok (.invokevirtual 81, 3) := by decide +kernel
theorem dX2_readLine_52 : decode cX2_readLine 52 = .ok (.goto 15, 3) := by decide +kernel
theorem dX2_readLine_55 : decode cX2_readLine 55 = .ok (.iload 4, 2) := by decide +kernel
theorem dX2_readLine_57 : decode cX2_readLine 57 = .ok (.iconst 5, 1) := by decide +kernel
theorem dX2_readLine_58 : decode cX2_readLine 58 = .ok (.if_icmp .ne 9, 3) := by decide +kernel
theorem dX2_readLine_61 : decode cX2_readLine 61 = .ok (.aload_n 0, 1) := by decide +kernel
theorem dX2_readLine_62 : decode cX2_readLine 62 = .ok (.iconst 4, 1) := by decide +kernel
theorem dX2_readLine_63 : decode cX2_readLine 63 = .ok (.iload_n 2, 1) := by decide +kernel
theorem dX2_readLine_64 : decode cX2_readLine 64 = .ok (.invokevirtual 81, 3) := by decide +kernel
theorem dX2_readLine_67 : decode cX2_readLine 67 = .ok (.iload 4, 2) := by decide +kernel
theorem dX2_readLine_69 : decode cX2_readLine 69 = .ok (.bipush 9, 2) := by decide +kernel
theorem dX2_readLine_71 : decode cX2_readLine 71 = .ok (.if_icmp .eq 9, 3) := by decide +kernel
theorem dX2_readLine_74 : decode cX2_readLine 74 = .ok (.aload_n 0, 1) := by decide +kernel
theorem dX2_readLine_75 : decode cX2_readLine 75 = .ok (.iload 4, 2) := by decide +kernel
theorem dX2_readLine_77 : decode cX2_readLine 77 = .ok (.putfield 53, 3) := by decide +kernel
theorem dX2_readLine_80 : decode cX2_readLine 80 = .ok (.iinc 3 1, 3) := by decide +kernel
theorem dX2_readLine_83 : decode cX2_readLine 83 = .ok (.goto (-81), 3) := by decide +kernel
theorem dX2_readLine_86 : decode cX2_readLine 86 = .ok (.return_, 1) := by decide +kernel
set_option maxRecDepth 20000 in
theorem ggX2_openOne_X1_widthAhead : GoodIn wsX2_openOne wsX1_widthAhead := goodIn_r _ [15, 16, 17, 37, 38, 39, 40, 41, 42] (by decide +kernel) (by decide +kernel)
set_option maxRecDepth 20000 in
theorem gX2_openOne_X1_widthAhead : GoodIn wsX2_openOne (wsV RX2 85 RX1 yX1_widthAhead wsX1_widthAhead) := goodIn_app (goodIn_of _ (by decide +kernel)) ggX2_openOne_X1_widthAhead
set_option maxRecDepth 20000 in
theorem ggX2_openOne_X1_isFollowed : GoodIn wsX2_openOne wsX1_isFollowed := goodIn_r _ [21, 22, 17, 37, 38, 39, 40, 41, 42] (by decide +kernel) (by decide +kernel)
set_option maxRecDepth 20000 in
theorem gX2_openOne_X1_isFollowed : GoodIn wsX2_openOne (wsV RX2 89 RX1 yX1_isFollowed wsX1_isFollowed) := goodIn_app (goodIn_of _ (by decide +kernel)) ggX2_openOne_X1_isFollowed
theorem dX2_openOne_0 : decode cX2_openOne 0 = .ok (.aload_n 0, 1) := by decide +kernel
theorem dX2_openOne_1 : decode cX2_openOne 1 = .ok (.getfield 46, 3) := by decide +kernel
theorem dX2_openOne_4 : decode cX2_openOne 4 = .ok (.sipush 180, 3) := by decide +kernel
theorem dX2_openOne_7 : decode cX2_openOne 7 = .ok (.if_icmp .ge 13, 3) := by decide +kernel
theorem dX2_openOne_10 : decode cX2_openOne 10 = .ok (.aload_n 0, 1) := by decide +kernel
theorem dX2_openOne_11 : decode cX2_openOne 11 = .ok (.getfield 50, 3) := by decide +kernel
theorem dX2_openOne_14 : decode cX2_openOne 14 = .ok (.sipush 180, 3) := by decide +kernel
theorem dX2_openOne_17 : decode cX2_openOne 17 = .ok (.if_icmp .lt 4, 3) := by decide +kernel
theorem dX2_openOne_20 : decode cX2_openOne 20 = .ok (.return_, 1) := by decide +kernel
theorem dX2_openOne_21 : decode cX2_openOne 21 = .ok (.aload_n 0, 1) := by decide +kernel
theorem dX2_openOne_22 : decode cX2_openOne 22 = .ok (.getfield 24, 3) := by decide +kernel
theorem dX2_openOne_25 : decode cX2_openOne 25 = .ok (.aload_n 0, 1) := by decide +kernel
theorem dX2_openOne_26 : decode cX2_openOne 26 = .ok (.getfield 46, 3) := by decide +kernel
theorem dX2_openOne_29 : decode cX2_openOne 29 = .ok (.aload_n 1, 1) := by decide +kernel
theorem dX2_openOne_30 : decode cX2_openOne 30 = .ok (.getfield 74, 3) := by decide +kernel
theorem dX2_openOne_33 : decode cX2_openOne 33 = .ok (.iload_n 3, 1) := by decide +kernel
theorem dX2_openOne_34 : decode cX2_openOne 34 = .ok (.iaload, 1) := by decide +kernel
theorem dX2_openOne_35 : decode cX2_openOne 35 = .ok (.iastore, 1) := by decide +kernel
theorem dX2_openOne_36 : decode cX2_openOne 36 = .ok (.aload_n 0, 1) := by decide +kernel
theorem dX2_openOne_37 : decode cX2_openOne 37 = .ok (.getfield 27, 3) := by decide +kernel
theorem dX2_openOne_40 : decode cX2_openOne 40 = .ok (.aload_n 0, 1) := by decide +kernel
theorem dX2_openOne_41 : decode cX2_openOne 41 = .ok (.getfield 46, 3) := by decide +kernel
theorem dX2_openOne_44 : decode cX2_openOne 44 = .ok (.iload_n 2, 1) := by decide +kernel
theorem dX2_openOne_45 : decode cX2_openOne 45 = .ok (.iastore, 1) := by decide +kernel
theorem dX2_openOne_46 : decode cX2_openOne 46 = .ok (.aload_n 0, 1) := by decide +kernel
theorem dX2_openOne_47 : decode cX2_openOne 47 = .ok (.getfield 30, 3) := by decide +kernel
theorem dX2_openOne_50 : decode cX2_openOne 50 = .ok (.aload_n 0, 1) := by decide +kernel
theorem dX2_openOne_51 : decode cX2_openOne 51 = .ok (.getfield 46, 3) := by decide +kernel
theorem dX2_openOne_54 : decode cX2_openOne 54 = .ok (.iload_n 3, 1) := by decide +kernel
theorem dX2_openOne_55 : decode cX2_openOne 55 = .ok (.iastore, 1) := by decide +kernel
theorem dX2_openOne_56 : decode cX2_openOne 56 = .ok (.aload_n 0, 1) := by decide +kernel
theorem dX2_openOne_57 : decode cX2_openOne 57 = .ok (.getfield 33, 3) := by decide +kernel
theorem dX2_openOne_60 : decode cX2_openOne 60 = .ok (.aload_n 0, 1) := by decide +kernel
theorem dX2_openOne_61 : decode cX2_openOne 61 = .ok (.getfield 46, 3) := by decide +kernel
theorem dX2_openOne_64 : decode cX2_openOne 64 = .ok (.aload_n 1, 1) := by decide +kernel
theorem dX2_openOne_65 : decode cX2_openOne 65 = .ok (.iload_n 3, 1) := by decide +kernel
theorem dX2_openOne_66 : decode cX2_openOne 66 = .ok (.invokevirtual 85, 3) := by decide +kernel
theorem dX2_openOne_69 : decode cX2_openOne 69 = .ok (.iastore, 1) := by decide +kernel
theorem dX2_openOne_70 : decode cX2_openOne 70 = .ok (.aload_n 0, 1) := by decide +kernel
theorem dX2_openOne_71 : decode cX2_openOne 71 = .ok (.getfield 36, 3) := by decide +kernel
theorem dX2_openOne_74 : decode cX2_openOne 74 = .ok (.aload_n 0, 1) := by decide +kernel
theorem dX2_openOne_75 : decode cX2_openOne 75 = .ok (.getfield 46, 3) := by decide +kernel
theorem dX2_openOne_78 : decode cX2_openOne 78 = .ok (.aload_n 1, 1) := by decide +kernel
theorem dX2_openOne_79 : decode cX2_openOne 79 = .ok (.iload_n 3, 1) := by decide +kernel
theorem dX2_openOne_80 : decode cX2_openOne 80 = .ok (.invokevirtual 89, 3) := by decide +kernel
theorem dX2_openOne_83 : decode cX2_openOne 83 = .ok (.bastore, 1) := by decide +kernel
theorem dX2_openOne_84 : decode cX2_openOne 84 = .ok (.aload_n 0, 1) := by decide +kernel
theorem dX2_openOne_85 : decode cX2_openOne 85 = .ok (.getfield 40, 3) := by decide +kernel
theorem dX2_openOne_88 : decode cX2_openOne 88 = .ok (.aload_n 0, 1) := by decide +kernel
theorem dX2_openOne_89 : decode cX2_openOne 89 = .ok (.getfield 46, 3) := by decide +kernel
theorem dX2_openOne_92 : decode cX2_openOne 92 = .ok (.bipush (-9), 2) := by decide +kernel
theorem dX2_openOne_94 : decode cX2_openOne 94 = .ok (.iastore, 1) := by decide +kernel
theorem dX2_openOne_95 : decode cX2_openOne 95 = .ok (.aload_n 0, 1) := by decide +kernel
theorem dX2_openOne_96 : decode cX2_openOne 96 = .ok (.getfield 43, 3) := by decide +kernel
theorem dX2_openOne_99 : decode cX2_openOne 99 = .ok (.aload_n 0, 1) := by decide +kernel
theorem dX2_openOne_100 : decode cX2_openOne 100 = .ok (.getfield 50, 3) := by decide +kernel
theorem dX2_openOne_103 : decode cX2_openOne 103 = .ok (.aload_n 0, 1) := by decide +kernel
theorem dX2_openOne_104 : decode cX2_openOne 104 = .ok (.getfield 46, 3) := by decide +kernel
theorem dX2_openOne_107 : decode cX2_openOne 107 = .ok (.iastore, 1) := by decide +kernel
theorem dX2_openOne_108 : decode cX2_openOne 108 = .ok (.aload_n 0, 1) := by decide +kernel
theorem dX2_openOne_109 : decode cX2_openOne 109 = .ok (.dup, 1) := by decide +kernel
theorem dX2_openOne_110 : decode cX2_openOne 110 = .ok (.getfield 50, 3) := by decide +kernel
theorem dX2_openOne_113 : decode cX2_openOne 113 = .ok (.iconst 1, 1) := by decide +kernel
theorem dX2_openOne_114 : decode cX2_openOne 114 = .ok (.iadd, 1) := by decide +kernel
theorem dX2_openOne_115 : decode cX2_openOne 115 = .ok (.putfield 50, 3) := by decide +kernel
theorem dX2_openOne_118 : decode cX2_openOne 118 = .ok (.aload_n 0, 1) := by decide +kernel
theorem dX2_openOne_119 : decode cX2_openOne 119 = .ok (.dup, 1) := by decide +kernel
theorem dX2_openOne_120 : decode cX2_openOne 120 = .ok (.getfield 46, 3) := by decide +kernel
theorem dX2_openOne_123 : decode cX2_openOne 123 = .ok (.iconst 1, 1) := by decide +kernel
theorem dX2_openOne_124 : decode cX2_openOne 124 = .ok (.iadd, 1) := by decide +kernel
theorem dX2_openOne_125 : decode cX2_openOne 125 = .ok (.putfield 46, 3) := by decide +kernel
theorem dX2_openOne_128 : decode cX2_openOne 128 = .ok (.return_, 1) := by decide +kernel
theorem dX2_closeOne_0 : decode cX2_closeOne 0 = .ok (.aload_n 0, 1) := by decide +kernel
theorem dX2_closeOne_1 : decode cX2_closeOne 1 = .ok (.getfield 50, 3) := by decide +kernel
theorem dX2_closeOne_4 : decode cX2_closeOne 4 = .ok (.ifCond .le 51, 3) := by decide +kernel
theorem dX2_closeOne_7 : decode cX2_closeOne 7 = .ok (.aload_n 0, 1) := by decide +kernel
theorem dX2_closeOne_8 : decode cX2_closeOne 8 = .ok (.getfield 24, 3) := by decide +kernel
theorem dX2_closeOne_11 : decode cX2_closeOne 11 = .ok (.aload_n 0, 1) := by decide +kernel
theorem dX2_closeOne_12 : decode cX2_closeOne 12 = .ok (.getfield 43, 3) := by decide +kernel
theorem dX2_closeOne_15 : decode cX2_closeOne 15 = .ok (.aload_n 0, 1) := by decide +kernel
theorem dX2_closeOne_16 : decode cX2_closeOne 16 = .ok (.getfield 50, 3) := by decide +kernel
theorem dX2_closeOne_19 : decode cX2_closeOne 19 = .ok (.iconst 1, 1) := by decide +kernel
theorem dX2_closeOne_20 : decode cX2_closeOne 20 = .ok (.isub, 1) := by decide +kernel
theorem dX2_closeOne_21 : decode cX2_closeOne 21 = .ok (.iaload, 1) := by decide +kernel
theorem dX2_closeOne_22 : decode cX2_closeOne 22 = .ok (.iaload, 1) := by decide +kernel
theorem dX2_closeOne_23 : decode cX2_closeOne 23 = .ok (.iload_n 1, 1) := by decide +kernel
theorem dX2_closeOne_24 : decode cX2_closeOne 24 = .ok (.if_icmp .ne 31, 3) := by decide +kernel
theorem dX2_closeOne_27 : decode cX2_closeOne 27 = .ok (.aload_n 0, 1) := by decide +kernel
theorem dX2_closeOne_28 : decode cX2_closeOne 28 = .ok (.dup, 1) := by decide +kernel
theorem dX2_closeOne_29 : decode cX2_closeOne 29 = .ok (.getfield 50, 3) := by decide +kernel
theorem dX2_closeOne_32 : decode cX2_closeOne 32 = .ok (.iconst 1, 1) := by decide +kernel
theorem dX2_closeOne_33 : decode cX2_closeOne 33 = .ok (.isub, 1) := by decide +kernel
theorem dX2_closeOne_34 : decode cX2_closeOne 34 = .ok (.putfield 50, 3) := by decide +kernel
theorem dX2_closeOne_37 : decode cX2_closeOne 37 = .ok (.aload_n 0, 1) := by decide +kernel
theorem dX2_closeOne_38 : decode cX2_closeOne 38 = .ok (.getfield 40, 3) := by decide +kernel
theorem dX2_closeOne_41 : decode cX2_closeOne 41 = .ok (.aload_n 0, 1) := by decide +kernel
theorem dX2_closeOne_42 : decode cX2_closeOne 42 = .ok (.getfield 43, 3) := by decide +kernel
theorem dX2_closeOne_45 : decode cX2_closeOne 45 = .ok (.aload_n 0, 1) := by decide +kernel
theorem dX2_closeOne_46 : decode cX2_closeOne 46 = .ok (.getfield 50, 3) := by decide +kernel
theorem dX2_closeOne_49 : decode cX2_closeOne 49 = .ok (.iaload, 1) := by decide +kernel
theorem dX2_closeOne_50 : decode cX2_closeOne 50 = .ok (.iload_n 2, 1) := by decide +kernel
theorem dX2_closeOne_51 : decode cX2_closeOne 51 = .ok (.iastore, 1) := by decide +kernel
theorem dX2_closeOne_52 : decode cX2_closeOne 52 = .ok (.goto 13, 3) := by decide +kernel
theorem dX2_closeOne_55 : decode cX2_closeOne 55 = .ok (.aload_n 0, 1) := by decide +kernel
theorem dX2_closeOne_56 : decode cX2_closeOne 56 = .ok (.getfield 21, 3) := by decide +kernel
theorem dX2_closeOne_59 : decode cX2_closeOne 59 = .ok (.iload_n 2, 1) := by decide +kernel
theorem dX2_closeOne_60 : decode cX2_closeOne 60 = .ok (.dup2, 1) := by decide +kernel
theorem dX2_closeOne_61 : decode cX2_closeOne 61 = .ok (.iaload, 1) := by decide +kernel
theorem dX2_closeOne_62 : decode cX2_closeOne 62 = .ok (.iconst 1, 1) := by decide +kernel
theorem dX2_closeOne_63 : decode cX2_closeOne 63 = .ok (.iadd, 1) := by decide +kernel
theorem dX2_closeOne_64 : decode cX2_closeOne 64 = .ok (.iastore, 1) := by decide +kernel
theorem dX2_closeOne_65 : decode cX2_closeOne 65 = .ok (.return_, 1) := by decide +kernel
theorem dX2_withoutPartner_0 : decode cX2_withoutPartner 0 = .ok (.iconst 0, 1) := by decide +kernel
theorem dX2_withoutPartner_1 : decode cX2_withoutPartner 1 = .ok (.istore_n 1, 1) := by decide +kernel
theorem dX2_withoutPartner_2 : decode cX2_withoutPartner 2 = .ok (.iconst 0, 1) := by decide +kernel
theorem dX2_withoutPartner_3 : decode cX2_withoutPartner 3 = .ok (.istore_n 2, 1) := by decide +kernel
theorem dX2_withoutPartner_4 : decode cX2_withoutPartner 4 = .ok (.iload_n 2, 1) := by decide +kernel
theorem dX2_withoutPartner_5 : decode cX2_withoutPartner 5 = .ok (.aload_n 0, 1) := by decide +kernel
theorem dX2_withoutPartner_6 : decode cX2_withoutPartner 6 = .ok (.getfield 46, 3) := by decide +kernel
theorem dX2_withoutPartner_9 : decode cX2_withoutPartner 9 = .ok (.if_icmp .ge 23, 3) := by decide +kernel
theorem dX2_withoutPartner_12 : decode cX2_withoutPartner 12 = .ok (.aload_n 0, 1) := by decide +kernel
theorem dX2_withoutPartner_13 : decode cX2_withoutPartner 13 = .ok (.getfield 40, 3) := by decide +kernel
theorem dX2_withoutPartner_16 : decode cX2_withoutPartner 16 = .ok (.iload_n 2, 1) := by decide +kernel
theorem dX2_withoutPartner_17 : decode cX2_withoutPartner 17 = .ok (.iaload, 1) := by decide +kernel
theorem dX2_withoutPartner_18 : decode cX2_withoutPartner 18 = .ok (.bipush (-9), 2) := by decide +kernel
theorem dX2_withoutPartner_20 : decode cX2_withoutPartner 20 = .ok (.if_icmp .ne 6, 3) := by decide +kernel
theorem dX2_withoutPartner_23 : decode cX2_withoutPartner 23 = .ok (.iinc 1 1, 3) := by decide +kernel
theorem dX2_withoutPartner_26 : decode cX2_withoutPartner 26 = .ok (.iinc 2 1, 3) := by decide +kernel
theorem dX2_withoutPartner_29 : decode cX2_withoutPartner 29 = .ok (.goto (-25), 3) := by decide +kernel
theorem dX2_withoutPartner_32 : decode cX2_withoutPartner 32 = .ok (.iload_n 1, 1) := by decide +kernel
theorem dX2_withoutPartner_33 : decode cX2_withoutPartner 33 = .ok (.ireturn, 1) := by decide +kernel
theorem dX3_init_0 : decode cX3_init 0 = .ok (.aload_n 0, 1) := by decide +kernel
theorem dX3_init_1 : decode cX3_init 1 = .ok (.invokespecial 3, 3) := by decide +kernel
theorem dX3_init_4 : decode cX3_init 4 = .ok (.aload_n 0, 1) := by decide +kernel
theorem dX3_init_5 : decode cX3_init 5 = .ok (.bipush 6, 2) := by decide +kernel
theorem dX3_init_7 : decode cX3_init 7 = .ok (.newarray .int, 2) := by decide +kernel
theorem dX3_init_9 : decode cX3_init 9 = .ok (.putfield 9, 3) := by decide +kernel
theorem dX3_init_12 : decode cX3_init 12 = .ok (.aload_n 0, 1) := by decide +kernel
theorem dX3_init_13 : decode cX3_init 13 = .ok (.bipush 6, 2) := by decide +kernel
theorem dX3_init_15 : decode cX3_init 15 = .ok (.newarray .int, 2) := by decide +kernel
theorem dX3_init_17 : decode cX3_init 17 = .ok (.putfield 15, 3) := by decide +kernel
theorem dX3_init_20 : decode cX3_init 20 = .ok (.aload_n 0, 1) := by decide +kernel
theorem dX3_init_21 : decode cX3_init 21 = .ok (.bipush 6, 2) := by decide +kernel
theorem dX3_init_23 : decode cX3_init 23 = .ok (.newarray .int, 2) := by decide +kernel
theorem dX3_init_25 : decode cX3_init 25 = .ok (.putfield 18, 3) := by decide +kernel
theorem dX3_init_28 : decode cX3_init 28 = .ok (.return_, 1) := by decide +kernel
set_option maxRecDepth 20000 in
theorem ggX3_renew_X3_fill : GoodIn wsX3_renew wsX3_fill := goodIn_r _ [7, 8, 9, 10, 11, 12, 13, 14, 15] (by decide +kernel) (by decide +kernel)
set_option maxRecDepth 20000 in
theorem gX3_renew_X3_fill : GoodIn wsX3_renew (wsV RX3 28 RX3 yX3_fill wsX3_fill) := goodIn_app (goodIn_of _ (by decide +kernel)) ggX3_renew_X3_fill
theorem dX3_renew_0 : decode cX3_renew 0 = .ok (.aload_n 0, 1) := by decide +kernel
theorem dX3_renew_1 : decode cX3_renew 1 = .ok (.iload_n 1, 1) := by decide +kernel
theorem dX3_renew_2 : decode cX3_renew 2 = .ok (.putfield 21, 3) := by decide +kernel
theorem dX3_renew_5 : decode cX3_renew 5 = .ok (.aload_n 0, 1) := by decide +kernel
theorem dX3_renew_6 : decode cX3_renew 6 = .ok (.iload_n 2, 1) := by decide +kernel
theorem dX3_renew_7 : decode cX3_renew 7 = .ok (.putfield 25, 3) := by decide +kernel
theorem dX3_renew_10 : decode cX3_renew 10 = .ok (.iconst 0, 1) := by decide +kernel
theorem dX3_renew_11 : decode cX3_renew 11 = .ok (.istore_n 3, 1) := by decide +kernel
theorem dX3_renew_12 : decode cX3_renew 12 = .ok (.iload_n 3, 1) := by decide +kernel
theorem dX3_renew_13 : decode cX3_renew 13 = .ok (.bipush 6, 2) := by decide +kernel
theorem dX3_renew_15 : decode cX3_renew 15 = .ok (.if_icmp .ge 20, 3) := by decide +kernel
theorem dX3_renew_18 : decode cX3_renew 18 = .ok (.aload_n 0, 1) := by decide +kernel
theorem dX3_renew_19 : decode cX3_renew 19 = .ok (.iload_n 3, 1) := by decide +kernel
theorem dX3_renew_20 : decode cX3_renew 20 = .ok (.bipush (-9), 2) := by decide +kernel
theorem dX3_renew_22 : decode cX3_renew 22 = .ok (.bipush (-9), 2) := by decide +kernel
theorem dX3_renew_24 : decode cX3_renew 24 = .ok (.bipush (-9), 2) := by decide +kernel
theorem dX3_renew_26 : decode cX3_renew 26 = .ok (.invokevirtual 28, 3) := by decide +kernel
theorem dX3_renew_29 : decode cX3_renew 29 = .ok (.iinc 3 1, 3) := by decide +kernel
theorem dX3_renew_32 : decode cX3_renew 32 = .ok (.goto (-20), 3) := by decide +kernel
theorem dX3_renew_35 : decode cX3_renew 35 = .ok (.return_, 1) := by decide +kernel
theorem dX3_hasCell_0 : decode cX3_hasCell 0 = .ok (.iload_n 1, 1) := by decide +kernel
theorem dX3_hasCell_1 : decode cX3_hasCell 1 = .ok (.ifCond .lt 15, 3) := by decide +kernel
theorem dX3_hasCell_4 : decode cX3_hasCell 4 = .ok (.iload_n 1, 1) := by decide +kernel
theorem dX3_hasCell_5 : decode cX3_hasCell 5 = .ok (.aload_n 0, 1) := by decide +kernel
theorem dX3_hasCell_6 : decode cX3_hasCell 6 = .ok (.getfield 25, 3) := by decide +kernel
theorem dX3_hasCell_9 : decode cX3_hasCell 9 = .ok (.if_icmp .ge 7, 3) := by decide +kernel
theorem dX3_hasCell_12 : decode cX3_hasCell 12 = .ok (.iconst 1, 1) := by decide +kernel
theorem dX3_hasCell_13 : decode cX3_hasCell 13 = .ok (.goto 4, 3) := by decide +kernel
theorem dX3_hasCell_16 : decode cX3_hasCell 16 = .ok (.iconst 0, 1) := by decide +kernel
theorem dX3_hasCell_17 : decode cX3_hasCell 17 = .ok (.ireturn, 1) := by decide +kernel
theorem dX3_takes_0 : decode cX3_takes 0 = .ok (.aload_n 0, 1) := by decide +kernel
theorem dX3_takes_1 : decode cX3_takes 1 = .ok (.getfield 21, 3) := by decide +kernel
theorem dX3_takes_4 : decode cX3_takes 4 = .ok (.ifCond .eq 24, 3) := by decide +kernel
theorem dX3_takes_7 : decode cX3_takes 7 = .ok (.aload_n 0, 1) := by decide +kernel
theorem dX3_takes_8 : decode cX3_takes 8 = .ok (.getfield 21, 3) := by decide +kernel
theorem dX3_takes_11 : decode cX3_takes 11 = .ok (.iload_n 1, 1) := by decide +kernel
theorem dX3_takes_12 : decode cX3_takes 12 = .ok (.if_icmp .eq 16, 3) := by decide +kernel
theorem dX3_takes_15 : decode cX3_takes 15 = .ok (.aload_n 0, 1) := by decide +kernel
theorem dX3_takes_16 : decode cX3_takes 16 = .ok (.getfield 21, 3) := by decide +kernel
theorem dX3_takes_19 : decode cX3_takes 19 = .ok (.iconst 2, 1) := by decide +kernel
theorem dX3_takes_20 : decode cX3_takes 20 = .ok (.if_icmp .ne 12, 3) := by decide +kernel
theorem dX3_takes_23 : decode cX3_takes 23 = .ok (.iload_n 1, 1) := by decide +kernel
theorem dX3_takes_24 : decode cX3_takes 24 = .ok (.iconst 3, 1) := by decide +kernel
theorem dX3_takes_25 : decode cX3_takes 25 = .ok (.if_icmp .ne 7, 3) := by decide +kernel
theorem dX3_takes_28 : decode cX3_takes 28 = .ok (.iconst 1, 1) := by decide +kernel
theorem dX3_takes_29 : decode cX3_takes 29 = .ok (.goto 4, 3) := by decide +kernel
theorem dX3_takes_32 : decode cX3_takes 32 = .ok (.iconst 0, 1) := by decide +kernel
theorem dX3_takes_33 : decode cX3_takes 33 = .ok (.ireturn, 1) := by decide +kernel
theorem dX3_fill_0 : decode cX3_fill 0 = .ok (.aload_n 0, 1) := by decide +kernel
theorem dX3_fill_1 : decode cX3_fill 1 = .ok (.getfield 9, 3) := by decide +kernel
theorem dX3_fill_4 : decode cX3_fill 4 = .ok (.iload_n 1, 1) := by decide +kernel
theorem dX3_fill_5 : decode cX3_fill 5 = .ok (.iload_n 2, 1) := by decide +kernel
theorem dX3_fill_6 : decode cX3_fill 6 = .ok (.iastore, 1) := by decide +kernel
theorem dX3_fill_7 : decode cX3_fill 7 = .ok (.aload_n 0, 1) := by decide +kernel
theorem dX3_fill_8 : decode cX3_fill 8 = .ok (.getfield 15, 3) := by decide +kernel
theorem dX3_fill_11 : decode cX3_fill 11 = .ok (.iload_n 1, 1) := by decide +kernel
theorem dX3_fill_12 : decode cX3_fill 12 = .ok (.iload_n 3, 1) := by decide +kernel
theorem dX3_fill_13 : decode cX3_fill 13 = .ok (.iastore, 1) := by decide +kernel
theorem dX3_fill_14 : decode cX3_fill 14 = .ok (.aload_n 0, 1) := by decide +kernel
theorem dX3_fill_15 : decode cX3_fill 15 = .ok (.getfield 18, 3) := by decide +kernel
theorem dX3_fill_18 : decode cX3_fill 18 = .ok (.iload_n 1, 1) := by decide +kernel
theorem dX3_fill_19 : decode cX3_fill 19 = .ok (.iload 4, 2) := by decide +kernel
theorem dX3_fill_21 : decode cX3_fill 21 = .ok (.iastore, 1) := by decide +kernel
theorem dX3_fill_22 : decode cX3_fill 22 = .ok (.return_, 1) := by decide +kernel
theorem dX3_tell_0 : decode cX3_tell 0 = .ok (.iload_n 2, 1) := by decide +kernel
theorem dX3_tell_1 : decode cX3_tell 1 = .ok (.ifCond .ne 10, 3) := by decide +kernel
theorem dX3_tell_4 : decode cX3_tell 4 = .ok (.aload_n 0, 1) := by decide +kernel
theorem dX3_tell_5 : decode cX3_tell 5 = .ok (.getfield 9, 3) := by decide +kernel
theorem dX3_tell_8 : decode cX3_tell 8 = .ok (.iload_n 1, 1) := by decide +kernel
theorem dX3_tell_9 : decode cX3_tell 9 = .ok (.iaload, 1) := by decide +kernel
theorem dX3_tell_10 : decode cX3_tell 10 = .ok (.ireturn, 1) := by decide +kernel
theorem dX3_tell_11 : decode cX3_tell 11 = .ok (.iload_n 2, 1) := by decide +kernel
theorem dX3_tell_12 : decode cX3_tell 12 = .ok (.iconst 1, 1) := by decide +kernel
theorem dX3_tell_13 : decode cX3_tell 13 = .ok (.if_icmp .ne 12, 3) := by decide +kernel
theorem dX3_tell_16 : decode cX3_tell 16 = .ok (.aload_n 0, 1) := by decide +kernel
theorem dX3_tell_17 : decode cX3_tell 17 = .ok (.getfield 15, 3) := by decide +kernel
theorem dX3_tell_20 : decode cX3_tell 20 = .ok (.iload_n 1, 1) := by decide +kernel
theorem dX3_tell_21 : decode cX3_tell 21 = .ok (.iaload, 1) := by decide +kernel
theorem dX3_tell_22 : decode cX3_tell 22 = .ok (.goto 9, 3) := by decide +kernel
theorem dX3_tell_25 : decode cX3_tell 25 = .ok (.aload_n 0, 1) := by decide +kernel
theorem dX3_tell_26 : decode cX3_tell 26 = .ok (.getfield 18, 3) := by decide +kernel
theorem dX3_tell_29 : decode cX3_tell 29 = .ok (.iload_n 1, 1) := by decide +kernel
theorem dX3_tell_30 : decode cX3_tell 30 = .ok (.iaload, 1) := by decide +kernel
theorem dX3_tell_31 : decode cX3_tell 31 = .ok (.ireturn, 1) := by decide +kernel
set_option maxRecDepth 20000 in
theorem ggX3_becomeLike_X3_fill : GoodIn wsX3_becomeLike wsX3_fill := goodIn_r _ [10, 3, 4, 5, 11, 12, 13, 14, 15] (by decide +kernel) (by decide +kernel)
set_option maxRecDepth 20000 in
theorem gX3_becomeLike_X3_fill : GoodIn wsX3_becomeLike (wsV RX3 28 RX3 yX3_fill wsX3_fill) := goodIn_app (goodIn_of _ (by decide +kernel)) ggX3_becomeLike_X3_fill
theorem dX3_becomeLike_0 : decode cX3_becomeLike 0 = .ok (.aload_n 0, 1) := by decide +kernel
theorem dX3_becomeLike_1 : decode cX3_becomeLike 1 = .ok (.aload_n 1, 1) := by decide +kernel
theorem dX3_becomeLike_2 : decode cX3_becomeLike 2 = .ok (.getfield 21, 3) := by decide +kernel
theorem dX3_becomeLike_5 : decode cX3_becomeLike 5 = .ok (.putfield 21, 3) := by decide +kernel
theorem dX3_becomeLike_8 : decode cX3_becomeLike 8 = .ok (.aload_n 0, 1) := by decide +kernel
theorem dX3_becomeLike_9 : decode cX3_becomeLike 9 = .ok (.aload_n 1, 1) := by decide +kernel
theorem dX3_becomeLike_10 : decode cX3_becomeLike 10 = .ok (.getfield 25, 3) := by decide +kernel
theorem dX3_becomeLike_13 : decode cX3_becomeLike 13 = .ok (.putfield 25, 3) := by decide +kernel
theorem dX3_becomeLike_16 : decode cX3_becomeLike 16 = .ok (.iconst 0, 1) := by decide +kernel
theorem dX3_becomeLike_17 : decode cX3_becomeLike 17 = .ok (.istore_n 2, 1) := by decide +kernel
theorem dX3_becomeLike_18 : decode cX3_becomeLike 18 = .ok (.iload_n 2, 1) := by decide +kernel
theorem dX3_becomeLike_19 : decode cX3_becomeLike 19 = .ok (.bipush 6, 2) := by decide +kernel
theorem dX3_becomeLike_21 : decode cX3_becomeLike 21 = .ok (.if_icmp .ge 32, 3) := by decide +kernel
theorem dX3_becomeLike_24 : decode cX3_becomeLike 24 = .ok (.aload_n 0, 1) := by decide +kernel
theorem dX3_becomeLike_25 : decode cX3_becomeLike 25 = .ok (.iload_n 2, 1) := by decide +kernel
theorem dX3_becomeLike_26 : decode cX3_becomeLike 26 = .ok (.aload_n 1, 1) := by decide +kernel
theorem dX3_becomeLike_27 : decode cX3_becomeLike 27 = .ok (.getfield 9, 3) := by decide +kernel
theorem dX3_becomeLike_30 : decode cX3_becomeLike 30 = .ok (.iload_n 2, 1) := by decide +kernel
theorem dX3_becomeLike_31 : decode cX3_becomeLike 31 = .ok (.iaload, 1) := by decide +kernel
theorem dX3_becomeLike_32 : decode cX3_becomeLike 32 = .ok (.aload_n 1, 1) := by decide +kernel
theorem dX3_becomeLike_33 : decode cX3_becomeLike 33 = .ok (.getfield 15, 3) := by decide +kernel
theorem dX3_becomeLike_36 : decode cX3_becomeLike 36 = .ok (.iload_n 2, 1) := by decide +kernel
theorem dX3_becomeLike_37 : decode cX3_becomeLike 37 = .ok (.iaload, 1) := by decide +kernel
theorem dX3_becomeLike_38 : decode cX3_becomeLike 38 = .ok (.aload_n 1, 1) := by decide +kernel
theorem dX3_becomeLike_39 : decode cX3_becomeLike 39 = .ok (.getfield 18, 3) := by decide +kernel
theorem dX3_becomeLike_42 : decode cX3_becomeLike 42 = .ok (.iload_n 2, 1) := by decide +kernel
theorem dX3_becomeLike_43 : decode cX3_becomeLike 43 = .ok (.iaload, 1) := by decide +kernel
theorem dX3_becomeLike_44 : decode cX3_becomeLike 44 = .ok (.invokevirtual 28, 3) := by decide +kernel
theorem dX3_becomeLike_47 : decode cX3_becomeLike 47 = .ok (.iinc 2 1, 3) := by decide +kernel
theorem dX3_becomeLike_50 : decode cX3_becomeLike 50 = .ok (.goto (-32), 3) := by decide +kernel
theorem dX3_becomeLike_53 : decode cX3_becomeLike 53 = .ok (.return_, 1) := by decide +kernel
set_option maxRecDepth 20000 in
theorem ggX4_init_X1_init : GoodIn wsX4_init wsX1_init := goodIn_r _ [9, 10, 2, 3, 11, 12, 13, 16, 17, 18, 19, 20, 21] (by decide +kernel) (by decide +kernel)
set_option maxRecDepth 20000 in
theorem gX4_init_X1_init_n17 : GoodIn wsX4_init (wsX1_init) := ggX4_init_X1_init
theorem dX4_init_0 : decode cX4_init 0 = .ok (.aload_n 0, 1) := by decide +kernel
theorem dX4_init_1 : decode cX4_init 1 = .ok (.invokespecial 3, 3) := by decide +kernel
theorem dX4_init_4 : decode cX4_init 4 = .ok (.aload_n 0, 1) := by decide +kernel
theorem dX4_init_5 : decode cX4_init 5 = .ok (.bipush 20, 2) := by decide +kernel
theorem dX4_init_7 : decode cX4_init 7 = .ok (.anewarray 9, 3) := by decide +kernel
theorem dX4_init_10 : decode cX4_init 10 = .ok (.putfield 11, 3) := by decide +kernel
theorem dX4_init_13 : decode cX4_init 13 = .ok (.iconst 0, 1) := by decide +kernel
theorem dX4_init_14 : decode cX4_init 14 = .ok (.istore_n 1, 1) := by decide +kernel
theorem dX4_init_15 : decode cX4_init 15 = .ok (.iload_n 1, 1) := by decide +kernel
theorem dX4_init_16 : decode cX4_init 16 = .ok (.bipush 20, 2) := by decide +kernel
theorem dX4_init_18 : decode cX4_init 18 = .ok (.if_icmp .ge 22, 3) := by decide +kernel
theorem dX4_init_21 : decode cX4_init 21 = .ok (.aload_n 0, 1) := by decide +kernel
theorem dX4_init_22 : decode cX4_init 22 = .ok (.getfield 11, 3) := by decide +kernel
theorem dX4_init_25 : decode cX4_init 25 = .ok (.iload_n 1, 1) := by decide +kernel
theorem dX4_init_26 : decode cX4_init 26 = .ok (.new 9, 3) := by decide +kernel
theorem dX4_init_29 : decode cX4_init 29 = .ok (.dup, 1) := by decide +kernel
theorem dX4_init_30 : decode cX4_init 30 = .ok (.invokespecial 17, 3) := by decide +kernel
theorem dX4_init_33 : decode cX4_init 33 = .ok (.aastore, 1) := by decide +kernel
theorem dX4_init_34 : decode cX4_init 34 = .ok (.iinc 1 1, 3) := by decide +kernel
theorem dX4_init_37 : decode cX4_init 37 = .ok (.goto (-22), 3) := by decide +kernel
theorem dX4_init_40 : decode cX4_init 40 = .ok (.return_, 1) := by decide +kernel
set_option maxRecDepth 20000 in
theorem ggX4_insert_X1_read : GoodIn wsX4_insert wsX1_read := goodIn_r _ [8, 9, 10, 11, 12, 13, 14, 7, 15, 18, 19, 20, 21, 22, 23] (by decide +kernel) (by decide +kernel)
set_option maxRecDepth 20000 in
theorem gX4_insert_X1_read : GoodIn wsX4_insert (wsV RX4 22 RX1 yX1_read wsX1_read) := goodIn_app (goodIn_of _ (by decide +kernel)) ggX4_insert_X1_read
theorem dX4_insert_0 : decode cX4_insert 0 = .ok (.aload_n 0, 1) := by decide +kernel
theorem dX4_insert_1 : decode cX4_insert 1 = .ok (.getfield 18, 3) := by decide +kernel
theorem dX4_insert_4 : decode cX4_insert 4 = .ok (.bipush 20, 2) := by decide +kernel
theorem dX4_insert_6 : decode cX4_insert 6 = .ok (.if_icmp .ge 15, 3) := by decide +kernel
theorem dX4_insert_9 : decode cX4_insert 9 = .ok (.iload_n 1, 1) := by decide +kernel
theorem dX4_insert_10 : decode cX4_insert 10 = .ok (.ifCond .lt 11, 3) := by decide +kernel
theorem dX4_insert_13 : decode cX4_insert 13 = .ok (.iload_n 1, 1) := by decide +kernel
theorem dX4_insert_14 : decode cX4_insert 14 = .ok (.aload_n 0, 1) := by decide +kernel
theorem dX4_insert_15 : decode cX4_insert 15 = .ok (.getfield 18, 3) := by decide +kernel
theorem dX4_insert_18 : decode cX4_insert 18 = .ok (.if_icmp .le 4, 3) := by decide +kernel
theorem dX4_insert_21 : decode cX4_insert 21 = .ok (.return_, 1) := by decide +kernel
theorem dX4_insert_22 : decode cX4_insert 22 = .ok (.aload_n 0, 1) := by decide +kernel
theorem dX4_insert_23 : decode cX4_insert 23 = .ok (.getfield 11, 3) := by decide +kernel
theorem dX4_insert_26 : decode cX4_insert 26 = .ok (.aload_n 0, 1) := by decide +kernel
theorem dX4_insert_27 : decode cX4_insert 27 = .ok (.getfield 18, 3) := by decide +kernel
theorem dX4_insert_30 : decode cX4_insert 30 = .ok (.aaload, 1) := by decide +kernel
theorem dX4_insert_31 : decode cX4_insert 31 = .ok (.astore_n 3, 1) := by decide +kernel
theorem dX4_insert_32 : decode cX4_insert 32 = .ok (.aload_n 0, 1) := by decide +kernel
theorem dX4_insert_33 : decode cX4_insert 33 = .ok (.getfield 18, 3) := by decide +kernel
theorem dX4_insert_36 : decode cX4_insert 36 = .ok (.istore 4, 2) := by decide +kernel
theorem dX4_insert_38 : decode cX4_insert 38 = .ok (.iload 4, 2) := by decide +kernel
theorem dX4_insert_40 : decode cX4_insert 40 = .ok (.iload_n 1, 1) := by decide +kernel
theorem dX4_insert_41 : decode cX4_insert 41 = .ok (.if_icmp .le 25, 3) := by decide +kernel
theorem dX4_insert_44 : decode cX4_insert 44 = .ok (.aload_n 0, 1) := by decide +kernel
theorem dX4_insert_45 : decode cX4_insert 45 = .ok (.getfield 11, 3) := by decide +kernel
theorem dX4_insert_48 : decode cX4_insert 48 = .ok (.iload 4, 2) := by decide +kernel
theorem dX4_insert_50 : decode cX4_insert 50 = .ok (.aload_n 0, 1) := by decide +kernel
theorem dX4_insert_51 : decode cX4_insert 51 = .ok (.getfield 11, 3) := by decide +kernel
theorem dX4_insert_54 : decode cX4_insert 54 = .ok (.iload 4, 2) := by decide +kernel
theorem dX4_insert_56 : decode cX4_insert 56 = .ok (.iconst 1, 1) := by decide +kernel
theorem dX4_insert_57 : decode cX4_insert 57 = .ok (.isub, 1) := by decide +kernel
theorem dX4_insert_58 : decode cX4_insert 58 = .ok (.aaload, 1) := by decide +kernel
theorem dX4_insert_59 : decode cX4_insert 59 = .ok (.aastore, 1) := by decide +kernel
theorem dX4_insert_60 : decode cX4_insert 60 = .ok (.iinc 4 (-1), 3) := by decide +kernel
theorem dX4_insert_63 : decode cX4_insert 63 = .ok (.goto (-25), 3) := by decide +kernel
theorem dX4_insert_66 : decode cX4_insert 66 = .ok (.aload_n 0, 1) := by decide +kernel
theorem dX4_insert_67 : decode cX4_insert 67 = .ok (.getfield 11, 3) := by decide +kernel
theorem dX4_insert_70 : decode cX4_insert 70 = .ok (.iload_n 1, 1) := by decide +kernel
theorem dX4_insert_71 : decode cX4_insert 71 = .ok (.aload_n 3, 1) := by decide +kernel
theorem dX4_insert_72 : decode cX4_insert 72 = .ok (.aastore, 1) := by decide +kernel
theorem dX4_insert_73 : decode cX4_insert 73 = .ok (.aload_n 0, 1) := by decide +kernel
theorem dX4_insert_74 : decode cX4_insert 74 = .ok (.dup, 1) := by decide +kernel
theorem dX4_insert_75 : decode cX4_insert 75 = .ok (.getfield 18, 3) := by decide +kernel
theorem dX4_insert_78 : decode cX4_insert 78 = .ok (.iconst 1, 1) := by decide +kernel
theorem dX4_insert_79 : decode cX4_insert 79 = .ok (.iadd, 1) := by decide +kernel
theorem dX4_insert_80 : decode cX4_insert 80 = .ok (.putfield 18, 3) := by decide +kernel
theorem dX4_insert_83 : decode cX4_insert 83 = .ok (.aload_n 3, 1) := by decide +kernel
theorem dX4_insert_84 : decode cX4_insert 84 = .ok (.iload_n 2, 1) := by decide +kernel
theorem dX4_insert_85 : decode cX4_insert 85 = .ok (.invokevirtual 22, 3) := by decide +kernel
theorem dX4_insert_88 : decode cX4_insert 88 = .ok (.aload_n 3, 1) := by decide +kernel
theorem dX4_insert_89 : decode cX4_insert 89 = .ok (.bipush (-9), 2) := by decide +kernel
theorem dX4_insert_91 : decode cX4_insert 91 = .ok (.putfield 26, 3) := by decide +kernel
theorem dX4_insert_94 : decode cX4_insert 94 = .ok (.return_, 1) := by decide +kernel
theorem dX4_remove_0 : decode cX4_remove 0 = .ok (.iload_n 1, 1) := by decide +kernel
theorem dX4_remove_1 : decode cX4_remove 1 = .ok (.ifCond .lt 11, 3) := by decide +kernel
theorem dX4_remove_4 : decode cX4_remove 4 = .ok (.iload_n 1, 1) := by decide +kernel
theorem dX4_remove_5 : decode cX4_remove 5 = .ok (.aload_n 0, 1) := by decide +kernel
theorem dX4_remove_6 : decode cX4_remove 6 = .ok (.getfield 18, 3) := by decide +kernel
theorem dX4_remove_9 : decode cX4_remove 9 = .ok (.if_icmp .lt 4, 3) := by decide +kernel
theorem dX4_remove_12 : decode cX4_remove 12 = .ok (.return_, 1) := by decide +kernel
theorem dX4_remove_13 : decode cX4_remove 13 = .ok (.aload_n 0, 1) := by decide +kernel
theorem dX4_remove_14 : decode cX4_remove 14 = .ok (.getfield 11, 3) := by decide +kernel
theorem dX4_remove_17 : decode cX4_remove 17 = .ok (.iload_n 1, 1) := by decide +kernel
theorem dX4_remove_18 : decode cX4_remove 18 = .ok (.aaload, 1) := by decide +kernel
theorem dX4_remove_19 : decode cX4_remove 19 = .ok (.astore_n 2, 1) := by decide +kernel
theorem dX4_remove_20 : decode cX4_remove 20 = .ok (.iload_n 1, 1) := by decide +kernel
theorem dX4_remove_21 : decode cX4_remove 21 = .ok (.istore_n 3, 1) := by decide +kernel
theorem dX4_remove_22 : decode cX4_remove 22 = .ok (.iload_n 3, 1) := by decide +kernel
theorem dX4_remove_23 : decode cX4_remove 23 = .ok (.aload_n 0, 1) := by decide +kernel
theorem dX4_remove_24 : decode cX4_remove 24 = .ok (.getfield 18, 3) := by decide +kernel
theorem dX4_remove_27 : decode cX4_remove 27 = .ok (.iconst 1, 1) := by decide +kernel
theorem dX4_remove_28 : decode cX4_remove 28 = .ok (.isub, 1) := by decide +kernel
theorem dX4_remove_29 : decode cX4_remove 29 = .ok (.if_icmp .ge 23, 3) := by decide +kernel
theorem dX4_remove_32 : decode cX4_remove 32 = .ok (.aload_n 0, 1) := by decide +kernel
theorem dX4_remove_33 : decode cX4_remove 33 = .ok (.getfield 11, 3) := by decide +kernel
theorem dX4_remove_36 : decode cX4_remove 36 = .ok (.iload_n 3, 1) := by decide +kernel
theorem dX4_remove_37 : decode cX4_remove 37 = .ok (.aload_n 0, 1) := by decide +kernel
theorem dX4_remove_38 : decode cX4_remove 38 = .ok (.getfield 11, 3) := by decide +kernel
theorem dX4_remove_41 : decode cX4_remove 41 = .ok (.iload_n 3, 1) := by decide +kernel
theorem dX4_remove_42 : decode cX4_remove 42 = .ok (.iconst 1, 1) := by decide +kernel
theorem dX4_remove_43 : decode cX4_remove 43 = .ok (.iadd, 1) := by decide +kernel
theorem dX4_remove_44 : decode cX4_remove 44 = .ok (.aaload, 1) := by decide +kernel
theorem dX4_remove_45 : decode cX4_remove 45 = .ok (.aastore, 1) := by decide +kernel
theorem dX4_remove_46 : decode cX4_remove 46 = .ok (.iinc 3 1, 3) := by decide +kernel
theorem dX4_remove_49 : decode cX4_remove 49 = .ok (.goto (-27), 3) := by decide +kernel
theorem dX4_remove_52 : decode cX4_remove 52 = .ok (.aload_n 0, 1) := by decide +kernel
theorem dX4_remove_53 : decode cX4_remove 53 = .ok (.dup, 1) := by decide +kernel
theorem dX4_remove_54 : decode cX4_remove 54 = .ok (.getfield 18, 3) := by decide +kernel
theorem dX4_remove_57 : decode cX4_remove 57 = .ok (.iconst 1, 1) := by decide +kernel
theorem dX4_remove_58 : decode cX4_remove 58 = .ok (.isub, 1) := by decide +kernel
theorem dX4_remove_59 : decode cX4_remove 59 = .ok (.putfield 18, 3) := by decide +kernel
theorem dX4_remove_62 : decode cX4_remove 62 = .ok (.aload_n 0, 1) := by decide +kernel
theorem dX4_remove_63 : decode cX4_remove 63 = .ok (.getfield 11, 3) := by decide +kernel
theorem dX4_remove_66 : decode cX4_remove 66 = .ok (.aload_n 0, 1) := by decide +kernel
theorem dX4_remove_67 : decode cX4_remove 67 = .ok (.getfield 18, 3) := by decide +kernel
theorem dX4_remove_70 : decode cX4_remove 70 = .ok (.aload_n 2, 1) := by decide +kernel
theorem dX4_remove_71 : decode cX4_remove 71 = .ok (.aastore, 1) := by decide +kernel
theorem dX4_remove_72 : decode cX4_remove 72 = .ok (.return_, 1) := by decide +kernel
set_option maxRecDepth 20000 in
theorem ggX5_init_X4_init : GoodIn wsX5_init wsX4_init := goodIn_r _ [25, 26, 2, 3, 27, 28, 29, 30, 31, 32, 33, 17, 34, 35, 66, 67, 96, 97, 98, 99, 100, 101] (by decide +kernel) (by decide +kernel)
set_option maxRecDepth 20000 in
theorem gX5_init_X4_init : GoodIn wsX5_init (wsX4_init) := ggX5_init_X4_init
set_option maxRecDepth 20000 in
theorem ggX5_init_X2_init : GoodIn wsX5_init wsX2_init := goodIn_r _ [37, 38, 2, 3, 17, 39, 40, 41, 42, 43, 44, 45, 46, 47, 48, 49, 50, 75, 76, 77, 78, 79, 80, 81, 82, 83, 84, 85, 86, 87, 88] (by decide +kernel) (by decide +kernel)
set_option maxRecDepth 20000 in
theorem gX5_init_X2_init_n18 : GoodIn wsX5_init (wsX2_init) := ggX5_init_X2_init
set_option maxRecDepth 20000 in
theorem ggX5_init_X0_init : GoodIn wsX5_init wsX0_init := goodIn_r _ [52, 53, 2, 3, 17, 54, 55, 89, 90] (by decide +kernel) (by decide +kernel)
set_option maxRecDepth 20000 in
theorem gX5_init_X0_init_n25 : GoodIn wsX5_init (wsX0_init) := ggX5_init_X0_init
set_option maxRecDepth 20000 in
theorem ggX5_init_X0_choose : GoodIn wsX5_init wsX0_choose := goodIn_r _ [59, 54, 89, 90] (by decide +kernel) (by decide +kernel)
set_option maxRecDepth 20000 in
theorem gX5_init_X0_choose : GoodIn wsX5_init (wsV RX5 43 RX0 yX0_choose wsX0_choose) := goodIn_app (goodIn_of _ (by decide +kernel)) ggX5_init_X0_choose
set_option maxRecDepth 20000 in
theorem ggX5_init_X3_init : GoodIn wsX5_init wsX3_init := goodIn_r _ [61, 62, 2, 3, 17, 63, 64, 65, 91, 92, 93, 94, 95] (by decide +kernel) (by decide +kernel)
set_option maxRecDepth 20000 in
theorem gX5_init_X3_init_n47 : GoodIn wsX5_init (wsX3_init) := ggX5_init_X3_init
end
section
theorem dX5_init_0 : decode cX5_init 0 = .ok (.aload_n 0, 1) := by decide +kernel
theorem dX5_init_1 : decode cX5_init 1 = .ok (.invokespecial 3, 3) := by decide +kernel
theorem dX5_init_4 : decode cX5_init 4 = .ok (.aload_n 0, 1) := by decide +kernel
theorem dX5_init_5 : decode cX5_init 5 = .ok (.new 9, 3) := by decide +kernel
theorem dX5_init_8 : decode cX5_init 8 = .ok (.dup, 1) := by decide +kernel
theorem dX5_init_9 : decode cX5_init 9 = .ok (.invokespecial 11, 3) := by decide +kernel
theorem dX5_init_12 : decode cX5_init 12 = .ok (.putfield 12, 3) := by decide +kernel
theorem dX5_init_15 : decode cX5_init 15 = .ok (.aload_n 0, 1) := by decide +kernel
theorem dX5_init_16 : decode cX5_init 16 = .ok (.new 16, 3) := by decide +kernel
theorem dX5_init_19 : decode cX5_init 19 = .ok (.dup, 1) := by decide +kernel
theorem dX5_init_20 : decode cX5_init 20 = .ok (.invokespecial 18, 3) := by decide +kernel
theorem dX5_init_23 : decode cX5_init 23 = .ok (.putfield 19, 3) := by decide +kernel
theorem dX5_init_26 : decode cX5_init 26 = .ok (.aload_n 0, 1) := by decide +kernel
theorem dX5_init_27 : decode cX5_init 27 = .ok (.new 23, 3) := by decide +kernel
theorem dX5_init_30 : decode cX5_init 30 = .ok (.dup, 1) := by decide +kernel
theorem dX5_init_31 : decode cX5_init 31 = .ok (.invokespecial 25, 3) := by decide +kernel
theorem dX5_init_34 : decode cX5_init 34 = .ok (.putfield 26, 3) := by decide +kernel
theorem dX5_init_37 : decode cX5_init 37 = .ok (.aload_n 0, 1) := by decide +kernel
theorem dX5_init_38 : decode cX5_init 38 = .ok (.new 23, 3) := by decide +kernel
theorem dX5_init_41 : decode cX5_init 41 = .ok (.dup, 1) := by decide +kernel
theorem dX5_init_42 : decode cX5_init 42 = .ok (.invokespecial 25, 3) := by decide +kernel
theorem dX5_init_45 : decode cX5_init 45 = .ok (.putfield 30, 3) := by decide +kernel
theorem dX5_init_48 : decode cX5_init 48 = .ok (.aload_n 0, 1) := by decide +kernel
theorem dX5_init_49 : decode cX5_init 49 = .ok (.iconst 4, 1) := by decide +kernel
theorem dX5_init_50 : decode cX5_init 50 = .ok (.newarray .int, 2) := by decide +kernel
theorem dX5_init_52 : decode cX5_init 52 = .ok (.putfield 33, 3) := by decide +kernel
theorem dX5_init_55 : decode cX5_init 55 = .ok (.aload_n 0, 1) := by decide +kernel
theorem dX5_init_56 : decode cX5_init 56 = .ok (.iconst 3, 1) := by decide +kernel
theorem dX5_init_57 : decode cX5_init 57 = .ok (.anewarray 37, 3) := by decide +kernel
theorem dX5_init_60 : decode cX5_init 60 = .ok (.putfield 39, 3) := by decide +kernel
theorem dX5_init_63 : decode cX5_init 63 = .ok (.aload_n 0, 1) := by decide +kernel
theorem dX5_init_64 : decode cX5_init 64 = .ok (.getfield 26, 3) := by decide +kernel
theorem dX5_init_67 : decode cX5_init 67 = .ok (.iconst 4, 1) := by decide +kernel
theorem dX5_init_68 : decode cX5_init 68 = .ok (.bipush 8, 2) := by decide +kernel
theorem dX5_init_70 : decode cX5_init 70 = .ok (.iconst 1, 1) := by decide +kernel
theorem dX5_init_71 : decode cX5_init 71 = .ok (.iconst 0, 1) := by decide +kernel
theorem dX5_init_72 : decode cX5_init 72 = .ok (.invokevirtual 43, 3) := by decide +kernel
theorem dX5_init_75 : decode cX5_init 75 = .ok (.iconst 0, 1) := by decide +kernel
theorem dX5_init_76 : decode cX5_init 76 = .ok (.istore_n 1, 1) := by decide +kernel
theorem dX5_init_77 : decode cX5_init 77 = .ok (.iload_n 1, 1) := by decide +kernel
theorem dX5_init_78 : decode cX5_init 78 = .ok (.iconst 3, 1) := by decide +kernel
theorem dX5_init_79 : decode cX5_init 79 = .ok (.if_icmp .ge 22, 3) := by decide +kernel
theorem dX5_init_82 : decode cX5_init 82 = .ok (.aload_n 0, 1) := by decide +kernel
theorem dX5_init_83 : decode cX5_init 83 = .ok (.getfield 39, 3) := by decide +kernel
theorem dX5_init_86 : decode cX5_init 86 = .ok (.iload_n 1, 1) := by decide +kernel
theorem dX5_init_87 : decode cX5_init 87 = .ok (.new 37, 3) := by decide +kernel
theorem dX5_init_90 : decode cX5_init 90 = .ok (.dup, 1) := by decide +kernel
theorem dX5_init_91 : decode cX5_init 91 = .ok (.invokespecial 47, 3) := by decide +kernel
theorem dX5_init_94 : decode cX5_init 94 = .ok (.aastore, 1) := by decide +kernel
theorem dX5_init_95 : decode cX5_init 95 = .ok (.iinc 1 1, 3) := by decide +kernel
theorem dX5_init_98 : decode cX5_init 98 = .ok (.goto (-21), 3) := by decide +kernel
theorem dX5_init_101 : decode cX5_init 101 = .ok (.return_, 1) := by decide +kernel
set_option maxRecDepth 20000 in
theorem ggX5_put_X5_areTokens : GoodIn wsX5_put wsX5_areTokens := goodIn_r _ [6, 7] (by decide +kernel) (by decide +kernel)
set_option maxRecDepth 20000 in
theorem gX5_put_X5_areTokens : GoodIn wsX5_put (va_wsS RX5 52 yX5_areTokens wsX5_areTokens) := goodIn_app (goodIn_of _ (by decide +kernel)) ggX5_put_X5_areTokens
set_option maxRecDepth 20000 in
theorem ggX5_put_X5_rememberColumns : GoodIn wsX5_put wsX5_rememberColumns := goodIn_r _ [11, 1, 2, 12, 13, 14, 15, 129, 130, 131, 132, 133, 134, 135, 136, 137, 138, 139, 140, 141, 142, 143, 144, 145] (by decide +kernel) (by decide +kernel)
set_option maxRecDepth 20000 in
theorem gX5_put_X5_rememberColumns : GoodIn wsX5_put (wsV RX5 56 RX5 yX5_rememberColumns wsX5_rememberColumns) := goodIn_app (goodIn_of _ (by decide +kernel)) ggX5_put_X5_rememberColumns
set_option maxRecDepth 20000 in
theorem ggX5_put_X4_insert : GoodIn wsX5_put wsX4_insert := goodIn_r _ [20, 21, 22, 23, 24, 25, 26, 27, 28, 29, 30, 31, 32, 33, 34, 35, 136, 137, 140, 141, 142, 143, 144, 145] (by decide +kernel) (by decide +kernel)
set_option maxRecDepth 20000 in
theorem gX5_put_X4_insert : GoodIn wsX5_put (wsV RX5 59 RX4 yX4_insert wsX4_insert) := goodIn_app (goodIn_of _ (by decide +kernel)) ggX5_put_X4_insert
set_option maxRecDepth 20000 in
theorem ggX5_put_X5_readLines : GoodIn wsX5_put wsX5_readLines := goodIn_r _ [39, 40, 1, 13, 41, 42, 43, 44, 45, 46, 47, 48, 49, 50, 51, 52, 53, 54, 55, 56, 57, 58, 59, 60, 61, 62, 63, 64, 65, 66, 67, 68, 69, 70, 71, 72, 73, 74, 27, 75, 30, 31, 76, 77, 78, 79, 32, 80, 81, 82, 83, 84, 85, 86, 87, 88, 89, 90, 91, 92, 93, 94, 95, 96, 97, 98, 99, 100, 101, 102, 103, 104, 105, 106, 107, 108, 109, 110, 111, 112, 113, 114, 115, 116, 117, 118, 119, 120, 121, 122, 123, 124, 129, 130, 131, 132, 133, 134, 135, 146, 147, 148, 149, 150, 151, 152, 153, 154, 155, 156, 157, 158, 159, 136, 137, 140, 141, 142, 143, 144, 145, 138, 139] (by decide +kernel) (by decide +kernel)
set_option maxRecDepth 20000 in
theorem gX5_put_X5_readLines : GoodIn wsX5_put (wsV RX5 63 RX5 yX5_readLines wsX5_readLines) := goodIn_app (goodIn_of _ (by decide +kernel)) ggX5_put_X5_readLines
set_option maxRecDepth 20000 in
theorem ggX5_put_X5_movedBut : GoodIn wsX5_put wsX5_movedBut := goodIn_r _ [128, 1, 2, 12, 15, 13, 14, 129, 130, 131, 132, 133, 134, 135, 136, 137, 140, 141, 142, 143, 144, 145, 138, 139] (by decide +kernel) (by decide +kernel)
set_option maxRecDepth 20000 in
theorem gX5_put_X5_movedBut : GoodIn wsX5_put (wsV RX5 66 RX5 yX5_movedBut wsX5_movedBut) := goodIn_app (goodIn_of _ (by decide +kernel)) ggX5_put_X5_movedBut
theorem dX5_put_0 : decode cX5_put 0 = .ok (.iload_n 1, 1) := by decide +kernel
theorem dX5_put_1 : decode cX5_put 1 = .ok (.ifCond .lt 14, 3) := by decide +kernel
theorem dX5_put_4 : decode cX5_put 4 = .ok (.iload_n 1, 1) := by decide +kernel
theorem dX5_put_5 : decode cX5_put 5 = .ok (.aload_n 0, 1) := by decide +kernel
theorem dX5_put_6 : decode cX5_put 6 = .ok (.getfield 12, 3) := by decide +kernel
theorem dX5_put_9 : decode cX5_put 9 = .ok (.getfield 48, 3) := by decide +kernel
theorem dX5_put_12 : decode cX5_put 12 = .ok (.if_icmp .le 5, 3) := by decide +kernel
theorem dX5_put_15 : decode cX5_put 15 = .ok (.iconst (-1), 1) := by decide +kernel
theorem dX5_put_16 : decode cX5_put 16 = .ok (.ireturn, 1) := by decide +kernel
theorem dX5_put_17 : decode cX5_put 17 = .ok (.iload_n 2, 1) := by decide +kernel
theorem dX5_put_18 : decode cX5_put 18 = .ok (.invokestatic 52, 3) := by decide +kernel
theorem dX5_put_21 : decode cX5_put 21 = .ok (.ifCond .ne 6, 3) := by decide +kernel
theorem dX5_put_24 : decode cX5_put 24 = .ok (.bipush (-2), 2) := by decide +kernel
theorem dX5_put_26 : decode cX5_put 26 = .ok (.ireturn, 1) := by decide +kernel
theorem dX5_put_27 : decode cX5_put 27 = .ok (.aload_n 0, 1) := by decide +kernel
theorem dX5_put_28 : decode cX5_put 28 = .ok (.getfield 12, 3) := by decide +kernel
theorem dX5_put_31 : decode cX5_put 31 = .ok (.getfield 48, 3) := by decide +kernel
theorem dX5_put_34 : decode cX5_put 34 = .ok (.bipush 20, 2) := by decide +kernel
theorem dX5_put_36 : decode cX5_put 36 = .ok (.if_icmp .lt 6, 3) := by decide +kernel
theorem dX5_put_39 : decode cX5_put 39 = .ok (.bipush (-4), 2) := by decide +kernel
theorem dX5_put_41 : decode cX5_put 41 = .ok (.ireturn, 1) := by decide +kernel
theorem dX5_put_42 : decode cX5_put 42 = .ok (.aload_n 0, 1) := by decide +kernel
theorem dX5_put_43 : decode cX5_put 43 = .ok (.invokevirtual 56, 3) := by decide +kernel
theorem dX5_put_46 : decode cX5_put 46 = .ok (.aload_n 0, 1) := by decide +kernel
theorem dX5_put_47 : decode cX5_put 47 = .ok (.getfield 12, 3) := by decide +kernel
theorem dX5_put_50 : decode cX5_put 50 = .ok (.iload_n 1, 1) := by decide +kernel
theorem dX5_put_51 : decode cX5_put 51 = .ok (.iload_n 2, 1) := by decide +kernel
theorem dX5_put_52 : decode cX5_put 52 = .ok (.invokevirtual 59, 3) := by decide +kernel
theorem dX5_put_55 : decode cX5_put 55 = .ok (.aload_n 0, 1) := by decide +kernel
theorem dX5_put_56 : decode cX5_put 56 = .ok (.invokevirtual 63, 3) := by decide +kernel
theorem dX5_put_59 : decode cX5_put 59 = .ok (.aload_n 0, 1) := by decide +kernel
theorem dX5_put_60 : decode cX5_put 60 = .ok (.iload_n 1, 1) := by decide +kernel
theorem dX5_put_61 : decode cX5_put 61 = .ok (.invokevirtual 66, 3) := by decide +kernel
theorem dX5_put_64 : decode cX5_put 64 = .ok (.ireturn, 1) := by decide +kernel
set_option maxRecDepth 20000 in
theorem ggX5_change_X5_isLine : GoodIn wsX5_change wsX5_isLine := goodIn_r _ [7, 1, 8, 125, 126, 127, 128, 129, 130, 131, 132, 133] (by decide +kernel) (by decide +kernel)
set_option maxRecDepth 20000 in
theorem gX5_change_X5_isLine : GoodIn wsX5_change (wsV RX5 70 RX5 yX5_isLine wsX5_isLine) := goodIn_app (goodIn_of _ (by decide +kernel)) ggX5_change_X5_isLine
set_option maxRecDepth 20000 in
theorem ggX5_change_X5_areTokens : GoodIn wsX5_change wsX5_areTokens := goodIn_r _ [11, 12] (by decide +kernel) (by decide +kernel)
set_option maxRecDepth 20000 in
theorem gX5_change_X5_areTokens : GoodIn wsX5_change (va_wsS RX5 52 yX5_areTokens wsX5_areTokens) := goodIn_app (goodIn_of _ (by decide +kernel)) ggX5_change_X5_areTokens
set_option maxRecDepth 20000 in
theorem ggX5_change_X5_rememberColumns : GoodIn wsX5_change wsX5_rememberColumns := goodIn_r _ [16, 1, 8, 2, 17, 18, 19, 125, 126, 127, 128, 129, 130, 131, 132, 133, 134, 135, 136, 137, 138, 139, 140, 141] (by decide +kernel) (by decide +kernel)
set_option maxRecDepth 20000 in
theorem gX5_change_X5_rememberColumns : GoodIn wsX5_change (wsV RX5 56 RX5 yX5_rememberColumns wsX5_rememberColumns) := goodIn_app (goodIn_of _ (by decide +kernel)) ggX5_change_X5_rememberColumns
set_option maxRecDepth 20000 in
theorem ggX5_change_X1_read : GoodIn wsX5_change wsX1_read := goodIn_r _ [24, 25, 26, 27, 28, 29, 30, 23, 31, 136, 137, 138, 139, 140, 141] (by decide +kernel) (by decide +kernel)
set_option maxRecDepth 20000 in
theorem gX5_change_X1_read : GoodIn wsX5_change (wsV RX5 77 RX1 yX1_read wsX1_read) := goodIn_app (goodIn_of _ (by decide +kernel)) ggX5_change_X1_read
set_option maxRecDepth 20000 in
theorem ggX5_change_X5_readLines : GoodIn wsX5_change wsX5_readLines := goodIn_r _ [35, 36, 1, 17, 37, 38, 39, 40, 41, 42, 43, 44, 45, 46, 47, 48, 49, 50, 51, 52, 53, 54, 55, 56, 57, 58, 59, 60, 61, 62, 63, 64, 65, 66, 67, 68, 69, 70, 23, 71, 26, 27, 72, 73, 74, 75, 28, 76, 77, 78, 79, 80, 81, 82, 83, 84, 85, 86, 87, 88, 89, 90, 91, 92, 93, 94, 95, 96, 97, 98, 99, 100, 101, 102, 103, 104, 105, 106, 107, 108, 109, 110, 111, 112, 113, 114, 115, 116, 117, 118, 119, 120, 125, 126, 127, 128, 129, 130, 131, 142, 143, 144, 145, 146, 147, 148, 149, 150, 151, 152, 153, 154, 155, 132, 133, 136, 137, 138, 139, 140, 141, 134, 135] (by decide +kernel) (by decide +kernel)
set_option maxRecDepth 20000 in
theorem gX5_change_X5_readLines : GoodIn wsX5_change (wsV RX5 63 RX5 yX5_readLines wsX5_readLines) := goodIn_app (goodIn_of _ (by decide +kernel)) ggX5_change_X5_readLines
set_option maxRecDepth 20000 in
theorem ggX5_change_X5_movedBut : GoodIn wsX5_change wsX5_movedBut := goodIn_r _ [124, 1, 8, 2, 19, 17, 18, 125, 126, 127, 128, 129, 130, 131, 132, 133, 136, 137, 138, 139, 140, 141, 134, 135] (by decide +kernel) (by decide +kernel)
set_option maxRecDepth 20000 in
theorem gX5_change_X5_movedBut : GoodIn wsX5_change (wsV RX5 66 RX5 yX5_movedBut wsX5_movedBut) := goodIn_app (goodIn_of _ (by decide +kernel)) ggX5_change_X5_movedBut
theorem dX5_change_0 : decode cX5_change 0 = .ok (.aload_n 0, 1) := by decide +kernel
theorem dX5_change_1 : decode cX5_change 1 = .ok (.iload_n 1, 1) := by decide +kernel
theorem dX5_change_2 : decode cX5_change 2 = .ok (.invokevirtual 70, 3) := by decide +kernel
theorem dX5_change_5 : decode cX5_change 5 = .ok (.ifCond .ne 5, 3) := by decide +kernel
theorem dX5_change_8 : decode cX5_change 8 = .ok (.iconst (-1), 1) := by decide +kernel
theorem dX5_change_9 : decode cX5_change 9 = .ok (.ireturn, 1) := by decide +kernel
theorem dX5_change_10 : decode cX5_change 10 = .ok (.iload_n 2, 1) := by decide +kernel
theorem dX5_change_11 : decode cX5_change 11 = .ok (.invokestatic 52, 3) := by decide +kernel
theorem dX5_change_14 : decode cX5_change 14 = .ok (.ifCond .ne 6, 3) := by decide +kernel
theorem dX5_change_17 : decode cX5_change 17 = .ok (.bipush (-2), 2) := by decide +kernel
theorem dX5_change_19 : decode cX5_change 19 = .ok (.ireturn, 1) := by decide +kernel
theorem dX5_change_20 : decode cX5_change 20 = .ok (.aload_n 0, 1) := by decide +kernel
theorem dX5_change_21 : decode cX5_change 21 = .ok (.invokevirtual 56, 3) := by decide +kernel
theorem dX5_change_24 : decode cX5_change 24 = .ok (.aload_n 0, 1) := by decide +kernel
theorem dX5_change_25 : decode cX5_change 25 = .ok (.getfield 12, 3) := by decide +kernel
theorem dX5_change_28 : decode cX5_change 28 = .ok (.getfield 73, 3) := by decide +kernel
theorem dX5_change_31 : decode cX5_change 31 = .ok (.iload_n 1, 1) := by decide +kernel
theorem dX5_change_32 : decode cX5_change 32 = .ok (.aaload, 1) := by decide +kernel
theorem dX5_change_33 : decode cX5_change 33 = .ok (.iload_n 2, 1) := by decide +kernel
theorem dX5_change_34 : decode cX5_change 34 = .ok (.invokevirtual 77, 3) := by decide +kernel
theorem dX5_change_37 : decode cX5_change 37 = .ok (.aload_n 0, 1) := by decide +kernel
theorem dX5_change_38 : decode cX5_change 38 = .ok (.invokevirtual 63, 3) := by decide +kernel
theorem dX5_change_41 : decode cX5_change 41 = .ok (.aload_n 0, 1) := by decide +kernel
theorem dX5_change_42 : decode cX5_change 42 = .ok (.iload_n 1, 1) := by decide +kernel
theorem dX5_change_43 : decode cX5_change 43 = .ok (.invokevirtual 66, 3) := by decide +kernel
theorem dX5_change_46 : decode cX5_change 46 = .ok (.ireturn, 1) := by decide +kernel
set_option maxRecDepth 20000 in
theorem ggX5_take_X5_isLine : GoodIn wsX5_take wsX5_isLine := goodIn_r _ [6, 1, 7, 120, 121, 122, 123, 124, 125, 126, 127, 128] (by decide +kernel) (by decide +kernel)
set_option maxRecDepth 20000 in
theorem gX5_take_X5_isLine : GoodIn wsX5_take (wsV RX5 70 RX5 yX5_isLine wsX5_isLine) := goodIn_app (goodIn_of _ (by decide +kernel)) ggX5_take_X5_isLine
set_option maxRecDepth 20000 in
theorem ggX5_take_X5_rememberColumns : GoodIn wsX5_take wsX5_rememberColumns := goodIn_r _ [11, 1, 7, 12, 13, 14, 15, 120, 121, 122, 123, 124, 125, 126, 127, 128, 129, 130, 131, 132, 133, 134, 135, 136] (by decide +kernel) (by decide +kernel)
set_option maxRecDepth 20000 in
theorem gX5_take_X5_rememberColumns : GoodIn wsX5_take (wsV RX5 56 RX5 yX5_rememberColumns wsX5_rememberColumns) := goodIn_app (goodIn_of _ (by decide +kernel)) ggX5_take_X5_rememberColumns
set_option maxRecDepth 20000 in
theorem ggX5_take_X4_remove : GoodIn wsX5_take wsX4_remove := goodIn_r _ [20, 21, 22, 127, 128] (by decide +kernel) (by decide +kernel)
set_option maxRecDepth 20000 in
theorem gX5_take_X4_remove : GoodIn wsX5_take (wsV RX5 83 RX4 yX4_remove wsX4_remove) := goodIn_app (goodIn_of _ (by decide +kernel)) ggX5_take_X4_remove
set_option maxRecDepth 20000 in
theorem ggX5_take_X5_readLines : GoodIn wsX5_take wsX5_readLines := goodIn_r _ [26, 27, 1, 13, 28, 29, 30, 31, 32, 33, 34, 35, 36, 37, 38, 39, 40, 41, 42, 43, 44, 45, 46, 47, 48, 49, 50, 51, 52, 53, 54, 55, 56, 57, 58, 59, 60, 61, 62, 63, 64, 65, 66, 67, 68, 69, 70, 71, 72, 73, 74, 75, 76, 77, 78, 79, 80, 81, 82, 83, 84, 85, 86, 87, 88, 89, 90, 91, 92, 93, 94, 95, 96, 97, 98, 99, 100, 101, 102, 103, 104, 105, 106, 107, 108, 109, 110, 111, 112, 113, 114, 115, 120, 121, 122, 123, 124, 125, 126, 137, 138, 139, 140, 141, 142, 143, 144, 145, 146, 147, 148, 149, 150, 127, 128, 131, 132, 133, 134, 135, 136, 129, 130] (by decide +kernel) (by decide +kernel)
set_option maxRecDepth 20000 in
theorem gX5_take_X5_readLines : GoodIn wsX5_take (wsV RX5 63 RX5 yX5_readLines wsX5_readLines) := goodIn_app (goodIn_of _ (by decide +kernel)) ggX5_take_X5_readLines
set_option maxRecDepth 20000 in
theorem ggX5_take_X5_movedBut : GoodIn wsX5_take wsX5_movedBut := goodIn_r _ [119, 1, 7, 12, 15, 13, 14, 120, 121, 122, 123, 124, 125, 126, 127, 128, 131, 132, 133, 134, 135, 136, 129, 130] (by decide +kernel) (by decide +kernel)
set_option maxRecDepth 20000 in
theorem gX5_take_X5_movedBut : GoodIn wsX5_take (wsV RX5 66 RX5 yX5_movedBut wsX5_movedBut) := goodIn_app (goodIn_of _ (by decide +kernel)) ggX5_take_X5_movedBut
theorem dX5_take_0 : decode cX5_take 0 = .ok (.aload_n 0, 1) := by decide +kernel
theorem dX5_take_1 : decode cX5_take 1 = .ok (.iload_n 1, 1) := by decide +kernel
theorem dX5_take_2 : decode cX5_take 2 = .ok (.invokevirtual 70, 3) := by decide +kernel
theorem dX5_take_5 : decode cX5_take 5 = .ok (.ifCond .ne 5, 3) := by decide +kernel
theorem dX5_take_8 : decode cX5_take 8 = .ok (.iconst (-1), 1) := by decide +kernel
theorem dX5_take_9 : decode cX5_take 9 = .ok (.ireturn, 1) := by decide +kernel
theorem dX5_take_10 : decode cX5_take 10 = .ok (.aload_n 0, 1) := by decide +kernel
theorem dX5_take_11 : decode cX5_take 11 = .ok (.invokevirtual 56, 3) := by decide +kernel
theorem dX5_take_14 : decode cX5_take 14 = .ok (.aload_n 0, 1) := by decide +kernel
theorem dX5_take_15 : decode cX5_take 15 = .ok (.getfield 12, 3) := by decide +kernel
theorem dX5_take_18 : decode cX5_take 18 = .ok (.iload_n 1, 1) := by decide +kernel
theorem dX5_take_19 : decode cX5_take 19 = .ok (.invokevirtual 83, 3) := by decide +kernel
theorem dX5_take_22 : decode cX5_take 22 = .ok (.aload_n 0, 1) := by decide +kernel
theorem dX5_take_23 : decode cX5_take 23 = .ok (.invokevirtual 63, 3) := by decide +kernel
theorem dX5_take_26 : decode cX5_take 26 = .ok (.aload_n 0, 1) := by decide +kernel
theorem dX5_take_27 : decode cX5_take 27 = .ok (.bipush (-9), 2) := by decide +kernel
theorem dX5_take_29 : decode cX5_take 29 = .ok (.invokevirtual 66, 3) := by decide +kernel
theorem dX5_take_32 : decode cX5_take 32 = .ok (.ireturn, 1) := by decide +kernel
set_option maxRecDepth 20000 in
theorem ggX5_style_X5_isSetting : GoodIn wsX5_style wsX5_isSetting := goodIn_r _ [8, 9, 10] (by decide +kernel) (by decide +kernel)
set_option maxRecDepth 20000 in
theorem gX5_style_X5_isSetting : GoodIn wsX5_style (va_wsS RX5 86 yX5_isSetting wsX5_isSetting) := goodIn_app (goodIn_of _ (by decide +kernel)) ggX5_style_X5_isSetting
set_option maxRecDepth 20000 in
theorem ggX5_style_X0_lay : GoodIn wsX5_style wsX0_lay := goodIn_r _ [15, 16, 17, 18, 19, 20, 21, 22, 23, 14, 24, 25, 26, 27, 28, 29, 30, 31, 32, 33, 34, 35, 36, 37, 38, 39, 40, 41, 42, 43, 44, 45, 46, 47, 48, 49, 50, 51, 61, 62, 59, 60, 63, 64, 65, 66, 67, 68, 69, 70, 71, 72, 73, 74, 75, 76, 77, 78, 79, 80, 81, 82] (by decide +kernel) (by decide +kernel)
set_option maxRecDepth 20000 in
theorem gX5_style_X0_lay : GoodIn wsX5_style (wsV RX5 93 RX0 yX0_lay wsX0_lay) := goodIn_app (goodIn_of _ (by decide +kernel)) ggX5_style_X0_lay
theorem dX5_style_0 : decode cX5_style 0 = .ok (.iload_n 1, 1) := by decide +kernel
theorem dX5_style_1 : decode cX5_style 1 = .ok (.ifCond .lt 8, 3) := by decide +kernel
theorem dX5_style_4 : decode cX5_style 4 = .ok (.iload_n 1, 1) := by decide +kernel
theorem dX5_style_5 : decode cX5_style 5 = .ok (.iconst 4, 1) := by decide +kernel
theorem dX5_style_6 : decode cX5_style 6 = .ok (.if_icmp .lt 5, 3) := by decide +kernel
theorem dX5_style_9 : decode cX5_style 9 = .ok (.iconst (-1), 1) := by decide +kernel
theorem dX5_style_10 : decode cX5_style 10 = .ok (.ireturn, 1) := by decide +kernel
theorem dX5_style_11 : decode cX5_style 11 = .ok (.iload_n 1, 1) := by decide +kernel
theorem dX5_style_12 : decode cX5_style 12 = .ok (.iload_n 2, 1) := by decide +kernel
theorem dX5_style_13 : decode cX5_style 13 = .ok (.invokestatic 86, 3) := by decide +kernel
theorem dX5_style_16 : decode cX5_style 16 = .ok (.ifCond .ne 6, 3) := by decide +kernel
theorem dX5_style_19 : decode cX5_style 19 = .ok (.bipush (-2), 2) := by decide +kernel
theorem dX5_style_21 : decode cX5_style 21 = .ok (.ireturn, 1) := by decide +kernel
theorem dX5_style_22 : decode cX5_style 22 = .ok (.aload_n 0, 1) := by decide +kernel
theorem dX5_style_23 : decode cX5_style 23 = .ok (.getfield 26, 3) := by decide +kernel
theorem dX5_style_26 : decode cX5_style 26 = .ok (.getfield 90, 3) := by decide +kernel
theorem dX5_style_29 : decode cX5_style 29 = .ok (.iload_n 1, 1) := by decide +kernel
theorem dX5_style_30 : decode cX5_style 30 = .ok (.iaload, 1) := by decide +kernel
theorem dX5_style_31 : decode cX5_style 31 = .ok (.istore_n 3, 1) := by decide +kernel
theorem dX5_style_32 : decode cX5_style 32 = .ok (.aload_n 0, 1) := by decide +kernel
theorem dX5_style_33 : decode cX5_style 33 = .ok (.getfield 26, 3) := by decide +kernel
theorem dX5_style_36 : decode cX5_style 36 = .ok (.getfield 90, 3) := by decide +kernel
theorem dX5_style_39 : decode cX5_style 39 = .ok (.iload_n 1, 1) := by decide +kernel
theorem dX5_style_40 : decode cX5_style 40 = .ok (.iload_n 2, 1) := by decide +kernel
theorem dX5_style_41 : decode cX5_style 41 = .ok (.iastore, 1) := by decide +kernel
theorem dX5_style_42 : decode cX5_style 42 = .ok (.aload_n 0, 1) := by decide +kernel
theorem dX5_style_43 : decode cX5_style 43 = .ok (.getfield 26, 3) := by decide +kernel
theorem dX5_style_46 : decode cX5_style 46 = .ok (.aload_n 0, 1) := by decide +kernel
theorem dX5_style_47 : decode cX5_style 47 = .ok (.getfield 12, 3) := by decide +kernel
theorem dX5_style_50 : decode cX5_style 50 = .ok (.aload_n 0, 1) := by decide +kernel
theorem dX5_style_51 : decode cX5_style 51 = .ok (.getfield 19, 3) := by decide +kernel
theorem dX5_style_54 : decode cX5_style 54 = .ok (.invokevirtual 93, 3) := by decide +kernel
theorem dX5_style_57 : decode cX5_style 57 = .ok (.iload_n 3, 1) := by decide +kernel
theorem dX5_style_58 : decode cX5_style 58 = .ok (.ireturn, 1) := by decide +kernel
set_option maxRecDepth 20000 in
theorem ggX5_ofLine_X5_isLine : GoodIn wsX5_ofLine wsX5_isLine := goodIn_r _ [15, 1, 16, 24, 25, 26, 27, 28, 29, 30, 31, 32] (by decide +kernel) (by decide +kernel)
set_option maxRecDepth 20000 in
theorem gX5_ofLine_X5_isLine : GoodIn wsX5_ofLine (wsV RX5 70 RX5 yX5_isLine wsX5_isLine) := goodIn_app (goodIn_of _ (by decide +kernel)) ggX5_ofLine_X5_isLine
set_option maxRecDepth 20000 in
theorem ggX5_ofLine_X1_widthAhead : GoodIn wsX5_ofLine wsX1_widthAhead := goodIn_r _ [21, 22, 23, 33, 34, 35, 36, 37, 38] (by decide +kernel) (by decide +kernel)
set_option maxRecDepth 20000 in
theorem gX5_ofLine_X1_widthAhead : GoodIn wsX5_ofLine (wsV RX5 106 RX1 yX1_widthAhead wsX1_widthAhead) := goodIn_app (goodIn_of _ (by decide +kernel)) ggX5_ofLine_X1_widthAhead
theorem dX5_ofLine_0 : decode cX5_ofLine 0 = .ok (.aload_n 0, 1) := by decide +kernel
theorem dX5_ofLine_1 : decode cX5_ofLine 1 = .ok (.iload_n 1, 1) := by decide +kernel
theorem dX5_ofLine_2 : decode cX5_ofLine 2 = .ok (.invokevirtual 70, 3) := by decide +kernel
theorem dX5_ofLine_5 : decode cX5_ofLine 5 = .ok (.ifCond .ne 5, 3) := by decide +kernel
theorem dX5_ofLine_8 : decode cX5_ofLine 8 = .ok (.iconst (-1), 1) := by decide +kernel
theorem dX5_ofLine_9 : decode cX5_ofLine 9 = .ok (.ireturn, 1) := by decide +kernel
theorem dX5_ofLine_10 : decode cX5_ofLine 10 = .ok (.aload_n 0, 1) := by decide +kernel
theorem dX5_ofLine_11 : decode cX5_ofLine 11 = .ok (.getfield 12, 3) := by decide +kernel
theorem dX5_ofLine_14 : decode cX5_ofLine 14 = .ok (.getfield 73, 3) := by decide +kernel
theorem dX5_ofLine_17 : decode cX5_ofLine 17 = .ok (.iload_n 1, 1) := by decide +kernel
theorem dX5_ofLine_18 : decode cX5_ofLine 18 = .ok (.aaload, 1) := by decide +kernel
theorem dX5_ofLine_19 : decode cX5_ofLine 19 = .ok (.astore_n 3, 1) := by decide +kernel
theorem dX5_ofLine_20 : decode cX5_ofLine 20 = .ok (.iload_n 2, 1) := by decide +kernel
theorem dX5_ofLine_21 : decode cX5_ofLine 21 = .ok (.tableswitch 109 0 5 #[39, 44, 54, 84, 94, 104], 39) := by decide +kernel
theorem dX5_ofLine_60 : decode cX5_ofLine 60 = .ok (.aload_n 3, 1) := by decide +kernel
theorem dX5_ofLine_61 : decode cX5_ofLine 61 = .ok (.getfield 97, 3) := by decide +kernel
theorem dX5_ofLine_64 : decode cX5_ofLine 64 = .ok (.ireturn, 1) := by decide +kernel
theorem dX5_ofLine_65 : decode cX5_ofLine 65 = .ok (.aload_n 0, 1) := by decide +kernel
theorem dX5_ofLine_66 : decode cX5_ofLine 66 = .ok (.getfield 26, 3) := by decide +kernel
theorem dX5_ofLine_69 : decode cX5_ofLine 69 = .ok (.getfield 100, 3) := by decide +kernel
theorem dX5_ofLine_72 : decode cX5_ofLine 72 = .ok (.iload_n 1, 1) := by decide +kernel
theorem dX5_ofLine_73 : decode cX5_ofLine 73 = .ok (.iaload, 1) := by decide +kernel
theorem dX5_ofLine_74 : decode cX5_ofLine 74 = .ok (.ireturn, 1) := by decide +kernel
theorem dX5_ofLine_75 : decode cX5_ofLine 75 = .ok (.aload_n 3, 1) := by decide +kernel
theorem dX5_ofLine_76 : decode cX5_ofLine 76 = .ok (.getfield 103, 3) := by decide +kernel
theorem dX5_ofLine_79 : decode cX5_ofLine 79 = .ok (.ifCond .ne 7, 3) := by decide +kernel
theorem dX5_ofLine_82 : decode cX5_ofLine 82 = .ok (.iconst 0, 1) := by decide +kernel
theorem dX5_ofLine_83 : decode cX5_ofLine 83 = .ok (.goto 21, 3) := by decide +kernel
theorem dX5_ofLine_86 : decode cX5_ofLine 86 = .ok (.aload_n 0, 1) := by decide +kernel
theorem dX5_ofLine_87 : decode cX5_ofLine 87 = .ok (.getfield 26, 3) := by decide +kernel
theorem dX5_ofLine_90 : decode cX5_ofLine 90 = .ok (.getfield 100, 3) := by decide +kernel
theorem dX5_ofLine_93 : decode cX5_ofLine 93 = .ok (.iload_n 1, 1) := by decide +kernel
theorem dX5_ofLine_94 : decode cX5_ofLine 94 = .ok (.iaload, 1) := by decide +kernel
theorem dX5_ofLine_95 : decode cX5_ofLine 95 = .ok (.aload_n 3, 1) := by decide +kernel
theorem dX5_ofLine_96 : decode cX5_ofLine 96 = .ok (.aload_n 3, 1) := by decide +kernel
theorem dX5_ofLine_97 : decode cX5_ofLine 97 = .ok (.getfield 103, 3) := by decide +kernel
theorem dX5_ofLine_100 : decode cX5_ofLine 100 = .ok (.invokevirtual 106, 3) := by decide +kernel
theorem dX5_ofLine_103 : decode cX5_ofLine 103 = .ok (.iadd, 1) := by decide +kernel
theorem dX5_ofLine_104 : decode cX5_ofLine 104 = .ok (.ireturn, 1) := by decide +kernel
theorem dX5_ofLine_105 : decode cX5_ofLine 105 = .ok (.aload_n 0, 1) := by decide +kernel
theorem dX5_ofLine_106 : decode cX5_ofLine 106 = .ok (.getfield 19, 3) := by decide +kernel
theorem dX5_ofLine_109 : decode cX5_ofLine 109 = .ok (.getfield 109, 3) := by decide +kernel
theorem dX5_ofLine_112 : decode cX5_ofLine 112 = .ok (.iload_n 1, 1) := by decide +kernel
theorem dX5_ofLine_113 : decode cX5_ofLine 113 = .ok (.iaload, 1) := by decide +kernel
theorem dX5_ofLine_114 : decode cX5_ofLine 114 = .ok (.ireturn, 1) := by decide +kernel
theorem dX5_ofLine_115 : decode cX5_ofLine 115 = .ok (.aload_n 0, 1) := by decide +kernel
theorem dX5_ofLine_116 : decode cX5_ofLine 116 = .ok (.getfield 19, 3) := by decide +kernel
theorem dX5_ofLine_119 : decode cX5_ofLine 119 = .ok (.getfield 112, 3) := by decide +kernel
theorem dX5_ofLine_122 : decode cX5_ofLine 122 = .ok (.iload_n 1, 1) := by decide +kernel
theorem dX5_ofLine_123 : decode cX5_ofLine 123 = .ok (.iaload, 1) := by decide +kernel
theorem dX5_ofLine_124 : decode cX5_ofLine 124 = .ok (.ireturn, 1) := by decide +kernel
theorem dX5_ofLine_125 : decode cX5_ofLine 125 = .ok (.aload_n 3, 1) := by decide +kernel
theorem dX5_ofLine_126 : decode cX5_ofLine 126 = .ok (.getfield 115, 3) := by decide +kernel
theorem dX5_ofLine_129 : decode cX5_ofLine 129 = .ok (.ireturn, 1) := by decide +kernel
theorem dX5_ofLine_130 : decode cX5_ofLine 130 = .ok (.bipush (-2), 2) := by decide +kernel
theorem dX5_ofLine_132 : decode cX5_ofLine 132 = .ok (.ireturn, 1) := by decide +kernel
set_option maxRecDepth 20000 in
theorem ggX5_opener_X5_isOpener : GoodIn wsX5_opener wsX5_isOpener := goodIn_r _ [10, 1, 11, 35, 36, 37, 38, 39, 40, 41, 42, 43, 44, 45, 46, 47, 48, 49, 50, 51, 52, 53, 54, 55] (by decide +kernel) (by decide +kernel)
set_option maxRecDepth 20000 in
theorem gX5_opener_X5_isOpener : GoodIn wsX5_opener (wsV RX5 118 RX5 yX5_isOpener wsX5_isOpener) := goodIn_app (goodIn_of _ (by decide +kernel)) ggX5_opener_X5_isOpener
set_option maxRecDepth 20000 in
theorem ggX5_opener_X0_placeOf : GoodIn wsX5_opener wsX0_placeOf := goodIn_r _ [16, 17, 18, 19, 56, 57, 42, 43, 44, 45, 46, 47, 48, 49, 50, 51, 52, 53, 54, 55] (by decide +kernel) (by decide +kernel)
set_option maxRecDepth 20000 in
theorem gX5_opener_X0_placeOf : GoodIn wsX5_opener (wsV RX5 127 RX0 yX0_placeOf wsX0_placeOf) := goodIn_app (goodIn_of _ (by decide +kernel)) ggX5_opener_X0_placeOf
set_option maxRecDepth 20000 in
theorem ggX5_opener_X0_baseOf : GoodIn wsX5_opener wsX0_baseOf := goodIn_r _ [23, 17, 18, 56, 57, 42, 43, 44, 45, 46, 47, 48, 49, 50, 51, 52, 53, 54, 55] (by decide +kernel) (by decide +kernel)
set_option maxRecDepth 20000 in
theorem gX5_opener_X0_baseOf : GoodIn wsX5_opener (wsV RX5 131 RX0 yX0_baseOf wsX0_baseOf) := goodIn_app (goodIn_of _ (by decide +kernel)) ggX5_opener_X0_baseOf
set_option maxRecDepth 20000 in
theorem ggX5_opener_X0_kindOf : GoodIn wsX5_opener wsX0_kindOf := goodIn_r _ [27, 28, 29, 30, 31, 15, 32, 33, 34, 42, 43, 44, 45, 46, 47, 48, 49, 50, 51, 52, 53, 54, 55, 56, 57] (by decide +kernel) (by decide +kernel)
set_option maxRecDepth 20000 in
theorem gX5_opener_X0_kindOf : GoodIn wsX5_opener (wsV RX5 134 RX0 yX0_kindOf wsX0_kindOf) := goodIn_app (goodIn_of _ (by decide +kernel)) ggX5_opener_X0_kindOf
theorem dX5_opener_0 : decode cX5_opener 0 = .ok (.aload_n 0, 1) := by decide +kernel
theorem dX5_opener_1 : decode cX5_opener 1 = .ok (.iload_n 1, 1) := by decide +kernel
theorem dX5_opener_2 : decode cX5_opener 2 = .ok (.invokevirtual 118, 3) := by decide +kernel
theorem dX5_opener_5 : decode cX5_opener 5 = .ok (.ifCond .ne 5, 3) := by decide +kernel
theorem dX5_opener_8 : decode cX5_opener 8 = .ok (.iconst (-1), 1) := by decide +kernel
theorem dX5_opener_9 : decode cX5_opener 9 = .ok (.ireturn, 1) := by decide +kernel
theorem dX5_opener_10 : decode cX5_opener 10 = .ok (.iload_n 2, 1) := by decide +kernel
theorem dX5_opener_11 : decode cX5_opener 11 = .ok (.tableswitch 106 0 5 #[37, 47, 57, 70, 83, 96], 37) := by decide +kernel
theorem dX5_opener_48 : decode cX5_opener 48 = .ok (.aload_n 0, 1) := by decide +kernel
theorem dX5_opener_49 : decode cX5_opener 49 = .ok (.getfield 19, 3) := by decide +kernel
theorem dX5_opener_52 : decode cX5_opener 52 = .ok (.getfield 121, 3) := by decide +kernel
theorem dX5_opener_55 : decode cX5_opener 55 = .ok (.iload_n 1, 1) := by decide +kernel
theorem dX5_opener_56 : decode cX5_opener 56 = .ok (.iaload, 1) := by decide +kernel
theorem dX5_opener_57 : decode cX5_opener 57 = .ok (.ireturn, 1) := by decide +kernel
theorem dX5_opener_58 : decode cX5_opener 58 = .ok (.aload_n 0, 1) := by decide +kernel
theorem dX5_opener_59 : decode cX5_opener 59 = .ok (.getfield 19, 3) := by decide +kernel
theorem dX5_opener_62 : decode cX5_opener 62 = .ok (.getfield 124, 3) := by decide +kernel
theorem dX5_opener_65 : decode cX5_opener 65 = .ok (.iload_n 1, 1) := by decide +kernel
theorem dX5_opener_66 : decode cX5_opener 66 = .ok (.iaload, 1) := by decide +kernel
theorem dX5_opener_67 : decode cX5_opener 67 = .ok (.ireturn, 1) := by decide +kernel
theorem dX5_opener_68 : decode cX5_opener 68 = .ok (.aload_n 0, 1) := by decide +kernel
theorem dX5_opener_69 : decode cX5_opener 69 = .ok (.getfield 26, 3) := by decide +kernel
theorem dX5_opener_72 : decode cX5_opener 72 = .ok (.aload_n 0, 1) := by decide +kernel
theorem dX5_opener_73 : decode cX5_opener 73 = .ok (.getfield 19, 3) := by decide +kernel
theorem dX5_opener_76 : decode cX5_opener 76 = .ok (.iload_n 1, 1) := by decide +kernel
theorem dX5_opener_77 : decode cX5_opener 77 = .ok (.invokevirtual 127, 3) := by decide +kernel
theorem dX5_opener_80 : decode cX5_opener 80 = .ok (.ireturn, 1) := by decide +kernel
theorem dX5_opener_81 : decode cX5_opener 81 = .ok (.aload_n 0, 1) := by decide +kernel
theorem dX5_opener_82 : decode cX5_opener 82 = .ok (.getfield 26, 3) := by decide +kernel
theorem dX5_opener_85 : decode cX5_opener 85 = .ok (.aload_n 0, 1) := by decide +kernel
theorem dX5_opener_86 : decode cX5_opener 86 = .ok (.getfield 19, 3) := by decide +kernel
theorem dX5_opener_89 : decode cX5_opener 89 = .ok (.iload_n 1, 1) := by decide +kernel
theorem dX5_opener_90 : decode cX5_opener 90 = .ok (.invokevirtual 131, 3) := by decide +kernel
theorem dX5_opener_93 : decode cX5_opener 93 = .ok (.ireturn, 1) := by decide +kernel
theorem dX5_opener_94 : decode cX5_opener 94 = .ok (.aload_n 0, 1) := by decide +kernel
theorem dX5_opener_95 : decode cX5_opener 95 = .ok (.getfield 26, 3) := by decide +kernel
theorem dX5_opener_98 : decode cX5_opener 98 = .ok (.aload_n 0, 1) := by decide +kernel
theorem dX5_opener_99 : decode cX5_opener 99 = .ok (.getfield 19, 3) := by decide +kernel
theorem dX5_opener_102 : decode cX5_opener 102 = .ok (.iload_n 1, 1) := by decide +kernel
theorem dX5_opener_103 : decode cX5_opener 103 = .ok (.invokevirtual 134, 3) := by decide +kernel
theorem dX5_opener_106 : decode cX5_opener 106 = .ok (.ireturn, 1) := by decide +kernel
theorem dX5_opener_107 : decode cX5_opener 107 = .ok (.aload_n 0, 1) := by decide +kernel
theorem dX5_opener_108 : decode cX5_opener 108 = .ok (.getfield 19, 3) := by decide +kernel
theorem dX5_opener_111 : decode cX5_opener 111 = .ok (.getfield 137, 3) := by decide +kernel
theorem dX5_opener_114 : decode cX5_opener 114 = .ok (.iload_n 1, 1) := by decide +kernel
theorem dX5_opener_115 : decode cX5_opener 115 = .ok (.iaload, 1) := by decide +kernel
theorem dX5_opener_116 : decode cX5_opener 116 = .ok (.ireturn, 1) := by decide +kernel
theorem dX5_opener_117 : decode cX5_opener 117 = .ok (.bipush (-2), 2) := by decide +kernel
theorem dX5_opener_119 : decode cX5_opener 119 = .ok (.ireturn, 1) := by decide +kernel
set_option maxRecDepth 20000 in
theorem ggX5_unlike_X5_isLine : GoodIn wsX5_unlike wsX5_isLine := goodIn_r _ [9, 1, 2, 23, 24, 25, 26, 27, 28, 29, 30, 31] (by decide +kernel) (by decide +kernel)
set_option maxRecDepth 20000 in
theorem gX5_unlike_X5_isLine : GoodIn wsX5_unlike (wsV RX5 70 RX5 yX5_isLine wsX5_isLine) := goodIn_app (goodIn_of _ (by decide +kernel)) ggX5_unlike_X5_isLine
set_option maxRecDepth 20000 in
theorem ggX5_unlike_X1_counts : GoodIn wsX5_unlike wsX1_counts := goodIn_r _ [14, 15, 16, 32, 33, 34, 35, 36, 37] (by decide +kernel) (by decide +kernel)
set_option maxRecDepth 20000 in
theorem gX5_unlike_X1_counts : GoodIn wsX5_unlike (wsV RX5 140 RX1 yX1_counts wsX1_counts) := goodIn_app (goodIn_of _ (by decide +kernel)) ggX5_unlike_X1_counts
set_option maxRecDepth 20000 in
theorem ggX5_unlike_X5_isAsSeen : GoodIn wsX5_unlike wsX5_isAsSeen := goodIn_r _ [20, 1, 3, 21, 22, 10, 11, 12, 13, 14, 15, 16, 23, 24, 25, 26, 27, 28, 29, 30, 31, 32, 33, 34, 35, 36, 37, 38, 39] (by decide +kernel) (by decide +kernel)
set_option maxRecDepth 20000 in
theorem gX5_unlike_X5_isAsSeen : GoodIn wsX5_unlike (wsV RX5 144 RX5 yX5_isAsSeen wsX5_isAsSeen) := goodIn_app (goodIn_of _ (by decide +kernel)) ggX5_unlike_X5_isAsSeen
theorem dX5_unlike_0 : decode cX5_unlike 0 = .ok (.aload_n 0, 1) := by decide +kernel
theorem dX5_unlike_1 : decode cX5_unlike 1 = .ok (.iload_n 1, 1) := by decide +kernel
theorem dX5_unlike_2 : decode cX5_unlike 2 = .ok (.invokevirtual 70, 3) := by decide +kernel
theorem dX5_unlike_5 : decode cX5_unlike 5 = .ok (.ifCond .ne 5, 3) := by decide +kernel
theorem dX5_unlike_8 : decode cX5_unlike 8 = .ok (.iconst (-1), 1) := by decide +kernel
theorem dX5_unlike_9 : decode cX5_unlike 9 = .ok (.ireturn, 1) := by decide +kernel
theorem dX5_unlike_10 : decode cX5_unlike 10 = .ok (.iload_n 1, 1) := by decide +kernel
theorem dX5_unlike_11 : decode cX5_unlike 11 = .ok (.istore_n 2, 1) := by decide +kernel
theorem dX5_unlike_12 : decode cX5_unlike 12 = .ok (.iload_n 2, 1) := by decide +kernel
theorem dX5_unlike_13 : decode cX5_unlike 13 = .ok (.aload_n 0, 1) := by decide +kernel
theorem dX5_unlike_14 : decode cX5_unlike 14 = .ok (.getfield 12, 3) := by decide +kernel
theorem dX5_unlike_17 : decode cX5_unlike 17 = .ok (.getfield 48, 3) := by decide +kernel
theorem dX5_unlike_20 : decode cX5_unlike 20 = .ok (.if_icmp .ge 38, 3) := by decide +kernel
theorem dX5_unlike_23 : decode cX5_unlike 23 = .ok (.aload_n 0, 1) := by decide +kernel
theorem dX5_unlike_24 : decode cX5_unlike 24 = .ok (.getfield 12, 3) := by decide +kernel
theorem dX5_unlike_27 : decode cX5_unlike 27 = .ok (.getfield 73, 3) := by decide +kernel
theorem dX5_unlike_30 : decode cX5_unlike 30 = .ok (.iload_n 2, 1) := by decide +kernel
theorem dX5_unlike_31 : decode cX5_unlike 31 = .ok (.aaload, 1) := by decide +kernel
theorem dX5_unlike_32 : decode cX5_unlike 32 = .ok (.invokevirtual 140, 3) := by decide +kernel
theorem dX5_unlike_35 : decode cX5_unlike 35 = .ok (.ifCond .eq 17, 3) := by decide +kernel
theorem dX5_unlike_38 : decode cX5_unlike 38 = .ok (.aload_n 0, 1) := by decide +kernel
theorem dX5_unlike_39 : decode cX5_unlike 39 = .ok (.aload_n 0, 1) := by decide +kernel
theorem dX5_unlike_40 : decode cX5_unlike 40 = .ok (.getfield 26, 3) := by decide +kernel
theorem dX5_unlike_43 : decode cX5_unlike 43 = .ok (.iload_n 2, 1) := by decide +kernel
theorem dX5_unlike_44 : decode cX5_unlike 44 = .ok (.invokevirtual 144, 3) := by decide +kernel
theorem dX5_unlike_47 : decode cX5_unlike 47 = .ok (.ifCond .ne 5, 3) := by decide +kernel
theorem dX5_unlike_50 : decode cX5_unlike 50 = .ok (.iload_n 2, 1) := by decide +kernel
theorem dX5_unlike_51 : decode cX5_unlike 51 = .ok (.ireturn, 1) := by decide +kernel
theorem dX5_unlike_52 : decode cX5_unlike 52 = .ok (.iinc 2 1, 3) := by decide +kernel
theorem dX5_unlike_55 : decode cX5_unlike 55 = .ok (.goto (-43), 3) := by decide +kernel
theorem dX5_unlike_58 : decode cX5_unlike 58 = .ok (.bipush (-9), 2) := by decide +kernel
theorem dX5_unlike_60 : decode cX5_unlike 60 = .ok (.ireturn, 1) := by decide +kernel
set_option maxRecDepth 20000 in
theorem ggX5_see_X5_isLine : GoodIn wsX5_see wsX5_isLine := goodIn_r _ [8, 1, 9, 10, 11, 12, 13, 14, 15, 16, 17, 18] (by decide +kernel) (by decide +kernel)
set_option maxRecDepth 20000 in
theorem gX5_see_X5_isLine : GoodIn wsX5_see (wsV RX5 70 RX5 yX5_isLine wsX5_isLine) := goodIn_app (goodIn_of _ (by decide +kernel)) ggX5_see_X5_isLine
theorem dX5_see_0 : decode cX5_see 0 = .ok (.aload_n 0, 1) := by decide +kernel
theorem dX5_see_1 : decode cX5_see 1 = .ok (.iload_n 1, 1) := by decide +kernel
theorem dX5_see_2 : decode cX5_see 2 = .ok (.invokevirtual 70, 3) := by decide +kernel
theorem dX5_see_5 : decode cX5_see 5 = .ok (.ifCond .ne 5, 3) := by decide +kernel
theorem dX5_see_8 : decode cX5_see 8 = .ok (.iconst (-1), 1) := by decide +kernel
theorem dX5_see_9 : decode cX5_see 9 = .ok (.ireturn, 1) := by decide +kernel
theorem dX5_see_10 : decode cX5_see 10 = .ok (.iload_n 2, 1) := by decide +kernel
theorem dX5_see_11 : decode cX5_see 11 = .ok (.bipush (-9), 2) := by decide +kernel
theorem dX5_see_13 : decode cX5_see 13 = .ok (.if_icmp .eq 17, 3) := by decide +kernel
theorem dX5_see_16 : decode cX5_see 16 = .ok (.iload_n 2, 1) := by decide +kernel
theorem dX5_see_17 : decode cX5_see 17 = .ok (.ifCond .lt 10, 3) := by decide +kernel
theorem dX5_see_20 : decode cX5_see 20 = .ok (.iload_n 2, 1) := by decide +kernel
theorem dX5_see_21 : decode cX5_see 21 = .ok (.sipush 200, 3) := by decide +kernel
theorem dX5_see_24 : decode cX5_see 24 = .ok (.if_icmp .le 6, 3) := by decide +kernel
theorem dX5_see_27 : decode cX5_see 27 = .ok (.bipush (-2), 2) := by decide +kernel
theorem dX5_see_29 : decode cX5_see 29 = .ok (.ireturn, 1) := by decide +kernel
theorem dX5_see_30 : decode cX5_see 30 = .ok (.aload_n 0, 1) := by decide +kernel
theorem dX5_see_31 : decode cX5_see 31 = .ok (.getfield 12, 3) := by decide +kernel
theorem dX5_see_34 : decode cX5_see 34 = .ok (.getfield 73, 3) := by decide +kernel
theorem dX5_see_37 : decode cX5_see 37 = .ok (.iload_n 1, 1) := by decide +kernel
theorem dX5_see_38 : decode cX5_see 38 = .ok (.aaload, 1) := by decide +kernel
theorem dX5_see_39 : decode cX5_see 39 = .ok (.astore_n 3, 1) := by decide +kernel
theorem dX5_see_40 : decode cX5_see 40 = .ok (.aload_n 3, 1) := by decide +kernel
theorem dX5_see_41 : decode cX5_see 41 = .ok (.getfield 115, 3) := by decide +kernel
theorem dX5_see_44 : decode cX5_see 44 = .ok (.istore 4, 2) := by decide +kernel
theorem dX5_see_46 : decode cX5_see 46 = .ok (.aload_n 3, 1) := by decide +kernel
theorem dX5_see_47 : decode cX5_see 47 = .ok (.iload_n 2, 1) := by decide +kernel
theorem dX5_see_48 : decode cX5_see 48 = .ok (.putfield 115, 3) := by decide +kernel
theorem dX5_see_51 : decode cX5_see 51 = .ok (.iload 4, 2) := by decide +kernel
theorem dX5_see_53 : decode cX5_see 53 = .ok (.ireturn, 1) := by decide +kernel
set_option maxRecDepth 20000 in
theorem ggX5_fits_X5_isStyle : GoodIn wsX5_fits wsX5_isStyle := goodIn_r _ [7, 8, 9, 6, 10, 11, 12] (by decide +kernel) (by decide +kernel)
set_option maxRecDepth 20000 in
theorem gX5_fits_X5_isStyle : GoodIn wsX5_fits (va_wsS RX5 148 yX5_isStyle wsX5_isStyle) := goodIn_app (goodIn_of _ (by decide +kernel)) ggX5_fits_X5_isStyle
set_option maxRecDepth 20000 in
theorem ggX5_fits_X5_layTried : GoodIn wsX5_fits wsX5_layTried := goodIn_r _ [16, 3, 1, 17, 18, 19, 20, 21, 22, 23, 24, 25, 26, 27, 28, 29, 30, 31, 32, 33, 34, 35, 36, 37, 38, 39, 40, 41, 42, 43, 44, 45, 46, 47, 48, 49, 50, 51, 52, 53, 54, 55, 56, 57, 58, 59, 60, 61, 62, 77, 78, 79, 80, 81, 82, 83, 86, 87, 84, 85, 88, 89, 90, 91, 92, 93, 94, 95, 96, 97, 98, 99, 100, 101, 102, 103, 104, 105, 106, 107] (by decide +kernel) (by decide +kernel)
set_option maxRecDepth 20000 in
theorem gX5_fits_X5_layTried : GoodIn wsX5_fits (wsV RX5 152 RX5 yX5_layTried wsX5_layTried) := goodIn_app (goodIn_of _ (by decide +kernel)) ggX5_fits_X5_layTried
set_option maxRecDepth 20000 in
theorem ggX5_fits_X5_isAsSeen : GoodIn wsX5_fits wsX5_isAsSeen := goodIn_r _ [66, 1, 67, 68, 69, 70, 71, 72, 73, 74, 75, 76, 77, 78, 79, 80, 81, 82, 83, 84, 85, 88, 89, 90, 91, 92, 93, 86, 87] (by decide +kernel) (by decide +kernel)
set_option maxRecDepth 20000 in
theorem gX5_fits_X5_isAsSeen : GoodIn wsX5_fits (wsV RX5 144 RX5 yX5_isAsSeen wsX5_isAsSeen) := goodIn_app (goodIn_of _ (by decide +kernel)) ggX5_fits_X5_isAsSeen
theorem dX5_fits_0 : decode cX5_fits 0 = .ok (.iload_n 1, 1) := by decide +kernel
theorem dX5_fits_1 : decode cX5_fits 1 = .ok (.iload_n 2, 1) := by decide +kernel
theorem dX5_fits_2 : decode cX5_fits 2 = .ok (.iload_n 3, 1) := by decide +kernel
theorem dX5_fits_3 : decode cX5_fits 3 = .ok (.iload 4, 2) := by decide +kernel
theorem dX5_fits_5 : decode cX5_fits 5 = .ok (.invokestatic 148, 3) := by decide +kernel
theorem dX5_fits_8 : decode cX5_fits 8 = .ok (.ifCond .ne 6, 3) := by decide +kernel
theorem dX5_fits_11 : decode cX5_fits 11 = .ok (.bipush (-2), 2) := by decide +kernel
theorem dX5_fits_13 : decode cX5_fits 13 = .ok (.ireturn, 1) := by decide +kernel
theorem dX5_fits_14 : decode cX5_fits 14 = .ok (.aload_n 0, 1) := by decide +kernel
theorem dX5_fits_15 : decode cX5_fits 15 = .ok (.iload_n 1, 1) := by decide +kernel
theorem dX5_fits_16 : decode cX5_fits 16 = .ok (.iload_n 2, 1) := by decide +kernel
theorem dX5_fits_17 : decode cX5_fits 17 = .ok (.iload_n 3, 1) := by decide +kernel
theorem dX5_fits_18 : decode cX5_fits 18 = .ok (.iload 4, 2) := by decide +kernel
theorem dX5_fits_20 : decode cX5_fits 20 = .ok (.invokevirtual 152, 3) := by decide +kernel
theorem dX5_fits_23 : decode cX5_fits 23 = .ok (.iconst 0, 1) := by decide +kernel
theorem dX5_fits_24 : decode cX5_fits 24 = .ok (.istore 5, 2) := by decide +kernel
theorem dX5_fits_26 : decode cX5_fits 26 = .ok (.iconst 0, 1) := by decide +kernel
theorem dX5_fits_27 : decode cX5_fits 27 = .ok (.istore 6, 2) := by decide +kernel
theorem dX5_fits_29 : decode cX5_fits 29 = .ok (.iload 6, 2) := by decide +kernel
theorem dX5_fits_31 : decode cX5_fits 31 = .ok (.aload_n 0, 1) := by decide +kernel
theorem dX5_fits_32 : decode cX5_fits 32 = .ok (.getfield 12, 3) := by decide +kernel
theorem dX5_fits_35 : decode cX5_fits 35 = .ok (.getfield 48, 3) := by decide +kernel
theorem dX5_fits_38 : decode cX5_fits 38 = .ok (.if_icmp .ge 25, 3) := by decide +kernel
theorem dX5_fits_41 : decode cX5_fits 41 = .ok (.aload_n 0, 1) := by decide +kernel
theorem dX5_fits_42 : decode cX5_fits 42 = .ok (.aload_n 0, 1) := by decide +kernel
theorem dX5_fits_43 : decode cX5_fits 43 = .ok (.getfield 30, 3) := by decide +kernel
theorem dX5_fits_46 : decode cX5_fits 46 = .ok (.iload 6, 2) := by decide +kernel
theorem dX5_fits_48 : decode cX5_fits 48 = .ok (.invokevirtual 144, 3) := by decide +kernel
theorem dX5_fits_51 : decode cX5_fits 51 = .ok (.ifCond .eq 6, 3) := by decide +kernel
theorem dX5_fits_54 : decode cX5_fits 54 = .ok (.iinc 5 1, 3) := by decide +kernel
theorem dX5_fits_57 : decode cX5_fits 57 = .ok (.iinc 6 1, 3) := by decide +kernel
theorem dX5_fits_60 : decode cX5_fits 60 = .ok (.goto (-31), 3) := by decide +kernel
theorem dX5_fits_63 : decode cX5_fits 63 = .ok (.iload 5, 2) := by decide +kernel
theorem dX5_fits_65 : decode cX5_fits 65 = .ok (.ireturn, 1) := by decide +kernel
set_option maxRecDepth 20000 in
theorem ggX5_score_X5_isStyle : GoodIn wsX5_score wsX5_isStyle := goodIn_r _ [4, 5, 6, 3, 7, 8, 9] (by decide +kernel) (by decide +kernel)
set_option maxRecDepth 20000 in
theorem gX5_score_X5_isStyle : GoodIn wsX5_score (va_wsS RX5 148 yX5_isStyle wsX5_isStyle) := goodIn_app (goodIn_of _ (by decide +kernel)) ggX5_score_X5_isStyle
set_option maxRecDepth 20000 in
theorem ggX5_score_X5_layTried : GoodIn wsX5_score wsX5_layTried := goodIn_r _ [13, 14, 15, 16, 17, 18, 19, 20, 21, 22, 23, 24, 25, 26, 27, 28, 29, 30, 31, 32, 33, 34, 35, 36, 37, 38, 39, 40, 41, 42, 43, 44, 45, 46, 47, 48, 49, 50, 51, 52, 53, 54, 55, 56, 57, 58, 59, 60, 61, 89, 90, 91, 92, 93, 94, 95, 96, 97, 98, 99, 100, 101, 102, 103, 104, 105, 106, 107, 108, 109, 110, 111, 112, 113, 114, 115, 116, 117, 118, 119] (by decide +kernel) (by decide +kernel)
set_option maxRecDepth 20000 in
theorem gX5_score_X5_layTried : GoodIn wsX5_score (wsV RX5 152 RX5 yX5_layTried wsX5_layTried) := goodIn_app (goodIn_of _ (by decide +kernel)) ggX5_score_X5_layTried
set_option maxRecDepth 20000 in
theorem ggX5_score_X5_partsOfTried : GoodIn wsX5_score wsX5_partsOfTried := goodIn_r _ [65, 15, 66, 14, 16, 67, 68, 69, 70, 71, 72, 73, 74, 3, 75, 76, 77, 78, 79, 80, 81, 82, 83, 84, 85, 89, 90, 91, 92, 93, 94, 95, 98, 99, 106, 107, 108, 109, 110, 111, 112, 113, 114, 115, 116, 117, 118, 119, 100, 101, 102, 103, 104, 105, 96, 97] (by decide +kernel) (by decide +kernel)
set_option maxRecDepth 20000 in
theorem gX5_score_X5_partsOfTried : GoodIn wsX5_score (wsV RX5 155 RX5 yX5_partsOfTried wsX5_partsOfTried) := goodIn_app (goodIn_of _ (by decide +kernel)) ggX5_score_X5_partsOfTried
set_option maxRecDepth 20000 in
theorem ggX5_score_X5_floatBits : GoodIn wsX5_score wsX5_floatBits := goodIn_r _ [88] (by decide +kernel) (by decide +kernel)
set_option maxRecDepth 20000 in
theorem gX5_score_X5_floatBits : GoodIn wsX5_score (va_wsS RX5 159 yX5_floatBits wsX5_floatBits) := goodIn_app (goodIn_of _ (by decide +kernel)) ggX5_score_X5_floatBits
theorem dX5_score_0 : decode cX5_score 0 = .ok (.iload_n 1, 1) := by decide +kernel
theorem dX5_score_1 : decode cX5_score 1 = .ok (.iload_n 2, 1) := by decide +kernel
theorem dX5_score_2 : decode cX5_score 2 = .ok (.iload_n 3, 1) := by decide +kernel
theorem dX5_score_3 : decode cX5_score 3 = .ok (.iload 4, 2) := by decide +kernel
theorem dX5_score_5 : decode cX5_score 5 = .ok (.invokestatic 148, 3) := by decide +kernel
theorem dX5_score_8 : decode cX5_score 8 = .ok (.ifCond .eq 14, 3) := by decide +kernel
theorem dX5_score_11 : decode cX5_score 11 = .ok (.iload 5, 2) := by decide +kernel
theorem dX5_score_13 : decode cX5_score 13 = .ok (.ifCond .lt 9, 3) := by decide +kernel
theorem dX5_score_16 : decode cX5_score 16 = .ok (.iload 5, 2) := by decide +kernel
theorem dX5_score_18 : decode cX5_score 18 = .ok (.iconst 1, 1) := by decide +kernel
theorem dX5_score_19 : decode cX5_score 19 = .ok (.if_icmp .le 6, 3) := by decide +kernel
theorem dX5_score_22 : decode cX5_score 22 = .ok (.bipush (-2), 2) := by decide +kernel
theorem dX5_score_24 : decode cX5_score 24 = .ok (.ireturn, 1) := by decide +kernel
theorem dX5_score_25 : decode cX5_score 25 = .ok (.aload_n 0, 1) := by decide +kernel
theorem dX5_score_26 : decode cX5_score 26 = .ok (.iload_n 1, 1) := by decide +kernel
theorem dX5_score_27 : decode cX5_score 27 = .ok (.iload_n 2, 1) := by decide +kernel
theorem dX5_score_28 : decode cX5_score 28 = .ok (.iload_n 3, 1) := by decide +kernel
theorem dX5_score_29 : decode cX5_score 29 = .ok (.iload 4, 2) := by decide +kernel
theorem dX5_score_31 : decode cX5_score 31 = .ok (.invokevirtual 152, 3) := by decide +kernel
theorem dX5_score_34 : decode cX5_score 34 = .ok (.aload_n 0, 1) := by decide +kernel
theorem dX5_score_35 : decode cX5_score 35 = .ok (.invokevirtual 155, 3) := by decide +kernel
theorem dX5_score_38 : decode cX5_score 38 = .ok (.istore 6, 2) := by decide +kernel
theorem dX5_score_40 : decode cX5_score 40 = .ok (.iload 5, 2) := by decide +kernel
theorem dX5_score_42 : decode cX5_score 42 = .ok (.ifCond .ne 11, 3) := by decide +kernel
theorem dX5_score_45 : decode cX5_score 45 = .ok (.iload 6, 2) := by decide +kernel
theorem dX5_score_47 : decode cX5_score 47 = .ok (.invokestatic 159, 3) := by decide +kernel
theorem dX5_score_50 : decode cX5_score 50 = .ok (.goto 13, 3) := by decide +kernel
theorem dX5_score_53 : decode cX5_score 53 = .ok (.iload 6, 2) := by decide +kernel
theorem dX5_score_55 : decode cX5_score 55 = .ok (.sipush 1000, 3) := by decide +kernel
theorem dX5_score_58 : decode cX5_score 58 = .ok (.imul, 1) := by decide +kernel
theorem dX5_score_59 : decode cX5_score 59 = .ok (.sipush 4096, 3) := by decide +kernel
theorem dX5_score_62 : decode cX5_score 62 = .ok (.idiv, 1) := by decide +kernel
theorem dX5_score_63 : decode cX5_score 63 = .ok (.ireturn, 1) := by decide +kernel
set_option maxRecDepth 20000 in
theorem ggX5_guess_X5_hasSeenTokens : GoodIn wsX5_guess wsX5_hasSeenTokens := goodIn_r _ [7, 8, 9, 10, 11, 12, 13, 14, 15, 16, 17, 98, 99, 100, 101, 102, 103, 104, 105, 106, 107, 108, 109, 110, 111, 112] (by decide +kernel) (by decide +kernel)
set_option maxRecDepth 20000 in
theorem gX5_guess_X5_hasSeenTokens : GoodIn wsX5_guess (wsV RX5 162 RX5 yX5_hasSeenTokens wsX5_hasSeenTokens) := goodIn_app (goodIn_of _ (by decide +kernel)) ggX5_guess_X5_hasSeenTokens
set_option maxRecDepth 20000 in
theorem ggX5_guess_X5_findGuess : GoodIn wsX5_guess wsX5_findGuess := goodIn_r _ [21, 2, 22, 23, 24, 25, 26, 6, 27, 28, 8, 29, 30, 31, 32, 33, 34, 35, 36, 37, 38, 39, 40, 41, 42, 43, 44, 45, 46, 47, 48, 49, 50, 51, 52, 53, 54, 55, 56, 57, 58, 59, 60, 61, 62, 63, 64, 65, 66, 67, 68, 69, 70, 71, 72, 73, 74, 75, 76, 77, 78, 1, 79, 80, 81, 82, 83, 9, 84, 85, 86, 87, 88, 89, 90, 91, 92, 10, 93, 94, 11, 12, 13, 14, 15, 16, 17, 98, 99, 100, 101, 102, 103, 104, 113, 114, 105, 106, 107, 108, 109, 110, 111, 112, 115, 116, 117, 118, 119, 120, 121, 122, 123, 124, 125, 126, 127, 128] (by decide +kernel) (by decide +kernel)
set_option maxRecDepth 20000 in
theorem gX5_guess_X5_findGuess : GoodIn wsX5_guess (wsV RX5 165 RX5 yX5_findGuess wsX5_findGuess) := goodIn_app (goodIn_of _ (by decide +kernel)) ggX5_guess_X5_findGuess
set_option maxRecDepth 20000 in
theorem ggX5_guess_X5_floatBits : GoodIn wsX5_guess wsX5_floatBits := goodIn_r _ [97] (by decide +kernel) (by decide +kernel)
set_option maxRecDepth 20000 in
theorem gX5_guess_X5_floatBits : GoodIn wsX5_guess (va_wsS RX5 159 yX5_floatBits wsX5_floatBits) := goodIn_app (goodIn_of _ (by decide +kernel)) ggX5_guess_X5_floatBits
theorem dX5_guess_0 : decode cX5_guess 0 = .ok (.iload_n 1, 1) := by decide +kernel
theorem dX5_guess_1 : decode cX5_guess 1 = .ok (.ifCond .lt 8, 3) := by decide +kernel
theorem dX5_guess_4 : decode cX5_guess 4 = .ok (.iload_n 1, 1) := by decide +kernel
theorem dX5_guess_5 : decode cX5_guess 5 = .ok (.iconst 4, 1) := by decide +kernel
theorem dX5_guess_6 : decode cX5_guess 6 = .ok (.if_icmp .le 6, 3) := by decide +kernel
theorem dX5_guess_9 : decode cX5_guess 9 = .ok (.bipush (-2), 2) := by decide +kernel
theorem dX5_guess_11 : decode cX5_guess 11 = .ok (.ireturn, 1) := by decide +kernel
theorem dX5_guess_12 : decode cX5_guess 12 = .ok (.aload_n 0, 1) := by decide +kernel
theorem dX5_guess_13 : decode cX5_guess 13 = .ok (.invokevirtual 162, 3) := by decide +kernel
theorem dX5_guess_16 : decode cX5_guess 16 = .ok (.ifCond .ne 6, 3) := by decide +kernel
theorem dX5_guess_19 : decode cX5_guess 19 = .ok (.bipush (-3), 2) := by decide +kernel
theorem dX5_guess_21 : decode cX5_guess 21 = .ok (.ireturn, 1) := by decide +kernel
theorem dX5_guess_22 : decode cX5_guess 22 = .ok (.aload_n 0, 1) := by decide +kernel
theorem dX5_guess_23 : decode cX5_guess 23 = .ok (.invokevirtual 165, 3) := by decide +kernel
theorem dX5_guess_26 : decode cX5_guess 26 = .ok (.iload_n 1, 1) := by decide +kernel
theorem dX5_guess_27 : decode cX5_guess 27 = .ok (.iconst 4, 1) := by decide +kernel
theorem dX5_guess_28 : decode cX5_guess 28 = .ok (.if_icmp .ge 12, 3) := by decide +kernel
theorem dX5_guess_31 : decode cX5_guess 31 = .ok (.aload_n 0, 1) := by decide +kernel
theorem dX5_guess_32 : decode cX5_guess 32 = .ok (.getfield 33, 3) := by decide +kernel
theorem dX5_guess_35 : decode cX5_guess 35 = .ok (.iload_n 1, 1) := by decide +kernel
theorem dX5_guess_36 : decode cX5_guess 36 = .ok (.iaload, 1) := by decide +kernel
theorem dX5_guess_37 : decode cX5_guess 37 = .ok (.goto 10, 3) := by decide +kernel
theorem dX5_guess_40 : decode cX5_guess 40 = .ok (.aload_n 0, 1) := by decide +kernel
theorem dX5_guess_41 : decode cX5_guess 41 = .ok (.getfield 168, 3) := by decide +kernel
theorem dX5_guess_44 : decode cX5_guess 44 = .ok (.invokestatic 159, 3) := by decide +kernel
theorem dX5_guess_47 : decode cX5_guess 47 = .ok (.ireturn, 1) := by decide +kernel
set_option maxRecDepth 20000 in
theorem ggX5_follow_X5_hasSeenTokens : GoodIn wsX5_follow wsX5_hasSeenTokens := goodIn_r _ [9, 3, 10, 11, 12, 13, 14, 15, 16, 17, 18, 105, 106, 107, 108, 109, 110, 111, 112, 113, 114, 115, 116, 117, 118, 119] (by decide +kernel) (by decide +kernel)
set_option maxRecDepth 20000 in
theorem gX5_follow_X5_hasSeenTokens : GoodIn wsX5_follow (wsV RX5 162 RX5 yX5_hasSeenTokens wsX5_hasSeenTokens) := goodIn_app (goodIn_of _ (by decide +kernel)) ggX5_follow_X5_hasSeenTokens
set_option maxRecDepth 20000 in
theorem ggX5_follow_X5_findGuess : GoodIn wsX5_follow wsX5_findGuess := goodIn_r _ [22, 23, 24, 25, 26, 27, 28, 8, 29, 30, 3, 4, 31, 32, 33, 34, 35, 36, 37, 38, 39, 40, 41, 42, 43, 44, 45, 46, 47, 48, 49, 50, 51, 52, 53, 54, 55, 56, 57, 58, 59, 60, 61, 62, 63, 64, 65, 66, 67, 68, 69, 70, 71, 72, 73, 74, 75, 76, 77, 78, 79, 2, 80, 81, 82, 83, 84, 10, 85, 86, 87, 88, 89, 90, 91, 92, 93, 11, 94, 95, 12, 13, 14, 15, 16, 17, 18, 105, 106, 107, 108, 109, 110, 111, 120, 121, 112, 113, 114, 115, 116, 117, 118, 119, 122, 123, 124, 125, 126, 127, 128, 129, 130, 131, 132, 133, 134, 135] (by decide +kernel) (by decide +kernel)
set_option maxRecDepth 20000 in
theorem gX5_follow_X5_findGuess : GoodIn wsX5_follow (wsV RX5 165 RX5 yX5_findGuess wsX5_findGuess) := goodIn_app (goodIn_of _ (by decide +kernel)) ggX5_follow_X5_findGuess
set_option maxRecDepth 20000 in
theorem ggX5_follow_X5_rememberColumns : GoodIn wsX5_follow wsX5_rememberColumns := goodIn_r _ [99, 3, 10, 11, 1, 95, 100, 105, 106, 107, 108, 109, 110, 111, 112, 113, 120, 121, 114, 115, 116, 117, 118, 119] (by decide +kernel) (by decide +kernel)
set_option maxRecDepth 20000 in
theorem gX5_follow_X5_rememberColumns : GoodIn wsX5_follow (wsV RX5 56 RX5 yX5_rememberColumns wsX5_rememberColumns) := goodIn_app (goodIn_of _ (by decide +kernel)) ggX5_follow_X5_rememberColumns
set_option maxRecDepth 20000 in
theorem ggX5_follow_X0_choose : GoodIn wsX5_follow wsX0_choose := goodIn_r _ [35, 36, 120, 121] (by decide +kernel) (by decide +kernel)
set_option maxRecDepth 20000 in
theorem gX5_follow_X0_choose : GoodIn wsX5_follow (wsV RX5 43 RX0 yX0_choose wsX0_choose) := goodIn_app (goodIn_of _ (by decide +kernel)) ggX5_follow_X0_choose
set_option maxRecDepth 20000 in
theorem ggX5_follow_X0_lay : GoodIn wsX5_follow wsX0_lay := goodIn_r _ [40, 41, 42, 43, 44, 45, 46, 47, 48, 34, 49, 50, 51, 52, 36, 53, 54, 55, 56, 57, 58, 59, 60, 61, 62, 63, 64, 65, 66, 67, 68, 69, 70, 71, 72, 73, 74, 75, 112, 113, 120, 121, 114, 115, 116, 117, 118, 119, 122, 123, 124, 125, 126, 127, 128, 129, 130, 131, 132, 133, 134, 135] (by decide +kernel) (by decide +kernel)
set_option maxRecDepth 20000 in
theorem gX5_follow_X0_lay : GoodIn wsX5_follow (wsV RX5 93 RX0 yX0_lay wsX0_lay) := goodIn_app (goodIn_of _ (by decide +kernel)) ggX5_follow_X0_lay
set_option maxRecDepth 20000 in
theorem ggX5_follow_X5_movedBut : GoodIn wsX5_follow wsX5_movedBut := goodIn_r _ [104, 3, 10, 11, 100, 1, 95, 105, 106, 107, 108, 109, 110, 111, 112, 113, 114, 115, 116, 117, 118, 119, 120, 121] (by decide +kernel) (by decide +kernel)
set_option maxRecDepth 20000 in
theorem gX5_follow_X5_movedBut : GoodIn wsX5_follow (wsV RX5 66 RX5 yX5_movedBut wsX5_movedBut) := goodIn_app (goodIn_of _ (by decide +kernel)) ggX5_follow_X5_movedBut
theorem dX5_follow_0 : decode cX5_follow 0 = .ok (.aload_n 0, 1) := by decide +kernel
theorem dX5_follow_1 : decode cX5_follow 1 = .ok (.invokevirtual 162, 3) := by decide +kernel
theorem dX5_follow_4 : decode cX5_follow 4 = .ok (.ifCond .ne 6, 3) := by decide +kernel
theorem dX5_follow_7 : decode cX5_follow 7 = .ok (.bipush (-3), 2) := by decide +kernel
theorem dX5_follow_9 : decode cX5_follow 9 = .ok (.ireturn, 1) := by decide +kernel
theorem dX5_follow_10 : decode cX5_follow 10 = .ok (.aload_n 0, 1) := by decide +kernel
theorem dX5_follow_11 : decode cX5_follow 11 = .ok (.invokevirtual 165, 3) := by decide +kernel
theorem dX5_follow_14 : decode cX5_follow 14 = .ok (.aload_n 0, 1) := by decide +kernel
theorem dX5_follow_15 : decode cX5_follow 15 = .ok (.invokevirtual 56, 3) := by decide +kernel
theorem dX5_follow_18 : decode cX5_follow 18 = .ok (.aload_n 0, 1) := by decide +kernel
theorem dX5_follow_19 : decode cX5_follow 19 = .ok (.getfield 26, 3) := by decide +kernel
theorem dX5_follow_22 : decode cX5_follow 22 = .ok (.aload_n 0, 1) := by decide +kernel
theorem dX5_follow_23 : decode cX5_follow 23 = .ok (.getfield 33, 3) := by decide +kernel
theorem dX5_follow_26 : decode cX5_follow 26 = .ok (.iconst 0, 1) := by decide +kernel
theorem dX5_follow_27 : decode cX5_follow 27 = .ok (.iaload, 1) := by decide +kernel
theorem dX5_follow_28 : decode cX5_follow 28 = .ok (.aload_n 0, 1) := by decide +kernel
theorem dX5_follow_29 : decode cX5_follow 29 = .ok (.getfield 33, 3) := by decide +kernel
theorem dX5_follow_32 : decode cX5_follow 32 = .ok (.iconst 1, 1) := by decide +kernel
theorem dX5_follow_33 : decode cX5_follow 33 = .ok (.iaload, 1) := by decide +kernel
theorem dX5_follow_34 : decode cX5_follow 34 = .ok (.aload_n 0, 1) := by decide +kernel
theorem dX5_follow_35 : decode cX5_follow 35 = .ok (.getfield 33, 3) := by decide +kernel
theorem dX5_follow_38 : decode cX5_follow 38 = .ok (.iconst 2, 1) := by decide +kernel
theorem dX5_follow_39 : decode cX5_follow 39 = .ok (.iaload, 1) := by decide +kernel
theorem dX5_follow_40 : decode cX5_follow 40 = .ok (.aload_n 0, 1) := by decide +kernel
theorem dX5_follow_41 : decode cX5_follow 41 = .ok (.getfield 33, 3) := by decide +kernel
theorem dX5_follow_44 : decode cX5_follow 44 = .ok (.iconst 3, 1) := by decide +kernel
theorem dX5_follow_45 : decode cX5_follow 45 = .ok (.iaload, 1) := by decide +kernel
theorem dX5_follow_46 : decode cX5_follow 46 = .ok (.invokevirtual 43, 3) := by decide +kernel
theorem dX5_follow_49 : decode cX5_follow 49 = .ok (.aload_n 0, 1) := by decide +kernel
theorem dX5_follow_50 : decode cX5_follow 50 = .ok (.getfield 26, 3) := by decide +kernel
theorem dX5_follow_53 : decode cX5_follow 53 = .ok (.aload_n 0, 1) := by decide +kernel
theorem dX5_follow_54 : decode cX5_follow 54 = .ok (.getfield 12, 3) := by decide +kernel
theorem dX5_follow_57 : decode cX5_follow 57 = .ok (.aload_n 0, 1) := by decide +kernel
theorem dX5_follow_58 : decode cX5_follow 58 = .ok (.getfield 19, 3) := by decide +kernel
theorem dX5_follow_61 : decode cX5_follow 61 = .ok (.invokevirtual 93, 3) := by decide +kernel
theorem dX5_follow_64 : decode cX5_follow 64 = .ok (.aload_n 0, 1) := by decide +kernel
theorem dX5_follow_65 : decode cX5_follow 65 = .ok (.bipush (-9), 2) := by decide +kernel
theorem dX5_follow_67 : decode cX5_follow 67 = .ok (.invokevirtual 66, 3) := by decide +kernel
theorem dX5_follow_70 : decode cX5_follow 70 = .ok (.ireturn, 1) := by decide +kernel
set_option maxRecDepth 20000 in
theorem ggX5_pocket_X5_isPocket : GoodIn wsX5_pocket wsX5_isPocket := goodIn_r _ [5] (by decide +kernel) (by decide +kernel)
set_option maxRecDepth 20000 in
theorem gX5_pocket_X5_isPocket : GoodIn wsX5_pocket (va_wsS RX5 171 yX5_isPocket wsX5_isPocket) := goodIn_app (goodIn_of _ (by decide +kernel)) ggX5_pocket_X5_isPocket
set_option maxRecDepth 20000 in
theorem ggX5_pocket_X3_renew : GoodIn wsX5_pocket wsX3_renew := goodIn_r _ [10, 11, 12, 13, 14, 15, 9, 16, 17, 18, 19, 27, 28, 29, 30, 31] (by decide +kernel) (by decide +kernel)
set_option maxRecDepth 20000 in
theorem gX5_pocket_X3_renew : GoodIn wsX5_pocket (wsV RX5 174 RX3 yX3_renew wsX3_renew) := goodIn_app (goodIn_of _ (by decide +kernel)) ggX5_pocket_X3_renew
theorem dX5_pocket_0 : decode cX5_pocket 0 = .ok (.iload_n 1, 1) := by decide +kernel
theorem dX5_pocket_1 : decode cX5_pocket 1 = .ok (.invokestatic 171, 3) := by decide +kernel
theorem dX5_pocket_4 : decode cX5_pocket 4 = .ok (.ifCond .ne 5, 3) := by decide +kernel
theorem dX5_pocket_7 : decode cX5_pocket 7 = .ok (.iconst (-1), 1) := by decide +kernel
theorem dX5_pocket_8 : decode cX5_pocket 8 = .ok (.ireturn, 1) := by decide +kernel
theorem dX5_pocket_9 : decode cX5_pocket 9 = .ok (.iload_n 2, 1) := by decide +kernel
theorem dX5_pocket_10 : decode cX5_pocket 10 = .ok (.ifCond .lt 19, 3) := by decide +kernel
theorem dX5_pocket_13 : decode cX5_pocket 13 = .ok (.iload_n 2, 1) := by decide +kernel
theorem dX5_pocket_14 : decode cX5_pocket 14 = .ok (.iconst 3, 1) := by decide +kernel
theorem dX5_pocket_15 : decode cX5_pocket 15 = .ok (.if_icmp .gt 14, 3) := by decide +kernel
theorem dX5_pocket_18 : decode cX5_pocket 18 = .ok (.iload_n 3, 1) := by decide +kernel
theorem dX5_pocket_19 : decode cX5_pocket 19 = .ok (.iconst 1, 1) := by decide +kernel
theorem dX5_pocket_20 : decode cX5_pocket 20 = .ok (.if_icmp .lt 9, 3) := by decide +kernel
theorem dX5_pocket_23 : decode cX5_pocket 23 = .ok (.iload_n 3, 1) := by decide +kernel
theorem dX5_pocket_24 : decode cX5_pocket 24 = .ok (.bipush 6, 2) := by decide +kernel
theorem dX5_pocket_26 : decode cX5_pocket 26 = .ok (.if_icmp .le 6, 3) := by decide +kernel
theorem dX5_pocket_29 : decode cX5_pocket 29 = .ok (.bipush (-2), 2) := by decide +kernel
theorem dX5_pocket_31 : decode cX5_pocket 31 = .ok (.ireturn, 1) := by decide +kernel
theorem dX5_pocket_32 : decode cX5_pocket 32 = .ok (.aload_n 0, 1) := by decide +kernel
theorem dX5_pocket_33 : decode cX5_pocket 33 = .ok (.getfield 39, 3) := by decide +kernel
theorem dX5_pocket_36 : decode cX5_pocket 36 = .ok (.iload_n 1, 1) := by decide +kernel
theorem dX5_pocket_37 : decode cX5_pocket 37 = .ok (.aaload, 1) := by decide +kernel
theorem dX5_pocket_38 : decode cX5_pocket 38 = .ok (.iload_n 2, 1) := by decide +kernel
theorem dX5_pocket_39 : decode cX5_pocket 39 = .ok (.iload_n 3, 1) := by decide +kernel
theorem dX5_pocket_40 : decode cX5_pocket 40 = .ok (.invokevirtual 174, 3) := by decide +kernel
theorem dX5_pocket_43 : decode cX5_pocket 43 = .ok (.iconst 1, 1) := by decide +kernel
theorem dX5_pocket_44 : decode cX5_pocket 44 = .ok (.ireturn, 1) := by decide +kernel
set_option maxRecDepth 20000 in
theorem ggX5_store_X5_isPocket : GoodIn wsX5_store wsX5_isPocket := goodIn_r _ [9] (by decide +kernel) (by decide +kernel)
set_option maxRecDepth 20000 in
theorem gX5_store_X5_isPocket : GoodIn wsX5_store (va_wsS RX5 171 yX5_isPocket wsX5_isPocket) := goodIn_app (goodIn_of _ (by decide +kernel)) ggX5_store_X5_isPocket
set_option maxRecDepth 20000 in
theorem ggX5_store_X5_isOpener : GoodIn wsX5_store wsX5_isOpener := goodIn_r _ [13, 4, 14, 52, 53, 54, 55, 56, 57, 58, 64, 65, 66, 67, 68, 69, 70, 71, 72, 73, 74, 75, 76, 77] (by decide +kernel) (by decide +kernel)
set_option maxRecDepth 20000 in
theorem gX5_store_X5_isOpener : GoodIn wsX5_store (wsV RX5 118 RX5 yX5_isOpener wsX5_isOpener) := goodIn_app (goodIn_of _ (by decide +kernel)) ggX5_store_X5_isOpener
set_option maxRecDepth 20000 in
theorem ggX5_store_X3_hasCell : GoodIn wsX5_store wsX3_hasCell := goodIn_r _ [19, 20, 59, 60, 61, 62, 63] (by decide +kernel) (by decide +kernel)
set_option maxRecDepth 20000 in
theorem gX5_store_X3_hasCell : GoodIn wsX5_store (wsV RX5 178 RX3 yX3_hasCell wsX3_hasCell) := goodIn_app (goodIn_of _ (by decide +kernel)) ggX5_store_X3_hasCell
set_option maxRecDepth 20000 in
theorem ggX5_store_X0_kindOf : GoodIn wsX5_store wsX0_kindOf := goodIn_r _ [25, 26, 27, 28, 29, 24, 30, 31, 32, 64, 65, 66, 67, 68, 69, 70, 71, 72, 73, 74, 75, 76, 77, 78, 79] (by decide +kernel) (by decide +kernel)
set_option maxRecDepth 20000 in
theorem gX5_store_X0_kindOf : GoodIn wsX5_store (wsV RX5 134 RX0 yX0_kindOf wsX0_kindOf) := goodIn_app (goodIn_of _ (by decide +kernel)) ggX5_store_X0_kindOf
set_option maxRecDepth 20000 in
theorem ggX5_store_X3_takes : GoodIn wsX5_store wsX3_takes := goodIn_r _ [36, 37, 59, 60, 61, 62, 63] (by decide +kernel) (by decide +kernel)
set_option maxRecDepth 20000 in
theorem gX5_store_X3_takes : GoodIn wsX5_store (wsV RX5 181 RX3 yX3_takes wsX3_takes) := goodIn_app (goodIn_of _ (by decide +kernel)) ggX5_store_X3_takes
set_option maxRecDepth 20000 in
theorem ggX5_store_X0_placeOf : GoodIn wsX5_store wsX0_placeOf := goodIn_r _ [41, 42, 43, 44, 78, 79, 64, 65, 66, 67, 68, 69, 70, 71, 72, 73, 74, 75, 76, 77] (by decide +kernel) (by decide +kernel)
set_option maxRecDepth 20000 in
theorem gX5_store_X0_placeOf : GoodIn wsX5_store (wsV RX5 127 RX0 yX0_placeOf wsX0_placeOf) := goodIn_app (goodIn_of _ (by decide +kernel)) ggX5_store_X0_placeOf
set_option maxRecDepth 20000 in
theorem ggX5_store_X3_fill : GoodIn wsX5_store wsX3_fill := goodIn_r _ [48, 49, 50, 51, 59, 60, 61, 62, 63] (by decide +kernel) (by decide +kernel)
set_option maxRecDepth 20000 in
theorem gX5_store_X3_fill : GoodIn wsX5_store (wsV RX5 184 RX3 yX3_fill wsX3_fill) := goodIn_app (goodIn_of _ (by decide +kernel)) ggX5_store_X3_fill
theorem dX5_store_0 : decode cX5_store 0 = .ok (.iload_n 1, 1) := by decide +kernel
theorem dX5_store_1 : decode cX5_store 1 = .ok (.invokestatic 171, 3) := by decide +kernel
theorem dX5_store_4 : decode cX5_store 4 = .ok (.ifCond .eq 11, 3) := by decide +kernel
theorem dX5_store_7 : decode cX5_store 7 = .ok (.aload_n 0, 1) := by decide +kernel
theorem dX5_store_8 : decode cX5_store 8 = .ok (.iload_n 3, 1) := by decide +kernel
theorem dX5_store_9 : decode cX5_store 9 = .ok (.invokevirtual 118, 3) := by decide +kernel
theorem dX5_store_12 : decode cX5_store 12 = .ok (.ifCond .ne 5, 3) := by decide +kernel
theorem dX5_store_15 : decode cX5_store 15 = .ok (.iconst (-1), 1) := by decide +kernel
theorem dX5_store_16 : decode cX5_store 16 = .ok (.ireturn, 1) := by decide +kernel
theorem dX5_store_17 : decode cX5_store 17 = .ok (.aload_n 0, 1) := by decide +kernel
theorem dX5_store_18 : decode cX5_store 18 = .ok (.getfield 39, 3) := by decide +kernel
theorem dX5_store_21 : decode cX5_store 21 = .ok (.iload_n 1, 1) := by decide +kernel
theorem dX5_store_22 : decode cX5_store 22 = .ok (.aaload, 1) := by decide +kernel
theorem dX5_store_23 : decode cX5_store 23 = .ok (.astore 4, 2) := by decide +kernel
theorem dX5_store_25 : decode cX5_store 25 = .ok (.aload 4, 2) := by decide +kernel
theorem dX5_store_27 : decode cX5_store 27 = .ok (.getfield 177, 3) := by decide +kernel
theorem dX5_store_30 : decode cX5_store 30 = .ok (.ifCond .ne 6, 3) := by decide +kernel
theorem dX5_store_33 : decode cX5_store 33 = .ok (.bipush (-3), 2) := by decide +kernel
theorem dX5_store_35 : decode cX5_store 35 = .ok (.ireturn, 1) := by decide +kernel
theorem dX5_store_36 : decode cX5_store 36 = .ok (.aload 4, 2) := by decide +kernel
theorem dX5_store_38 : decode cX5_store 38 = .ok (.iload_n 2, 1) := by decide +kernel
theorem dX5_store_39 : decode cX5_store 39 = .ok (.invokevirtual 178, 3) := by decide +kernel
theorem dX5_store_42 : decode cX5_store 42 = .ok (.ifCond .ne 6, 3) := by decide +kernel
theorem dX5_store_45 : decode cX5_store 45 = .ok (.bipush (-13), 2) := by decide +kernel
theorem dX5_store_47 : decode cX5_store 47 = .ok (.ireturn, 1) := by decide +kernel
theorem dX5_store_48 : decode cX5_store 48 = .ok (.aload_n 0, 1) := by decide +kernel
theorem dX5_store_49 : decode cX5_store 49 = .ok (.getfield 26, 3) := by decide +kernel
theorem dX5_store_52 : decode cX5_store 52 = .ok (.aload_n 0, 1) := by decide +kernel
theorem dX5_store_53 : decode cX5_store 53 = .ok (.getfield 19, 3) := by decide +kernel
theorem dX5_store_56 : decode cX5_store 56 = .ok (.iload_n 3, 1) := by decide +kernel
theorem dX5_store_57 : decode cX5_store 57 = .ok (.invokevirtual 134, 3) := by decide +kernel
theorem dX5_store_60 : decode cX5_store 60 = .ok (.istore 5, 2) := by decide +kernel
theorem dX5_store_62 : decode cX5_store 62 = .ok (.aload 4, 2) := by decide +kernel
theorem dX5_store_64 : decode cX5_store 64 = .ok (.iload 5, 2) := by decide +kernel
theorem dX5_store_66 : decode cX5_store 66 = .ok (.invokevirtual 181, 3) := by decide +kernel
theorem dX5_store_69 : decode cX5_store 69 = .ok (.ifCond .ne 6, 3) := by decide +kernel
theorem dX5_store_72 : decode cX5_store 72 = .ok (.bipush (-11), 2) := by decide +kernel
theorem dX5_store_74 : decode cX5_store 74 = .ok (.ireturn, 1) := by decide +kernel
theorem dX5_store_75 : decode cX5_store 75 = .ok (.aload 4, 2) := by decide +kernel
theorem dX5_store_77 : decode cX5_store 77 = .ok (.iload_n 2, 1) := by decide +kernel
theorem dX5_store_78 : decode cX5_store 78 = .ok (.aload_n 0, 1) := by decide +kernel
theorem dX5_store_79 : decode cX5_store 79 = .ok (.getfield 19, 3) := by decide +kernel
theorem dX5_store_82 : decode cX5_store 82 = .ok (.getfield 121, 3) := by decide +kernel
theorem dX5_store_85 : decode cX5_store 85 = .ok (.iload_n 3, 1) := by decide +kernel
theorem dX5_store_86 : decode cX5_store 86 = .ok (.iaload, 1) := by decide +kernel
theorem dX5_store_87 : decode cX5_store 87 = .ok (.aload_n 0, 1) := by decide +kernel
theorem dX5_store_88 : decode cX5_store 88 = .ok (.getfield 26, 3) := by decide +kernel
theorem dX5_store_91 : decode cX5_store 91 = .ok (.aload_n 0, 1) := by decide +kernel
theorem dX5_store_92 : decode cX5_store 92 = .ok (.getfield 19, 3) := by decide +kernel
theorem dX5_store_95 : decode cX5_store 95 = .ok (.iload_n 3, 1) := by decide +kernel
theorem dX5_store_96 : decode cX5_store 96 = .ok (.invokevirtual 127, 3) := by decide +kernel
theorem dX5_store_99 : decode cX5_store 99 = .ok (.iload 5, 2) := by decide +kernel
theorem dX5_store_101 : decode cX5_store 101 = .ok (.invokevirtual 184, 3) := by decide +kernel
theorem dX5_store_104 : decode cX5_store 104 = .ok (.iconst 1, 1) := by decide +kernel
theorem dX5_store_105 : decode cX5_store 105 = .ok (.ireturn, 1) := by decide +kernel
set_option maxRecDepth 20000 in
theorem ggX5_copy_X5_isPocket : GoodIn wsX5_copy wsX5_isPocket := goodIn_r _ [6] (by decide +kernel) (by decide +kernel)
set_option maxRecDepth 20000 in
theorem gX5_copy_X5_isPocket : GoodIn wsX5_copy (va_wsS RX5 171 yX5_isPocket wsX5_isPocket) := goodIn_app (goodIn_of _ (by decide +kernel)) ggX5_copy_X5_isPocket
set_option maxRecDepth 20000 in
theorem ggX5_copy_X3_becomeLike : GoodIn wsX5_copy wsX3_becomeLike := goodIn_r _ [11, 12, 13, 14, 15, 16, 17, 18, 19, 10, 20, 28, 29, 30, 31, 32] (by decide +kernel) (by decide +kernel)
set_option maxRecDepth 20000 in
theorem gX5_copy_X3_becomeLike : GoodIn wsX5_copy (wsV RX5 187 RX3 yX3_becomeLike wsX3_becomeLike) := goodIn_app (goodIn_of _ (by decide +kernel)) ggX5_copy_X3_becomeLike
theorem dX5_copy_0 : decode cX5_copy 0 = .ok (.iload_n 1, 1) := by decide +kernel
theorem dX5_copy_1 : decode cX5_copy 1 = .ok (.invokestatic 171, 3) := by decide +kernel
theorem dX5_copy_4 : decode cX5_copy 4 = .ok (.ifCond .eq 10, 3) := by decide +kernel
theorem dX5_copy_7 : decode cX5_copy 7 = .ok (.iload_n 2, 1) := by decide +kernel
theorem dX5_copy_8 : decode cX5_copy 8 = .ok (.invokestatic 171, 3) := by decide +kernel
theorem dX5_copy_11 : decode cX5_copy 11 = .ok (.ifCond .ne 5, 3) := by decide +kernel
theorem dX5_copy_14 : decode cX5_copy 14 = .ok (.iconst (-1), 1) := by decide +kernel
theorem dX5_copy_15 : decode cX5_copy 15 = .ok (.ireturn, 1) := by decide +kernel
theorem dX5_copy_16 : decode cX5_copy 16 = .ok (.aload_n 0, 1) := by decide +kernel
theorem dX5_copy_17 : decode cX5_copy 17 = .ok (.getfield 39, 3) := by decide +kernel
theorem dX5_copy_20 : decode cX5_copy 20 = .ok (.iload_n 1, 1) := by decide +kernel
theorem dX5_copy_21 : decode cX5_copy 21 = .ok (.aaload, 1) := by decide +kernel
theorem dX5_copy_22 : decode cX5_copy 22 = .ok (.getfield 177, 3) := by decide +kernel
theorem dX5_copy_25 : decode cX5_copy 25 = .ok (.ifCond .ne 6, 3) := by decide +kernel
theorem dX5_copy_28 : decode cX5_copy 28 = .ok (.bipush (-3), 2) := by decide +kernel
theorem dX5_copy_30 : decode cX5_copy 30 = .ok (.ireturn, 1) := by decide +kernel
theorem dX5_copy_31 : decode cX5_copy 31 = .ok (.aload_n 0, 1) := by decide +kernel
theorem dX5_copy_32 : decode cX5_copy 32 = .ok (.getfield 39, 3) := by decide +kernel
theorem dX5_copy_35 : decode cX5_copy 35 = .ok (.iload_n 2, 1) := by decide +kernel
theorem dX5_copy_36 : decode cX5_copy 36 = .ok (.aaload, 1) := by decide +kernel
theorem dX5_copy_37 : decode cX5_copy 37 = .ok (.aload_n 0, 1) := by decide +kernel
theorem dX5_copy_38 : decode cX5_copy 38 = .ok (.getfield 39, 3) := by decide +kernel
theorem dX5_copy_41 : decode cX5_copy 41 = .ok (.iload_n 1, 1) := by decide +kernel
theorem dX5_copy_42 : decode cX5_copy 42 = .ok (.aaload, 1) := by decide +kernel
theorem dX5_copy_43 : decode cX5_copy 43 = .ok (.invokevirtual 187, 3) := by decide +kernel
theorem dX5_copy_46 : decode cX5_copy 46 = .ok (.iconst 1, 1) := by decide +kernel
theorem dX5_copy_47 : decode cX5_copy 47 = .ok (.ireturn, 1) := by decide +kernel
set_option maxRecDepth 20000 in
theorem ggX5_ofPocket_X5_isPocket : GoodIn wsX5_ofPocket wsX5_isPocket := goodIn_r _ [6] (by decide +kernel) (by decide +kernel)
set_option maxRecDepth 20000 in
theorem gX5_ofPocket_X5_isPocket : GoodIn wsX5_ofPocket (va_wsS RX5 171 yX5_isPocket wsX5_isPocket) := goodIn_app (goodIn_of _ (by decide +kernel)) ggX5_ofPocket_X5_isPocket
set_option maxRecDepth 20000 in
theorem ggX5_ofPocket_X3_hasCell : GoodIn wsX5_ofPocket wsX3_hasCell := goodIn_r _ [11, 12, 27, 28, 29, 30, 31] (by decide +kernel) (by decide +kernel)
set_option maxRecDepth 20000 in
theorem gX5_ofPocket_X3_hasCell : GoodIn wsX5_ofPocket (wsV RX5 178 RX3 yX3_hasCell wsX3_hasCell) := goodIn_app (goodIn_of _ (by decide +kernel)) ggX5_ofPocket_X3_hasCell
set_option maxRecDepth 20000 in
theorem ggX5_ofPocket_X3_tell : GoodIn wsX5_ofPocket wsX3_tell := goodIn_r _ [16, 17, 18, 19, 27, 28, 29, 30, 31] (by decide +kernel) (by decide +kernel)
set_option maxRecDepth 20000 in
theorem gX5_ofPocket_X3_tell : GoodIn wsX5_ofPocket (wsV RX5 191 RX3 yX3_tell wsX3_tell) := goodIn_app (goodIn_of _ (by decide +kernel)) ggX5_ofPocket_X3_tell
theorem dX5_ofPocket_0 : decode cX5_ofPocket 0 = .ok (.iload_n 1, 1) := by decide +kernel
theorem dX5_ofPocket_1 : decode cX5_ofPocket 1 = .ok (.invokestatic 171, 3) := by decide +kernel
theorem dX5_ofPocket_4 : decode cX5_ofPocket 4 = .ok (.ifCond .ne 5, 3) := by decide +kernel
theorem dX5_ofPocket_7 : decode cX5_ofPocket 7 = .ok (.iconst (-1), 1) := by decide +kernel
theorem dX5_ofPocket_8 : decode cX5_ofPocket 8 = .ok (.ireturn, 1) := by decide +kernel
theorem dX5_ofPocket_9 : decode cX5_ofPocket 9 = .ok (.iload_n 3, 1) := by decide +kernel
theorem dX5_ofPocket_10 : decode cX5_ofPocket 10 = .ok (.ifCond .lt 8, 3) := by decide +kernel
theorem dX5_ofPocket_13 : decode cX5_ofPocket 13 = .ok (.iload_n 3, 1) := by decide +kernel
theorem dX5_ofPocket_14 : decode cX5_ofPocket 14 = .ok (.iconst 2, 1) := by decide +kernel
theorem dX5_ofPocket_15 : decode cX5_ofPocket 15 = .ok (.if_icmp .le 6, 3) := by decide +kernel
theorem dX5_ofPocket_18 : decode cX5_ofPocket 18 = .ok (.bipush (-2), 2) := by decide +kernel
theorem dX5_ofPocket_20 : decode cX5_ofPocket 20 = .ok (.ireturn, 1) := by decide +kernel
theorem dX5_ofPocket_21 : decode cX5_ofPocket 21 = .ok (.aload_n 0, 1) := by decide +kernel
theorem dX5_ofPocket_22 : decode cX5_ofPocket 22 = .ok (.getfield 39, 3) := by decide +kernel
theorem dX5_ofPocket_25 : decode cX5_ofPocket 25 = .ok (.iload_n 1, 1) := by decide +kernel
theorem dX5_ofPocket_26 : decode cX5_ofPocket 26 = .ok (.aaload, 1) := by decide +kernel
theorem dX5_ofPocket_27 : decode cX5_ofPocket 27 = .ok (.astore 4, 2) := by decide +kernel
theorem dX5_ofPocket_29 : decode cX5_ofPocket 29 = .ok (.aload 4, 2) := by decide +kernel
theorem dX5_ofPocket_31 : decode cX5_ofPocket 31 = .ok (.getfield 177, 3) := by decide +kernel
theorem dX5_ofPocket_34 : decode cX5_ofPocket 34 = .ok (.ifCond .ne 6, 3) := by decide +kernel
theorem dX5_ofPocket_37 : decode cX5_ofPocket 37 = .ok (.bipush (-3), 2) := by decide +kernel
theorem dX5_ofPocket_39 : decode cX5_ofPocket 39 = .ok (.ireturn, 1) := by decide +kernel
theorem dX5_ofPocket_40 : decode cX5_ofPocket 40 = .ok (.aload 4, 2) := by decide +kernel
theorem dX5_ofPocket_42 : decode cX5_ofPocket 42 = .ok (.iload_n 2, 1) := by decide +kernel
theorem dX5_ofPocket_43 : decode cX5_ofPocket 43 = .ok (.invokevirtual 178, 3) := by decide +kernel
theorem dX5_ofPocket_46 : decode cX5_ofPocket 46 = .ok (.ifCond .ne 6, 3) := by decide +kernel
theorem dX5_ofPocket_49 : decode cX5_ofPocket 49 = .ok (.bipush (-13), 2) := by decide +kernel
theorem dX5_ofPocket_51 : decode cX5_ofPocket 51 = .ok (.ireturn, 1) := by decide +kernel
theorem dX5_ofPocket_52 : decode cX5_ofPocket 52 = .ok (.aload 4, 2) := by decide +kernel
theorem dX5_ofPocket_54 : decode cX5_ofPocket 54 = .ok (.iload_n 2, 1) := by decide +kernel
theorem dX5_ofPocket_55 : decode cX5_ofPocket 55 = .ok (.iload_n 3, 1) := by decide +kernel
theorem dX5_ofPocket_56 : decode cX5_ofPocket 56 = .ok (.invokevirtual 191, 3) := by decide +kernel
theorem dX5_ofPocket_59 : decode cX5_ofPocket 59 = .ok (.ireturn, 1) := by decide +kernel
set_option maxRecDepth 20000 in
theorem ggX5_many_X2_withoutPartner : GoodIn wsX5_many wsX2_withoutPartner := goodIn_r _ [9, 10, 11, 38, 39, 40, 41, 42, 43, 44, 45, 46, 47, 48, 49, 50, 51] (by decide +kernel) (by decide +kernel)
set_option maxRecDepth 20000 in
theorem gX5_many_X2_withoutPartner : GoodIn wsX5_many (wsV RX5 198 RX2 yX2_withoutPartner wsX2_withoutPartner) := goodIn_app (goodIn_of _ (by decide +kernel)) ggX5_many_X2_withoutPartner
set_option maxRecDepth 20000 in
theorem ggX5_many_X5_allStrays : GoodIn wsX5_many wsX5_allStrays := goodIn_r _ [16, 1, 2, 3, 17, 29, 30, 31, 32, 33, 34, 35, 36, 37, 38, 39, 40, 41, 42, 43, 44, 45, 46, 47, 48, 49, 50, 51] (by decide +kernel) (by decide +kernel)
set_option maxRecDepth 20000 in
theorem gX5_many_X5_allStrays : GoodIn wsX5_many (wsV RX5 201 RX5 yX5_allStrays wsX5_allStrays) := goodIn_app (goodIn_of _ (by decide +kernel)) ggX5_many_X5_allStrays
set_option maxRecDepth 20000 in
theorem ggX5_many_X5_seenLines : GoodIn wsX5_many wsX5_seenLines := goodIn_r _ [21, 1, 2, 22, 23, 29, 30, 31, 32, 33, 34, 35, 36, 37, 52, 53, 54, 55, 56, 57] (by decide +kernel) (by decide +kernel)
set_option maxRecDepth 20000 in
theorem gX5_many_X5_seenLines : GoodIn wsX5_many (wsV RX5 204 RX5 yX5_seenLines wsX5_seenLines) := goodIn_app (goodIn_of _ (by decide +kernel)) ggX5_many_X5_seenLines
set_option maxRecDepth 20000 in
theorem ggX5_many_X5_allTokens : GoodIn wsX5_many wsX5_allTokens := goodIn_r _ [27, 1, 2, 22, 28, 29, 30, 31, 32, 33, 34, 35, 36, 37, 52, 53, 54, 55, 56, 57] (by decide +kernel) (by decide +kernel)
set_option maxRecDepth 20000 in
theorem gX5_many_X5_allTokens : GoodIn wsX5_many (wsV RX5 207 RX5 yX5_allTokens wsX5_allTokens) := goodIn_app (goodIn_of _ (by decide +kernel)) ggX5_many_X5_allTokens
theorem dX5_many_0 : decode cX5_many 0 = .ok (.iload_n 1, 1) := by decide +kernel
theorem dX5_many_1 : decode cX5_many 1 = .ok (.tableswitch 78 0 5 #[39, 47, 55, 63, 68, 73], 39) := by decide +kernel
theorem dX5_many_40 : decode cX5_many 40 = .ok (.aload_n 0, 1) := by decide +kernel
theorem dX5_many_41 : decode cX5_many 41 = .ok (.getfield 12, 3) := by decide +kernel
theorem dX5_many_44 : decode cX5_many 44 = .ok (.getfield 48, 3) := by decide +kernel
theorem dX5_many_47 : decode cX5_many 47 = .ok (.ireturn, 1) := by decide +kernel
theorem dX5_many_48 : decode cX5_many 48 = .ok (.aload_n 0, 1) := by decide +kernel
theorem dX5_many_49 : decode cX5_many 49 = .ok (.getfield 19, 3) := by decide +kernel
theorem dX5_many_52 : decode cX5_many 52 = .ok (.getfield 195, 3) := by decide +kernel
theorem dX5_many_55 : decode cX5_many 55 = .ok (.ireturn, 1) := by decide +kernel
theorem dX5_many_56 : decode cX5_many 56 = .ok (.aload_n 0, 1) := by decide +kernel
theorem dX5_many_57 : decode cX5_many 57 = .ok (.getfield 19, 3) := by decide +kernel
theorem dX5_many_60 : decode cX5_many 60 = .ok (.invokevirtual 198, 3) := by decide +kernel
theorem dX5_many_63 : decode cX5_many 63 = .ok (.ireturn, 1) := by decide +kernel
theorem dX5_many_64 : decode cX5_many 64 = .ok (.aload_n 0, 1) := by decide +kernel
theorem dX5_many_65 : decode cX5_many 65 = .ok (.invokevirtual 201, 3) := by decide +kernel
theorem dX5_many_68 : decode cX5_many 68 = .ok (.ireturn, 1) := by decide +kernel
theorem dX5_many_69 : decode cX5_many 69 = .ok (.aload_n 0, 1) := by decide +kernel
theorem dX5_many_70 : decode cX5_many 70 = .ok (.invokevirtual 204, 3) := by decide +kernel
theorem dX5_many_73 : decode cX5_many 73 = .ok (.ireturn, 1) := by decide +kernel
theorem dX5_many_74 : decode cX5_many 74 = .ok (.aload_n 0, 1) := by decide +kernel
theorem dX5_many_75 : decode cX5_many 75 = .ok (.invokevirtual 207, 3) := by decide +kernel
theorem dX5_many_78 : decode cX5_many 78 = .ok (.ireturn, 1) := by decide +kernel
theorem dX5_many_79 : decode cX5_many 79 = .ok (.bipush (-2), 2) := by decide +kernel
theorem dX5_many_81 : decode cX5_many 81 = .ok (.ireturn, 1) := by decide +kernel
theorem dX5_isLine_0 : decode cX5_isLine 0 = .ok (.iload_n 1, 1) := by decide +kernel
theorem dX5_isLine_1 : decode cX5_isLine 1 = .ok (.ifCond .lt 18, 3) := by decide +kernel
theorem dX5_isLine_4 : decode cX5_isLine 4 = .ok (.iload_n 1, 1) := by decide +kernel
theorem dX5_isLine_5 : decode cX5_isLine 5 = .ok (.aload_n 0, 1) := by decide +kernel
theorem dX5_isLine_6 : decode cX5_isLine 6 = .ok (.getfield 12, 3) := by decide +kernel
theorem dX5_isLine_9 : decode cX5_isLine 9 = .ok (.getfield 48, 3) := by decide +kernel
theorem dX5_isLine_12 : decode cX5_isLine 12 = .ok (.if_icmp .ge 7, 3) := by decide +kernel
theorem dX5_isLine_15 : decode cX5_isLine 15 = .ok (.iconst 1, 1) := by decide +kernel
theorem dX5_isLine_16 : decode cX5_isLine 16 = .ok (.goto 4, 3) := by decide +kernel
theorem dX5_isLine_19 : decode cX5_isLine 19 = .ok (.iconst 0, 1) := by decide +kernel
theorem dX5_isLine_20 : decode cX5_isLine 20 = .ok (.ireturn, 1) := by decide +kernel
theorem dX5_isOpener_0 : decode cX5_isOpener 0 = .ok (.iload_n 1, 1) := by decide +kernel
theorem dX5_isOpener_1 : decode cX5_isOpener 1 = .ok (.ifCond .lt 18, 3) := by decide +kernel
theorem dX5_isOpener_4 : decode cX5_isOpener 4 = .ok (.iload_n 1, 1) := by decide +kernel
theorem dX5_isOpener_5 : decode cX5_isOpener 5 = .ok (.aload_n 0, 1) := by decide +kernel
theorem dX5_isOpener_6 : decode cX5_isOpener 6 = .ok (.getfield 19, 3) := by decide +kernel
theorem dX5_isOpener_9 : decode cX5_isOpener 9 = .ok (.getfield 195, 3) := by decide +kernel
theorem dX5_isOpener_12 : decode cX5_isOpener 12 = .ok (.if_icmp .ge 7, 3) := by decide +kernel
theorem dX5_isOpener_15 : decode cX5_isOpener 15 = .ok (.iconst 1, 1) := by decide +kernel
theorem dX5_isOpener_16 : decode cX5_isOpener 16 = .ok (.goto 4, 3) := by decide +kernel
theorem dX5_isOpener_19 : decode cX5_isOpener 19 = .ok (.iconst 0, 1) := by decide +kernel
theorem dX5_isOpener_20 : decode cX5_isOpener 20 = .ok (.ireturn, 1) := by decide +kernel
theorem dX5_isPocket_0 : decode cX5_isPocket 0 = .ok (.iload_n 0, 1) := by decide +kernel
theorem dX5_isPocket_1 : decode cX5_isPocket 1 = .ok (.ifCond .lt 12, 3) := by decide +kernel
theorem dX5_isPocket_4 : decode cX5_isPocket 4 = .ok (.iload_n 0, 1) := by decide +kernel
theorem dX5_isPocket_5 : decode cX5_isPocket 5 = .ok (.iconst 3, 1) := by decide +kernel
theorem dX5_isPocket_6 : decode cX5_isPocket 6 = .ok (.if_icmp .ge 7, 3) := by decide +kernel
theorem dX5_isPocket_9 : decode cX5_isPocket 9 = .ok (.iconst 1, 1) := by decide +kernel
theorem dX5_isPocket_10 : decode cX5_isPocket 10 = .ok (.goto 4, 3) := by decide +kernel
theorem dX5_isPocket_13 : decode cX5_isPocket 13 = .ok (.iconst 0, 1) := by decide +kernel
theorem dX5_isPocket_14 : decode cX5_isPocket 14 = .ok (.ireturn, 1) := by decide +kernel
theorem dX5_areTokens_0 : decode cX5_areTokens 0 = .ok (.iload_n 0, 1) := by decide +kernel
theorem dX5_areTokens_1 : decode cX5_areTokens 1 = .ok (.ifCond .lt 9, 3) := by decide +kernel
theorem dX5_areTokens_4 : decode cX5_areTokens 4 = .ok (.iload_n 0, 1) := by decide +kernel
theorem dX5_areTokens_5 : decode cX5_areTokens 5 = .ok (.ldc 210, 2) := by decide +kernel
theorem dX5_areTokens_7 : decode cX5_areTokens 7 = .ok (.if_icmp .le 5, 3) := by decide +kernel
theorem dX5_areTokens_10 : decode cX5_areTokens 10 = .ok (.iconst 0, 1) := by decide +kernel
theorem dX5_areTokens_11 : decode cX5_areTokens 11 = .ok (.ireturn, 1) := by decide +kernel
theorem dX5_areTokens_12 : decode cX5_areTokens 12 = .ok (.iload_n 0, 1) := by decide +kernel
theorem dX5_areTokens_13 : decode cX5_areTokens 13 = .ok (.istore_n 1, 1) := by decide +kernel
theorem dX5_areTokens_14 : decode cX5_areTokens 14 = .ok (.iconst 0, 1) := by decide +kernel
theorem dX5_areTokens_15 : decode cX5_areTokens 15 = .ok (.istore_n 2, 1) := by decide +kernel
theorem dX5_areTokens_16 : decode cX5_areTokens 16 = .ok (.iload_n 2, 1) := by decide +kernel
theorem dX5_areTokens_17 : decode cX5_areTokens 17 = .ok (.bipush 9, 2) := by decide +kernel
theorem dX5_areTokens_19 : decode cX5_areTokens 19 = .ok (.if_icmp .ge 27, 3) := by decide +kernel
theorem dX5_areTokens_22 : decode cX5_areTokens 22 = .ok (.iload_n 1, 1) := by decide +kernel
theorem dX5_areTokens_23 : decode cX5_areTokens 23 = .ok (.ifCond .le 23, 3) := by decide +kernel
theorem dX5_areTokens_26 : decode cX5_areTokens 26 = .ok (.iload_n 1, 1) := by decide +kernel
theorem dX5_areTokens_27 : decode cX5_areTokens 27 = .ok (.bipush 10, 2) := by decide +kernel
theorem dX5_areTokens_29 : decode cX5_areTokens 29 = .ok (.irem, 1) := by decide +kernel
theorem dX5_areTokens_30 : decode cX5_areTokens 30 = .ok (.ifCond .ne 5, 3) := by decide +kernel
theorem dX5_areTokens_33 : decode cX5_areTokens 33 = .ok (.iconst 0, 1) := by decide +kernel
theorem dX5_areTokens_34 : decode cX5_areTokens 34 = .ok (.ireturn, 1) := by decide +kernel
theorem dX5_areTokens_35 : decode cX5_areTokens 35 = .ok (.iload_n 1, 1) := by decide +kernel
theorem dX5_areTokens_36 : decode cX5_areTokens 36 = .ok (.bipush 10, 2) := by decide +kernel
theorem dX5_areTokens_38 : decode cX5_areTokens 38 = .ok (.idiv, 1) := by decide +kernel
theorem dX5_areTokens_39 : decode cX5_areTokens 39 = .ok (.istore_n 1, 1) := by decide +kernel
theorem dX5_areTokens_40 : decode cX5_areTokens 40 = .ok (.iinc 2 1, 3) := by decide +kernel
theorem dX5_areTokens_43 : decode cX5_areTokens 43 = .ok (.goto (-27), 3) := by decide +kernel
theorem dX5_areTokens_46 : decode cX5_areTokens 46 = .ok (.iconst 1, 1) := by decide +kernel
theorem dX5_areTokens_47 : decode cX5_areTokens 47 = .ok (.ireturn, 1) := by decide +kernel
theorem dX5_isSetting_0 : decode cX5_isSetting 0 = .ok (.iload_n 1, 1) := by decide +kernel
theorem dX5_isSetting_1 : decode cX5_isSetting 1 = .ok (.getstatic 211, 3) := by decide +kernel
theorem dX5_isSetting_4 : decode cX5_isSetting 4 = .ok (.iload_n 0, 1) := by decide +kernel
theorem dX5_isSetting_5 : decode cX5_isSetting 5 = .ok (.iaload, 1) := by decide +kernel
theorem dX5_isSetting_6 : decode cX5_isSetting 6 = .ok (.if_icmp .lt 16, 3) := by decide +kernel
theorem dX5_isSetting_9 : decode cX5_isSetting 9 = .ok (.iload_n 1, 1) := by decide +kernel
theorem dX5_isSetting_10 : decode cX5_isSetting 10 = .ok (.getstatic 214, 3) := by decide +kernel
theorem dX5_isSetting_13 : decode cX5_isSetting 13 = .ok (.iload_n 0, 1) := by decide +kernel
theorem dX5_isSetting_14 : decode cX5_isSetting 14 = .ok (.iaload, 1) := by decide +kernel
theorem dX5_isSetting_15 : decode cX5_isSetting 15 = .ok (.if_icmp .gt 7, 3) := by decide +kernel
theorem dX5_isSetting_18 : decode cX5_isSetting 18 = .ok (.iconst 1, 1) := by decide +kernel
theorem dX5_isSetting_19 : decode cX5_isSetting 19 = .ok (.goto 4, 3) := by decide +kernel
theorem dX5_isSetting_22 : decode cX5_isSetting 22 = .ok (.iconst 0, 1) := by decide +kernel
theorem dX5_isSetting_23 : decode cX5_isSetting 23 = .ok (.ireturn, 1) := by decide +kernel
set_option maxRecDepth 20000 in
theorem ggX5_isStyle_X5_isSetting : GoodIn wsX5_isStyle wsX5_isSetting := goodIn_r _ [4, 5, 6] (by decide +kernel) (by decide +kernel)
set_option maxRecDepth 20000 in
theorem gX5_isStyle_X5_isSetting : GoodIn wsX5_isStyle (va_wsS RX5 86 yX5_isSetting wsX5_isSetting) := goodIn_app (goodIn_of _ (by decide +kernel)) ggX5_isStyle_X5_isSetting
theorem dX5_isStyle_0 : decode cX5_isStyle 0 = .ok (.iconst 0, 1) := by decide +kernel
theorem dX5_isStyle_1 : decode cX5_isStyle 1 = .ok (.iload_n 0, 1) := by decide +kernel
theorem dX5_isStyle_2 : decode cX5_isStyle 2 = .ok (.invokestatic 86, 3) := by decide +kernel
theorem dX5_isStyle_5 : decode cX5_isStyle 5 = .ok (.ifCond .eq 31, 3) := by decide +kernel
theorem dX5_isStyle_8 : decode cX5_isStyle 8 = .ok (.iconst 1, 1) := by decide +kernel
theorem dX5_isStyle_9 : decode cX5_isStyle 9 = .ok (.iload_n 1, 1) := by decide +kernel
theorem dX5_isStyle_10 : decode cX5_isStyle 10 = .ok (.invokestatic 86, 3) := by decide +kernel
theorem dX5_isStyle_13 : decode cX5_isStyle 13 = .ok (.ifCond .eq 23, 3) := by decide +kernel
theorem dX5_isStyle_16 : decode cX5_isStyle 16 = .ok (.iconst 2, 1) := by decide +kernel
theorem dX5_isStyle_17 : decode cX5_isStyle 17 = .ok (.iload_n 2, 1) := by decide +kernel
theorem dX5_isStyle_18 : decode cX5_isStyle 18 = .ok (.invokestatic 86, 3) := by decide +kernel
theorem dX5_isStyle_21 : decode cX5_isStyle 21 = .ok (.ifCond .eq 15, 3) := by decide +kernel
theorem dX5_isStyle_24 : decode cX5_isStyle 24 = .ok (.iconst 3, 1) := by decide +kernel
theorem dX5_isStyle_25 : decode cX5_isStyle 25 = .ok (.iload_n 3, 1) := by decide +kernel
theorem dX5_isStyle_26 : decode cX5_isStyle 26 = .ok (.invokestatic 86, 3) := by decide +kernel
theorem dX5_isStyle_29 : decode cX5_isStyle 29 = .ok (.ifCond .eq 7, 3) := by decide +kernel
theorem dX5_isStyle_32 : decode cX5_isStyle 32 = .ok (.iconst 1, 1) := by decide +kernel
theorem dX5_isStyle_33 : decode cX5_isStyle 33 = .ok (.goto 4, 3) := by decide +kernel
theorem dX5_isStyle_36 : decode cX5_isStyle 36 = .ok (.iconst 0, 1) := by decide +kernel
theorem dX5_isStyle_37 : decode cX5_isStyle 37 = .ok (.ireturn, 1) := by decide +kernel
set_option maxRecDepth 20000 in
theorem ggX5_readLines_X2_read : GoodIn wsX5_readLines wsX2_read := goodIn_r _ [8, 9, 10, 11, 12, 13, 14, 15, 16, 17, 18, 19, 20, 21, 7, 22, 23, 24, 25, 26, 27, 28, 29, 30, 31, 32, 33, 34, 35, 36, 37, 38, 39, 40, 41, 42, 43, 44, 45, 46, 47, 48, 49, 50, 99, 100, 101, 102, 103, 104, 105, 106, 107, 108, 109, 110, 111, 112, 113, 114, 115, 116, 117, 118, 119, 120] (by decide +kernel) (by decide +kernel)
set_option maxRecDepth 20000 in
theorem gX5_readLines_X2_read : GoodIn wsX5_readLines (wsV RX5 217 RX2 yX2_read wsX2_read) := goodIn_app (goodIn_of _ (by decide +kernel)) ggX5_readLines_X2_read
set_option maxRecDepth 20000 in
theorem ggX5_readLines_X0_lay : GoodIn wsX5_readLines wsX0_lay := goodIn_r _ [55, 56, 57, 58, 59, 60, 61, 62, 63, 54, 64, 65, 66, 67, 68, 69, 70, 71, 72, 73, 74, 75, 76, 77, 78, 79, 80, 81, 82, 83, 84, 85, 86, 87, 88, 89, 90, 91, 113, 114, 121, 122, 115, 116, 117, 118, 119, 120, 99, 100, 101, 102, 103, 104, 105, 106, 107, 108, 109, 110, 111, 112] (by decide +kernel) (by decide +kernel)
set_option maxRecDepth 20000 in
theorem gX5_readLines_X0_lay : GoodIn wsX5_readLines (wsV RX5 93 RX0 yX0_lay wsX0_lay) := goodIn_app (goodIn_of _ (by decide +kernel)) ggX5_readLines_X0_lay
theorem dX5_readLines_0 : decode cX5_readLines 0 = .ok (.aload_n 0, 1) := by decide +kernel
theorem dX5_readLines_1 : decode cX5_readLines 1 = .ok (.getfield 19, 3) := by decide +kernel
theorem dX5_readLines_4 : decode cX5_readLines 4 = .ok (.aload_n 0, 1) := by decide +kernel
theorem dX5_readLines_5 : decode cX5_readLines 5 = .ok (.getfield 12, 3) := by decide +kernel
theorem dX5_readLines_8 : decode cX5_readLines 8 = .ok (.invokevirtual 217, 3) := by decide +kernel
theorem dX5_readLines_11 : decode cX5_readLines 11 = .ok (.aload_n 0, 1) := by decide +kernel
theorem dX5_readLines_12 : decode cX5_readLines 12 = .ok (.getfield 26, 3) := by decide +kernel
theorem dX5_readLines_15 : decode cX5_readLines 15 = .ok (.aload_n 0, 1) := by decide +kernel
theorem dX5_readLines_16 : decode cX5_readLines 16 = .ok (.getfield 12, 3) := by decide +kernel
theorem dX5_readLines_19 : decode cX5_readLines 19 = .ok (.aload_n 0, 1) := by decide +kernel
theorem dX5_readLines_20 : decode cX5_readLines 20 = .ok (.getfield 19, 3) := by decide +kernel
theorem dX5_readLines_23 : decode cX5_readLines 23 = .ok (.invokevirtual 93, 3) := by decide +kernel
theorem dX5_readLines_26 : decode cX5_readLines 26 = .ok (.return_, 1) := by decide +kernel
theorem dX5_rememberColumns_0 : decode cX5_rememberColumns 0 = .ok (.iconst 0, 1) := by decide +kernel
theorem dX5_rememberColumns_1 : decode cX5_rememberColumns 1 = .ok (.istore_n 1, 1) := by decide +kernel
theorem dX5_rememberColumns_2 : decode cX5_rememberColumns 2 = .ok (.iload_n 1, 1) := by decide +kernel
theorem dX5_rememberColumns_3 : decode cX5_rememberColumns 3 = .ok (.aload_n 0, 1) := by decide +kernel
theorem dX5_rememberColumns_4 : decode cX5_rememberColumns 4 = .ok (.getfield 12, 3) := by decide +kernel
theorem dX5_rememberColumns_7 : decode cX5_rememberColumns 7 = .ok (.getfield 48, 3) := by decide +kernel
theorem dX5_rememberColumns_10 : decode cX5_rememberColumns 10 = .ok (.if_icmp .ge 30, 3) := by decide +kernel
theorem dX5_rememberColumns_13 : decode cX5_rememberColumns 13 = .ok (.aload_n 0, 1) := by decide +kernel
theorem dX5_rememberColumns_14 : decode cX5_rememberColumns 14 = .ok (.getfield 12, 3) := by decide +kernel
theorem dX5_rememberColumns_17 : decode cX5_rememberColumns 17 = .ok (.getfield 73, 3) := by decide +kernel
theorem dX5_rememberColumns_20 : decode cX5_rememberColumns 20 = .ok (.iload_n 1, 1) := by decide +kernel
theorem dX5_rememberColumns_21 : decode cX5_rememberColumns 21 = .ok (.aaload, 1) := by decide +kernel
theorem dX5_rememberColumns_22 : decode cX5_rememberColumns 22 = .ok (.aload_n 0, 1) := by decide +kernel
theorem dX5_rememberColumns_23 : decode cX5_rememberColumns 23 = .ok (.getfield 26, 3) := by decide +kernel
theorem dX5_rememberColumns_26 : decode cX5_rememberColumns 26 = .ok (.getfield 100, 3) := by decide +kernel
theorem dX5_rememberColumns_29 : decode cX5_rememberColumns 29 = .ok (.iload_n 1, 1) := by decide +kernel
theorem dX5_rememberColumns_30 : decode cX5_rememberColumns 30 = .ok (.iaload, 1) := by decide +kernel
theorem dX5_rememberColumns_31 : decode cX5_rememberColumns 31 = .ok (.putfield 220, 3) := by decide +kernel
theorem dX5_rememberColumns_34 : decode cX5_rememberColumns 34 = .ok (.iinc 1 1, 3) := by decide +kernel
theorem dX5_rememberColumns_37 : decode cX5_rememberColumns 37 = .ok (.goto (-35), 3) := by decide +kernel
theorem dX5_rememberColumns_40 : decode cX5_rememberColumns 40 = .ok (.return_, 1) := by decide +kernel
theorem dX5_movedBut_0 : decode cX5_movedBut 0 = .ok (.iconst 0, 1) := by decide +kernel
theorem dX5_movedBut_1 : decode cX5_movedBut 1 = .ok (.istore_n 2, 1) := by decide +kernel
theorem dX5_movedBut_2 : decode cX5_movedBut 2 = .ok (.iconst 0, 1) := by decide +kernel
theorem dX5_movedBut_3 : decode cX5_movedBut 3 = .ok (.istore_n 3, 1) := by decide +kernel
theorem dX5_movedBut_4 : decode cX5_movedBut 4 = .ok (.iload_n 3, 1) := by decide +kernel
theorem dX5_movedBut_5 : decode cX5_movedBut 5 = .ok (.aload_n 0, 1) := by decide +kernel
theorem dX5_movedBut_6 : decode cX5_movedBut 6 = .ok (.getfield 12, 3) := by decide +kernel
theorem dX5_movedBut_9 : decode cX5_movedBut 9 = .ok (.getfield 48, 3) := by decide +kernel
theorem dX5_movedBut_12 : decode cX5_movedBut 12 = .ok (.if_icmp .ge 41, 3) := by decide +kernel
theorem dX5_movedBut_15 : decode cX5_movedBut 15 = .ok (.iload_n 3, 1) := by decide +kernel
theorem dX5_movedBut_16 : decode cX5_movedBut 16 = .ok (.iload_n 1, 1) := by decide +kernel
theorem dX5_movedBut_17 : decode cX5_movedBut 17 = .ok (.if_icmp .eq 30, 3) := by decide +kernel
theorem dX5_movedBut_20 : decode cX5_movedBut 20 = .ok (.aload_n 0, 1) := by decide +kernel
theorem dX5_movedBut_21 : decode cX5_movedBut 21 = .ok (.getfield 12, 3) := by decide +kernel
theorem dX5_movedBut_24 : decode cX5_movedBut 24 = .ok (.getfield 73, 3) := by decide +kernel
theorem dX5_movedBut_27 : decode cX5_movedBut 27 = .ok (.iload_n 3, 1) := by decide +kernel
theorem dX5_movedBut_28 : decode cX5_movedBut 28 = .ok (.aaload, 1) := by decide +kernel
theorem dX5_movedBut_29 : decode cX5_movedBut 29 = .ok (.getfield 220, 3) := by decide +kernel
theorem dX5_movedBut_32 : decode cX5_movedBut 32 = .ok (.aload_n 0, 1) := by decide +kernel
theorem dX5_movedBut_33 : decode cX5_movedBut 33 = .ok (.getfield 26, 3) := by decide +kernel
theorem dX5_movedBut_36 : decode cX5_movedBut 36 = .ok (.getfield 100, 3) := by decide +kernel
theorem dX5_movedBut_39 : decode cX5_movedBut 39 = .ok (.iload_n 3, 1) := by decide +kernel
theorem dX5_movedBut_40 : decode cX5_movedBut 40 = .ok (.iaload, 1) := by decide +kernel
theorem dX5_movedBut_41 : decode cX5_movedBut 41 = .ok (.if_icmp .eq 6, 3) := by decide +kernel
theorem dX5_movedBut_44 : decode cX5_movedBut 44 = .ok (.iinc 2 1, 3) := by decide +kernel
theorem dX5_movedBut_47 : decode cX5_movedBut 47 = .ok (.iinc 3 1, 3) := by decide +kernel
theorem dX5_movedBut_50 : decode cX5_movedBut 50 = .ok (.goto (-46), 3) := by decide +kernel
theorem dX5_movedBut_53 : decode cX5_movedBut 53 = .ok (.iload_n 2, 1) := by decide +kernel
theorem dX5_movedBut_54 : decode cX5_movedBut 54 = .ok (.ireturn, 1) := by decide +kernel
set_option maxRecDepth 20000 in
theorem ggX5_isAsSeen_X1_counts : GoodIn wsX5_isAsSeen wsX1_counts := goodIn_r _ [9, 10, 11, 21, 22, 23, 24, 25, 26] (by decide +kernel) (by decide +kernel)
set_option maxRecDepth 20000 in
theorem gX5_isAsSeen_X1_counts : GoodIn wsX5_isAsSeen (wsV RX5 140 RX1 yX1_counts wsX1_counts) := goodIn_app (goodIn_of _ (by decide +kernel)) ggX5_isAsSeen_X1_counts
theorem dX5_isAsSeen_0 : decode cX5_isAsSeen 0 = .ok (.aload_n 0, 1) := by decide +kernel
theorem dX5_isAsSeen_1 : decode cX5_isAsSeen 1 = .ok (.getfield 12, 3) := by decide +kernel
theorem dX5_isAsSeen_4 : decode cX5_isAsSeen 4 = .ok (.getfield 73, 3) := by decide +kernel
theorem dX5_isAsSeen_7 : decode cX5_isAsSeen 7 = .ok (.iload_n 2, 1) := by decide +kernel
theorem dX5_isAsSeen_8 : decode cX5_isAsSeen 8 = .ok (.aaload, 1) := by decide +kernel
theorem dX5_isAsSeen_9 : decode cX5_isAsSeen 9 = .ok (.astore_n 3, 1) := by decide +kernel
theorem dX5_isAsSeen_10 : decode cX5_isAsSeen 10 = .ok (.aload_n 3, 1) := by decide +kernel
theorem dX5_isAsSeen_11 : decode cX5_isAsSeen 11 = .ok (.invokevirtual 140, 3) := by decide +kernel
theorem dX5_isAsSeen_14 : decode cX5_isAsSeen 14 = .ok (.ifCond .eq 20, 3) := by decide +kernel
theorem dX5_isAsSeen_17 : decode cX5_isAsSeen 17 = .ok (.aload_n 3, 1) := by decide +kernel
theorem dX5_isAsSeen_18 : decode cX5_isAsSeen 18 = .ok (.getfield 115, 3) := by decide +kernel
theorem dX5_isAsSeen_21 : decode cX5_isAsSeen 21 = .ok (.aload_n 1, 1) := by decide +kernel
theorem dX5_isAsSeen_22 : decode cX5_isAsSeen 22 = .ok (.getfield 100, 3) := by decide +kernel
theorem dX5_isAsSeen_25 : decode cX5_isAsSeen 25 = .ok (.iload_n 2, 1) := by decide +kernel
theorem dX5_isAsSeen_26 : decode cX5_isAsSeen 26 = .ok (.iaload, 1) := by decide +kernel
theorem dX5_isAsSeen_27 : decode cX5_isAsSeen 27 = .ok (.if_icmp .ne 7, 3) := by decide +kernel
theorem dX5_isAsSeen_30 : decode cX5_isAsSeen 30 = .ok (.iconst 1, 1) := by decide +kernel
theorem dX5_isAsSeen_31 : decode cX5_isAsSeen 31 = .ok (.goto 4, 3) := by decide +kernel
theorem dX5_isAsSeen_34 : decode cX5_isAsSeen 34 = .ok (.iconst 0, 1) := by decide +kernel
theorem dX5_isAsSeen_35 : decode cX5_isAsSeen 35 = .ok (.ireturn, 1) := by decide +kernel
set_option maxRecDepth 20000 in
theorem ggX5_hasSeenTokens_X1_counts : GoodIn wsX5_hasSeenTokens wsX1_counts := goodIn_r _ [8, 9, 10, 20, 21, 22, 23, 24, 25] (by decide +kernel) (by decide +kernel)
set_option maxRecDepth 20000 in
theorem gX5_hasSeenTokens_X1_counts : GoodIn wsX5_hasSeenTokens (wsV RX5 140 RX1 yX1_counts wsX1_counts) := goodIn_app (goodIn_of _ (by decide +kernel)) ggX5_hasSeenTokens_X1_counts
theorem dX5_hasSeenTokens_0 : decode cX5_hasSeenTokens 0 = .ok (.iconst 0, 1) := by decide +kernel
theorem dX5_hasSeenTokens_1 : decode cX5_hasSeenTokens 1 = .ok (.istore_n 1, 1) := by decide +kernel
theorem dX5_hasSeenTokens_2 : decode cX5_hasSeenTokens 2 = .ok (.iload_n 1, 1) := by decide +kernel
theorem dX5_hasSeenTokens_3 : decode cX5_hasSeenTokens 3 = .ok (.aload_n 0, 1) := by decide +kernel
theorem dX5_hasSeenTokens_4 : decode cX5_hasSeenTokens 4 = .ok (.getfield 12, 3) := by decide +kernel
theorem dX5_hasSeenTokens_7 : decode cX5_hasSeenTokens 7 = .ok (.getfield 48, 3) := by decide +kernel
theorem dX5_hasSeenTokens_10 : decode cX5_hasSeenTokens 10 = .ok (.if_icmp .ge 26, 3) := by decide +kernel
theorem dX5_hasSeenTokens_13 : decode cX5_hasSeenTokens 13 = .ok (.aload_n 0, 1) := by decide +kernel
theorem dX5_hasSeenTokens_14 : decode cX5_hasSeenTokens 14 = .ok (.getfield 12, 3) := by decide +kernel
theorem dX5_hasSeenTokens_17 : decode cX5_hasSeenTokens 17 = .ok (.getfield 73, 3) := by decide +kernel
theorem dX5_hasSeenTokens_20 : decode cX5_hasSeenTokens 20 = .ok (.iload_n 1, 1) := by decide +kernel
theorem dX5_hasSeenTokens_21 : decode cX5_hasSeenTokens 21 = .ok (.aaload, 1) := by decide +kernel
theorem dX5_hasSeenTokens_22 : decode cX5_hasSeenTokens 22 = .ok (.invokevirtual 140, 3) := by decide +kernel
theorem dX5_hasSeenTokens_25 : decode cX5_hasSeenTokens 25 = .ok (.ifCond .eq 5, 3) := by decide +kernel
theorem dX5_hasSeenTokens_28 : decode cX5_hasSeenTokens 28 = .ok (.iconst 1, 1) := by decide +kernel
theorem dX5_hasSeenTokens_29 : decode cX5_hasSeenTokens 29 = .ok (.ireturn, 1) := by decide +kernel
theorem dX5_hasSeenTokens_30 : decode cX5_hasSeenTokens 30 = .ok (.iinc 1 1, 3) := by decide +kernel
theorem dX5_hasSeenTokens_33 : decode cX5_hasSeenTokens 33 = .ok (.goto (-31), 3) := by decide +kernel
theorem dX5_hasSeenTokens_36 : decode cX5_hasSeenTokens 36 = .ok (.iconst 0, 1) := by decide +kernel
theorem dX5_hasSeenTokens_37 : decode cX5_hasSeenTokens 37 = .ok (.ireturn, 1) := by decide +kernel
set_option maxRecDepth 20000 in
theorem ggX5_layTried_X0_choose : GoodIn wsX5_layTried wsX0_choose := goodIn_r _ [8, 9, 56, 57] (by decide +kernel) (by decide +kernel)
set_option maxRecDepth 20000 in
theorem gX5_layTried_X0_choose : GoodIn wsX5_layTried (wsV RX5 43 RX0 yX0_choose wsX0_choose) := goodIn_app (goodIn_of _ (by decide +kernel)) ggX5_layTried_X0_choose
set_option maxRecDepth 20000 in
theorem ggX5_layTried_X0_lay : GoodIn wsX5_layTried wsX0_lay := goodIn_r _ [13, 14, 15, 16, 17, 18, 19, 20, 21, 7, 22, 23, 24, 25, 9, 26, 27, 28, 29, 30, 31, 32, 33, 34, 35, 36, 37, 38, 39, 40, 41, 42, 43, 44, 45, 46, 47, 48, 58, 59, 56, 57, 60, 61, 62, 63, 64, 65, 66, 67, 68, 69, 70, 71, 72, 73, 74, 75, 76, 77, 78, 79] (by decide +kernel) (by decide +kernel)
set_option maxRecDepth 20000 in
theorem gX5_layTried_X0_lay : GoodIn wsX5_layTried (wsV RX5 93 RX0 yX0_lay wsX0_lay) := goodIn_app (goodIn_of _ (by decide +kernel)) ggX5_layTried_X0_lay
theorem dX5_layTried_0 : decode cX5_layTried 0 = .ok (.aload_n 0, 1) := by decide +kernel
theorem dX5_layTried_1 : decode cX5_layTried 1 = .ok (.getfield 30, 3) := by decide +kernel
theorem dX5_layTried_4 : decode cX5_layTried 4 = .ok (.iload_n 1, 1) := by decide +kernel
theorem dX5_layTried_5 : decode cX5_layTried 5 = .ok (.iload_n 2, 1) := by decide +kernel
theorem dX5_layTried_6 : decode cX5_layTried 6 = .ok (.iload_n 3, 1) := by decide +kernel
theorem dX5_layTried_7 : decode cX5_layTried 7 = .ok (.iload 4, 2) := by decide +kernel
theorem dX5_layTried_9 : decode cX5_layTried 9 = .ok (.invokevirtual 43, 3) := by decide +kernel
theorem dX5_layTried_12 : decode cX5_layTried 12 = .ok (.aload_n 0, 1) := by decide +kernel
theorem dX5_layTried_13 : decode cX5_layTried 13 = .ok (.getfield 30, 3) := by decide +kernel
theorem dX5_layTried_16 : decode cX5_layTried 16 = .ok (.aload_n 0, 1) := by decide +kernel
theorem dX5_layTried_17 : decode cX5_layTried 17 = .ok (.getfield 12, 3) := by decide +kernel
theorem dX5_layTried_20 : decode cX5_layTried 20 = .ok (.aload_n 0, 1) := by decide +kernel
theorem dX5_layTried_21 : decode cX5_layTried 21 = .ok (.getfield 19, 3) := by decide +kernel
theorem dX5_layTried_24 : decode cX5_layTried 24 = .ok (.invokevirtual 93, 3) := by decide +kernel
theorem dX5_layTried_27 : decode cX5_layTried 27 = .ok (.return_, 1) := by decide +kernel
set_option maxRecDepth 20000 in
theorem ggX5_partsOfTried_X5_isAsSeen : GoodIn wsX5_partsOfTried wsX5_isAsSeen := goodIn_r _ [14, 1, 15, 16, 17, 18, 19, 20, 21, 22, 23, 24, 25, 26, 27, 28, 29, 30, 31, 32, 33, 48, 49, 50, 51, 52, 53, 54, 55] (by decide +kernel) (by decide +kernel)
set_option maxRecDepth 20000 in
theorem gX5_partsOfTried_X5_isAsSeen : GoodIn wsX5_partsOfTried (wsV RX5 144 RX5 yX5_isAsSeen wsX5_isAsSeen) := goodIn_app (goodIn_of _ (by decide +kernel)) ggX5_partsOfTried_X5_isAsSeen
theorem dX5_partsOfTried_0 : decode cX5_partsOfTried 0 = .ok (.iconst 0, 1) := by decide +kernel
theorem dX5_partsOfTried_1 : decode cX5_partsOfTried 1 = .ok (.istore_n 1, 1) := by decide +kernel
theorem dX5_partsOfTried_2 : decode cX5_partsOfTried 2 = .ok (.iconst 0, 1) := by decide +kernel
theorem dX5_partsOfTried_3 : decode cX5_partsOfTried 3 = .ok (.istore_n 2, 1) := by decide +kernel
theorem dX5_partsOfTried_4 : decode cX5_partsOfTried 4 = .ok (.iload_n 2, 1) := by decide +kernel
theorem dX5_partsOfTried_5 : decode cX5_partsOfTried 5 = .ok (.aload_n 0, 1) := by decide +kernel
theorem dX5_partsOfTried_6 : decode cX5_partsOfTried 6 = .ok (.getfield 12, 3) := by decide +kernel
theorem dX5_partsOfTried_9 : decode cX5_partsOfTried 9 = .ok (.getfield 48, 3) := by decide +kernel
theorem dX5_partsOfTried_12 : decode cX5_partsOfTried 12 = .ok (.if_icmp .ge 42, 3) := by decide +kernel
theorem dX5_partsOfTried_15 : decode cX5_partsOfTried 15 = .ok (.aload_n 0, 1) := by decide +kernel
theorem dX5_partsOfTried_16 : decode cX5_partsOfTried 16 = .ok (.aload_n 0, 1) := by decide +kernel
theorem dX5_partsOfTried_17 : decode cX5_partsOfTried 17 = .ok (.getfield 30, 3) := by decide +kernel
theorem dX5_partsOfTried_20 : decode cX5_partsOfTried 20 = .ok (.iload_n 2, 1) := by decide +kernel
theorem dX5_partsOfTried_21 : decode cX5_partsOfTried 21 = .ok (.invokevirtual 144, 3) := by decide +kernel
theorem dX5_partsOfTried_24 : decode cX5_partsOfTried 24 = .ok (.ifCond .eq 24, 3) := by decide +kernel
theorem dX5_partsOfTried_27 : decode cX5_partsOfTried 27 = .ok (.iload_n 1, 1) := by decide +kernel
theorem dX5_partsOfTried_28 : decode cX5_partsOfTried 28 = .ok (.sipush 4096, 3) := by decide +kernel
theorem dX5_partsOfTried_31 : decode cX5_partsOfTried 31 = .ok (.aload_n 0, 1) := by decide +kernel
theorem dX5_partsOfTried_32 : decode cX5_partsOfTried 32 = .ok (.getfield 19, 3) := by decide +kernel
theorem dX5_partsOfTried_35 : decode cX5_partsOfTried 35 = .ok (.getfield 109, 3) := by decide +kernel
theorem dX5_partsOfTried_38 : decode cX5_partsOfTried 38 = .ok (.iload_n 2, 1) := by decide +kernel
theorem dX5_partsOfTried_39 : decode cX5_partsOfTried 39 = .ok (.iaload, 1) := by decide +kernel
theorem dX5_partsOfTried_40 : decode cX5_partsOfTried 40 = .ok (.bipush 12, 2) := by decide +kernel
theorem dX5_partsOfTried_42 : decode cX5_partsOfTried 42 = .ok (.invokestatic 223, 3) := by decide +kernel
theorem dX5_partsOfTried_45 : decode cX5_partsOfTried 45 = .ok (.ishr, 1) := by decide +kernel
theorem dX5_partsOfTried_46 : decode cX5_partsOfTried 46 = .ok (.iadd, 1) := by decide +kernel
theorem dX5_partsOfTried_47 : decode cX5_partsOfTried 47 = .ok (.istore_n 1, 1) := by decide +kernel
theorem dX5_partsOfTried_48 : decode cX5_partsOfTried 48 = .ok (.iinc 2 1, 3) := by decide +kernel
theorem dX5_partsOfTried_51 : decode cX5_partsOfTried 51 = .ok (.goto (-47), 3) := by decide +kernel
theorem dX5_partsOfTried_54 : decode cX5_partsOfTried 54 = .ok (.iload_n 1, 1) := by decide +kernel
theorem dX5_partsOfTried_55 : decode cX5_partsOfTried 55 = .ok (.ireturn, 1) := by decide +kernel
set_option maxRecDepth 20000 in
theorem ggX5_findGuess_X5_layTried : GoodIn wsX5_findGuess wsX5_layTried := goodIn_r _ [8, 9, 10, 11, 12, 13, 14, 15, 16, 17, 18, 19, 20, 21, 22, 23, 24, 25, 26, 27, 28, 29, 30, 31, 32, 33, 34, 35, 36, 37, 38, 39, 40, 41, 42, 43, 44, 45, 46, 47, 48, 49, 50, 51, 52, 53, 54, 55, 56, 87, 88, 89, 90, 91, 92, 93, 94, 95, 96, 97, 98, 99, 100, 101, 102, 103, 104, 105, 106, 107, 108, 109, 110, 111, 112, 113, 114, 115, 116, 117] (by decide +kernel) (by decide +kernel)
set_option maxRecDepth 20000 in
theorem gX5_findGuess_X5_layTried : GoodIn wsX5_findGuess (wsV RX5 152 RX5 yX5_layTried wsX5_layTried) := goodIn_app (goodIn_of _ (by decide +kernel)) ggX5_findGuess_X5_layTried
set_option maxRecDepth 20000 in
theorem ggX5_findGuess_X5_keepIfBetter : GoodIn wsX5_findGuess wsX5_keepIfBetter := goodIn_r _ [60, 1, 61, 9, 62, 63, 64, 65, 7, 66, 10, 67, 11, 68, 69, 70, 71, 72, 73, 74, 75, 76, 77, 78, 79, 80, 81, 82, 83, 84, 85, 86, 87, 88, 89, 90, 91, 92, 93, 94, 95, 96, 97, 104, 105, 106, 107, 108, 109, 110, 111, 112, 113, 114, 115, 116, 117, 98, 99, 100, 101, 102, 103] (by decide +kernel) (by decide +kernel)
set_option maxRecDepth 20000 in
theorem gX5_findGuess_X5_keepIfBetter : GoodIn wsX5_findGuess (wsV RX5 228 RX5 yX5_keepIfBetter wsX5_keepIfBetter) := goodIn_app (goodIn_of _ (by decide +kernel)) ggX5_findGuess_X5_keepIfBetter
theorem dX5_findGuess_0 : decode cX5_findGuess 0 = .ok (.aload_n 0, 1) := by decide +kernel
theorem dX5_findGuess_1 : decode cX5_findGuess 1 = .ok (.iconst (-1), 1) := by decide +kernel
theorem dX5_findGuess_2 : decode cX5_findGuess 2 = .ok (.putfield 168, 3) := by decide +kernel
theorem dX5_findGuess_5 : decode cX5_findGuess 5 = .ok (.getstatic 211, 3) := by decide +kernel
theorem dX5_findGuess_8 : decode cX5_findGuess 8 = .ok (.iconst 0, 1) := by decide +kernel
theorem dX5_findGuess_9 : decode cX5_findGuess 9 = .ok (.iaload, 1) := by decide +kernel
theorem dX5_findGuess_10 : decode cX5_findGuess 10 = .ok (.istore_n 1, 1) := by decide +kernel
theorem dX5_findGuess_11 : decode cX5_findGuess 11 = .ok (.iload_n 1, 1) := by decide +kernel
theorem dX5_findGuess_12 : decode cX5_findGuess 12 = .ok (.getstatic 214, 3) := by decide +kernel
theorem dX5_findGuess_15 : decode cX5_findGuess 15 = .ok (.iconst 0, 1) := by decide +kernel
theorem dX5_findGuess_16 : decode cX5_findGuess 16 = .ok (.iaload, 1) := by decide +kernel
theorem dX5_findGuess_17 : decode cX5_findGuess 17 = .ok (.if_icmp .gt 87, 3) := by decide +kernel
theorem dX5_findGuess_20 : decode cX5_findGuess 20 = .ok (.getstatic 211, 3) := by decide +kernel
theorem dX5_findGuess_23 : decode cX5_findGuess 23 = .ok (.iconst 1, 1) := by decide +kernel
theorem dX5_findGuess_24 : decode cX5_findGuess 24 = .ok (.iaload, 1) := by decide +kernel
theorem dX5_findGuess_25 : decode cX5_findGuess 25 = .ok (.istore_n 2, 1) := by decide +kernel
theorem dX5_findGuess_26 : decode cX5_findGuess 26 = .ok (.iload_n 2, 1) := by decide +kernel
theorem dX5_findGuess_27 : decode cX5_findGuess 27 = .ok (.getstatic 214, 3) := by decide +kernel
theorem dX5_findGuess_30 : decode cX5_findGuess 30 = .ok (.iconst 1, 1) := by decide +kernel
theorem dX5_findGuess_31 : decode cX5_findGuess 31 = .ok (.iaload, 1) := by decide +kernel
theorem dX5_findGuess_32 : decode cX5_findGuess 32 = .ok (.if_icmp .gt 66, 3) := by decide +kernel
theorem dX5_findGuess_35 : decode cX5_findGuess 35 = .ok (.getstatic 211, 3) := by decide +kernel
theorem dX5_findGuess_38 : decode cX5_findGuess 38 = .ok (.iconst 2, 1) := by decide +kernel
theorem dX5_findGuess_39 : decode cX5_findGuess 39 = .ok (.iaload, 1) := by decide +kernel
theorem dX5_findGuess_40 : decode cX5_findGuess 40 = .ok (.istore_n 3, 1) := by decide +kernel
theorem dX5_findGuess_41 : decode cX5_findGuess 41 = .ok (.iload_n 3, 1) := by decide +kernel
theorem dX5_findGuess_42 : decode cX5_findGuess 42 = .ok (.getstatic 214, 3) := by decide +kernel
theorem dX5_findGuess_45 : decode cX5_findGuess 45 = .ok (.iconst 2, 1) := by decide +kernel
theorem dX5_findGuess_46 : decode cX5_findGuess 46 = .ok (.iaload, 1) := by decide +kernel
theorem dX5_findGuess_47 : decode cX5_findGuess 47 = .ok (.if_icmp .gt 45, 3) := by decide +kernel
theorem dX5_findGuess_50 : decode cX5_findGuess 50 = .ok (.getstatic 211, 3) := by decide +kernel
theorem dX5_findGuess_53 : decode cX5_findGuess 53 = .ok (.iconst 3, 1) := by decide +kernel
theorem dX5_findGuess_54 : decode cX5_findGuess 54 = .ok (.iaload, 1) := by decide +kernel
theorem dX5_findGuess_55 : decode cX5_findGuess 55 = .ok (.istore 4, 2) := by decide +kernel
theorem dX5_findGuess_57 : decode cX5_findGuess 57 = .ok (.iload 4, 2) := by decide +kernel
theorem dX5_findGuess_59 : decode cX5_findGuess 59 = .ok (.getstatic 214, 3) := by decide +kernel
theorem dX5_findGuess_62 : decode cX5_findGuess 62 = .ok (.iconst 3, 1) := by decide +kernel
theorem dX5_findGuess_63 : decode cX5_findGuess 63 = .ok (.iaload, 1) := by decide +kernel
theorem dX5_findGuess_64 : decode cX5_findGuess 64 = .ok (.if_icmp .gt 22, 3) := by decide +kernel
theorem dX5_findGuess_67 : decode cX5_findGuess 67 = .ok (.aload_n 0, 1) := by decide +kernel
theorem dX5_findGuess_68 : decode cX5_findGuess 68 = .ok (.iload_n 1, 1) := by decide +kernel
theorem dX5_findGuess_69 : decode cX5_findGuess 69 = .ok (.iload_n 2, 1) := by decide +kernel
theorem dX5_findGuess_70 : decode cX5_findGuess 70 = .ok (.iload_n 3, 1) := by decide +kernel
theorem dX5_findGuess_71 : decode cX5_findGuess 71 = .ok (.iload 4, 2) := by decide +kernel
theorem dX5_findGuess_73 : decode cX5_findGuess 73 = .ok (.invokevirtual 152, 3) := by decide +kernel
theorem dX5_findGuess_76 : decode cX5_findGuess 76 = .ok (.aload_n 0, 1) := by decide +kernel
theorem dX5_findGuess_77 : decode cX5_findGuess 77 = .ok (.invokevirtual 228, 3) := by decide +kernel
theorem dX5_findGuess_80 : decode cX5_findGuess 80 = .ok (.iinc 4 1, 3) := by decide +kernel
theorem dX5_findGuess_83 : decode cX5_findGuess 83 = .ok (.goto (-26), 3) := by decide +kernel
theorem dX5_findGuess_86 : decode cX5_findGuess 86 = .ok (.iinc 3 1, 3) := by decide +kernel
theorem dX5_findGuess_89 : decode cX5_findGuess 89 = .ok (.goto (-48), 3) := by decide +kernel
theorem dX5_findGuess_92 : decode cX5_findGuess 92 = .ok (.iinc 2 1, 3) := by decide +kernel
theorem dX5_findGuess_95 : decode cX5_findGuess 95 = .ok (.goto (-69), 3) := by decide +kernel
theorem dX5_findGuess_98 : decode cX5_findGuess 98 = .ok (.iinc 1 1, 3) := by decide +kernel
theorem dX5_findGuess_101 : decode cX5_findGuess 101 = .ok (.goto (-90), 3) := by decide +kernel
theorem dX5_findGuess_104 : decode cX5_findGuess 104 = .ok (.return_, 1) := by decide +kernel
set_option maxRecDepth 20000 in
theorem ggX5_keepIfBetter_X5_partsOfTried : GoodIn wsX5_keepIfBetter wsX5_partsOfTried := goodIn_r _ [9, 10, 11, 3, 12, 13, 14, 15, 16, 17, 18, 19, 20, 8, 21, 22, 23, 24, 25, 26, 27, 28, 29, 30, 31, 32, 33, 34, 35, 36, 37, 38, 41, 42, 43, 44, 45, 46, 47, 48, 49, 50, 51, 52, 53, 54, 55, 56, 57, 58, 59, 60, 61, 62, 39, 40] (by decide +kernel) (by decide +kernel)
set_option maxRecDepth 20000 in
theorem gX5_keepIfBetter_X5_partsOfTried : GoodIn wsX5_keepIfBetter (wsV RX5 155 RX5 yX5_partsOfTried wsX5_partsOfTried) := goodIn_app (goodIn_of _ (by decide +kernel)) ggX5_keepIfBetter_X5_partsOfTried
theorem dX5_keepIfBetter_0 : decode cX5_keepIfBetter 0 = .ok (.aload_n 0, 1) := by decide +kernel
theorem dX5_keepIfBetter_1 : decode cX5_keepIfBetter 1 = .ok (.invokevirtual 155, 3) := by decide +kernel
theorem dX5_keepIfBetter_4 : decode cX5_keepIfBetter 4 = .ok (.istore_n 1, 1) := by decide +kernel
theorem dX5_keepIfBetter_5 : decode cX5_keepIfBetter 5 = .ok (.iload_n 1, 1) := by decide +kernel
theorem dX5_keepIfBetter_6 : decode cX5_keepIfBetter 6 = .ok (.aload_n 0, 1) := by decide +kernel
theorem dX5_keepIfBetter_7 : decode cX5_keepIfBetter 7 = .ok (.getfield 168, 3) := by decide +kernel
theorem dX5_keepIfBetter_10 : decode cX5_keepIfBetter 10 = .ok (.if_icmp .le 36, 3) := by decide +kernel
theorem dX5_keepIfBetter_13 : decode cX5_keepIfBetter 13 = .ok (.aload_n 0, 1) := by decide +kernel
theorem dX5_keepIfBetter_14 : decode cX5_keepIfBetter 14 = .ok (.iload_n 1, 1) := by decide +kernel
theorem dX5_keepIfBetter_15 : decode cX5_keepIfBetter 15 = .ok (.putfield 168, 3) := by decide +kernel
theorem dX5_keepIfBetter_18 : decode cX5_keepIfBetter 18 = .ok (.iconst 0, 1) := by decide +kernel
theorem dX5_keepIfBetter_19 : decode cX5_keepIfBetter 19 = .ok (.istore_n 2, 1) := by decide +kernel
theorem dX5_keepIfBetter_20 : decode cX5_keepIfBetter 20 = .ok (.iload_n 2, 1) := by decide +kernel
theorem dX5_keepIfBetter_21 : decode cX5_keepIfBetter 21 = .ok (.iconst 4, 1) := by decide +kernel
theorem dX5_keepIfBetter_22 : decode cX5_keepIfBetter 22 = .ok (.if_icmp .ge 24, 3) := by decide +kernel
theorem dX5_keepIfBetter_25 : decode cX5_keepIfBetter 25 = .ok (.aload_n 0, 1) := by decide +kernel
theorem dX5_keepIfBetter_26 : decode cX5_keepIfBetter 26 = .ok (.getfield 33, 3) := by decide +kernel
theorem dX5_keepIfBetter_29 : decode cX5_keepIfBetter 29 = .ok (.iload_n 2, 1) := by decide +kernel
theorem dX5_keepIfBetter_30 : decode cX5_keepIfBetter 30 = .ok (.aload_n 0, 1) := by decide +kernel
theorem dX5_keepIfBetter_31 : decode cX5_keepIfBetter 31 = .ok (.getfield 30, 3) := by decide +kernel
theorem dX5_keepIfBetter_34 : decode cX5_keepIfBetter 34 = .ok (.getfield 90, 3) := by decide +kernel
theorem dX5_keepIfBetter_37 : decode cX5_keepIfBetter 37 = .ok (.iload_n 2, 1) := by decide +kernel
theorem dX5_keepIfBetter_38 : decode cX5_keepIfBetter 38 = .ok (.iaload, 1) := by decide +kernel
theorem dX5_keepIfBetter_39 : decode cX5_keepIfBetter 39 = .ok (.iastore, 1) := by decide +kernel
theorem dX5_keepIfBetter_40 : decode cX5_keepIfBetter 40 = .ok (.iinc 2 1, 3) := by decide +kernel
theorem dX5_keepIfBetter_43 : decode cX5_keepIfBetter 43 = .ok (.goto (-23), 3) := by decide +kernel
theorem dX5_keepIfBetter_46 : decode cX5_keepIfBetter 46 = .ok (.return_, 1) := by decide +kernel
theorem dX5_floatBits_0 : decode cX5_floatBits 0 = .ok (.iload_n 0, 1) := by decide +kernel
theorem dX5_floatBits_1 : decode cX5_floatBits 1 = .ok (.ifCond .gt 5, 3) := by decide +kernel
theorem dX5_floatBits_4 : decode cX5_floatBits 4 = .ok (.iconst 0, 1) := by decide +kernel
theorem dX5_floatBits_5 : decode cX5_floatBits 5 = .ok (.ireturn, 1) := by decide +kernel
theorem dX5_floatBits_6 : decode cX5_floatBits 6 = .ok (.iconst 0, 1) := by decide +kernel
theorem dX5_floatBits_7 : decode cX5_floatBits 7 = .ok (.istore_n 1, 1) := by decide +kernel
theorem dX5_floatBits_8 : decode cX5_floatBits 8 = .ok (.iconst 1, 1) := by decide +kernel
theorem dX5_floatBits_9 : decode cX5_floatBits 9 = .ok (.istore_n 2, 1) := by decide +kernel
theorem dX5_floatBits_10 : decode cX5_floatBits 10 = .ok (.iload_n 2, 1) := by decide +kernel
theorem dX5_floatBits_11 : decode cX5_floatBits 11 = .ok (.bipush 23, 2) := by decide +kernel
theorem dX5_floatBits_13 : decode cX5_floatBits 13 = .ok (.if_icmp .gt 17, 3) := by decide +kernel
theorem dX5_floatBits_16 : decode cX5_floatBits 16 = .ok (.iload_n 0, 1) := by decide +kernel
theorem dX5_floatBits_17 : decode cX5_floatBits 17 = .ok (.iload_n 2, 1) := by decide +kernel
theorem dX5_floatBits_18 : decode cX5_floatBits 18 = .ok (.ishr, 1) := by decide +kernel
theorem dX5_floatBits_19 : decode cX5_floatBits 19 = .ok (.ifCond .eq 5, 3) := by decide +kernel
theorem dX5_floatBits_22 : decode cX5_floatBits 22 = .ok (.iload_n 2, 1) := by decide +kernel
theorem dX5_floatBits_23 : decode cX5_floatBits 23 = .ok (.istore_n 1, 1) := by decide +kernel
theorem dX5_floatBits_24 : decode cX5_floatBits 24 = .ok (.iinc 2 1, 3) := by decide +kernel
theorem dX5_floatBits_27 : decode cX5_floatBits 27 = .ok (.goto (-17), 3) := by decide +kernel
theorem dX5_floatBits_30 : decode cX5_floatBits 30 = .ok (.iload_n 1, 1) := by decide +kernel
theorem dX5_floatBits_31 : decode cX5_floatBits 31 = .ok (.bipush 12, 2) := by decide +kernel
theorem dX5_floatBits_33 : decode cX5_floatBits 33 = .ok (.isub, 1) := by decide +kernel
theorem dX5_floatBits_34 : decode cX5_floatBits 34 = .ok (.bipush 127, 2) := by decide +kernel
theorem dX5_floatBits_36 : decode cX5_floatBits 36 = .ok (.iadd, 1) := by decide +kernel
theorem dX5_floatBits_37 : decode cX5_floatBits 37 = .ok (.istore_n 2, 1) := by decide +kernel
theorem dX5_floatBits_38 : decode cX5_floatBits 38 = .ok (.iload_n 0, 1) := by decide +kernel
theorem dX5_floatBits_39 : decode cX5_floatBits 39 = .ok (.iconst 1, 1) := by decide +kernel
theorem dX5_floatBits_40 : decode cX5_floatBits 40 = .ok (.iload_n 1, 1) := by decide +kernel
theorem dX5_floatBits_41 : decode cX5_floatBits 41 = .ok (.ishl, 1) := by decide +kernel
theorem dX5_floatBits_42 : decode cX5_floatBits 42 = .ok (.isub, 1) := by decide +kernel
theorem dX5_floatBits_43 : decode cX5_floatBits 43 = .ok (.bipush 23, 2) := by decide +kernel
theorem dX5_floatBits_45 : decode cX5_floatBits 45 = .ok (.iload_n 1, 1) := by decide +kernel
theorem dX5_floatBits_46 : decode cX5_floatBits 46 = .ok (.isub, 1) := by decide +kernel
theorem dX5_floatBits_47 : decode cX5_floatBits 47 = .ok (.ishl, 1) := by decide +kernel
theorem dX5_floatBits_48 : decode cX5_floatBits 48 = .ok (.istore_n 3, 1) := by decide +kernel
theorem dX5_floatBits_49 : decode cX5_floatBits 49 = .ok (.iload_n 2, 1) := by decide +kernel
theorem dX5_floatBits_50 : decode cX5_floatBits 50 = .ok (.bipush 23, 2) := by decide +kernel
theorem dX5_floatBits_52 : decode cX5_floatBits 52 = .ok (.ishl, 1) := by decide +kernel
theorem dX5_floatBits_53 : decode cX5_floatBits 53 = .ok (.iload_n 3, 1) := by decide +kernel
theorem dX5_floatBits_54 : decode cX5_floatBits 54 = .ok (.ior, 1) := by decide +kernel
theorem dX5_floatBits_55 : decode cX5_floatBits 55 = .ok (.ireturn, 1) := by decide +kernel
theorem dX5_allStrays_0 : decode cX5_allStrays 0 = .ok (.iconst 0, 1) := by decide +kernel
theorem dX5_allStrays_1 : decode cX5_allStrays 1 = .ok (.istore_n 1, 1) := by decide +kernel
theorem dX5_allStrays_2 : decode cX5_allStrays 2 = .ok (.iconst 0, 1) := by decide +kernel
theorem dX5_allStrays_3 : decode cX5_allStrays 3 = .ok (.istore_n 2, 1) := by decide +kernel
theorem dX5_allStrays_4 : decode cX5_allStrays 4 = .ok (.iload_n 2, 1) := by decide +kernel
theorem dX5_allStrays_5 : decode cX5_allStrays 5 = .ok (.aload_n 0, 1) := by decide +kernel
theorem dX5_allStrays_6 : decode cX5_allStrays 6 = .ok (.getfield 12, 3) := by decide +kernel
theorem dX5_allStrays_9 : decode cX5_allStrays 9 = .ok (.getfield 48, 3) := by decide +kernel
theorem dX5_allStrays_12 : decode cX5_allStrays 12 = .ok (.if_icmp .ge 21, 3) := by decide +kernel
theorem dX5_allStrays_15 : decode cX5_allStrays 15 = .ok (.iload_n 1, 1) := by decide +kernel
theorem dX5_allStrays_16 : decode cX5_allStrays 16 = .ok (.aload_n 0, 1) := by decide +kernel
theorem dX5_allStrays_17 : decode cX5_allStrays 17 = .ok (.getfield 19, 3) := by decide +kernel
theorem dX5_allStrays_20 : decode cX5_allStrays 20 = .ok (.getfield 112, 3) := by decide +kernel
theorem dX5_allStrays_23 : decode cX5_allStrays 23 = .ok (.iload_n 2, 1) := by decide +kernel
theorem dX5_allStrays_24 : decode cX5_allStrays 24 = .ok (.iaload, 1) := by decide +kernel
theorem dX5_allStrays_25 : decode cX5_allStrays 25 = .ok (.iadd, 1) := by decide +kernel
theorem dX5_allStrays_26 : decode cX5_allStrays 26 = .ok (.istore_n 1, 1) := by decide +kernel
theorem dX5_allStrays_27 : decode cX5_allStrays 27 = .ok (.iinc 2 1, 3) := by decide +kernel
theorem dX5_allStrays_30 : decode cX5_allStrays 30 = .ok (.goto (-26), 3) := by decide +kernel
theorem dX5_allStrays_33 : decode cX5_allStrays 33 = .ok (.iload_n 1, 1) := by decide +kernel
theorem dX5_allStrays_34 : decode cX5_allStrays 34 = .ok (.ireturn, 1) := by decide +kernel
theorem dX5_seenLines_0 : decode cX5_seenLines 0 = .ok (.iconst 0, 1) := by decide +kernel
theorem dX5_seenLines_1 : decode cX5_seenLines 1 = .ok (.istore_n 1, 1) := by decide +kernel
theorem dX5_seenLines_2 : decode cX5_seenLines 2 = .ok (.iconst 0, 1) := by decide +kernel
theorem dX5_seenLines_3 : decode cX5_seenLines 3 = .ok (.istore_n 2, 1) := by decide +kernel
theorem dX5_seenLines_4 : decode cX5_seenLines 4 = .ok (.iload_n 2, 1) := by decide +kernel
theorem dX5_seenLines_5 : decode cX5_seenLines 5 = .ok (.aload_n 0, 1) := by decide +kernel
theorem dX5_seenLines_6 : decode cX5_seenLines 6 = .ok (.getfield 12, 3) := by decide +kernel
theorem dX5_seenLines_9 : decode cX5_seenLines 9 = .ok (.getfield 48, 3) := by decide +kernel
theorem dX5_seenLines_12 : decode cX5_seenLines 12 = .ok (.if_icmp .ge 29, 3) := by decide +kernel
theorem dX5_seenLines_15 : decode cX5_seenLines 15 = .ok (.aload_n 0, 1) := by decide +kernel
theorem dX5_seenLines_16 : decode cX5_seenLines 16 = .ok (.getfield 12, 3) := by decide +kernel
theorem dX5_seenLines_19 : decode cX5_seenLines 19 = .ok (.getfield 73, 3) := by decide +kernel
theorem dX5_seenLines_22 : decode cX5_seenLines 22 = .ok (.iload_n 2, 1) := by decide +kernel
theorem dX5_seenLines_23 : decode cX5_seenLines 23 = .ok (.aaload, 1) := by decide +kernel
theorem dX5_seenLines_24 : decode cX5_seenLines 24 = .ok (.getfield 115, 3) := by decide +kernel
theorem dX5_seenLines_27 : decode cX5_seenLines 27 = .ok (.bipush (-9), 2) := by decide +kernel
theorem dX5_seenLines_29 : decode cX5_seenLines 29 = .ok (.if_icmp .eq 6, 3) := by decide +kernel
theorem dX5_seenLines_32 : decode cX5_seenLines 32 = .ok (.iinc 1 1, 3) := by decide +kernel
theorem dX5_seenLines_35 : decode cX5_seenLines 35 = .ok (.iinc 2 1, 3) := by decide +kernel
theorem dX5_seenLines_38 : decode cX5_seenLines 38 = .ok (.goto (-34), 3) := by decide +kernel
theorem dX5_seenLines_41 : decode cX5_seenLines 41 = .ok (.iload_n 1, 1) := by decide +kernel
theorem dX5_seenLines_42 : decode cX5_seenLines 42 = .ok (.ireturn, 1) := by decide +kernel
theorem dX5_allTokens_0 : decode cX5_allTokens 0 = .ok (.iconst 0, 1) := by decide +kernel
theorem dX5_allTokens_1 : decode cX5_allTokens 1 = .ok (.istore_n 1, 1) := by decide +kernel
theorem dX5_allTokens_2 : decode cX5_allTokens 2 = .ok (.iconst 0, 1) := by decide +kernel
theorem dX5_allTokens_3 : decode cX5_allTokens 3 = .ok (.istore_n 2, 1) := by decide +kernel
theorem dX5_allTokens_4 : decode cX5_allTokens 4 = .ok (.iload_n 2, 1) := by decide +kernel
theorem dX5_allTokens_5 : decode cX5_allTokens 5 = .ok (.aload_n 0, 1) := by decide +kernel
theorem dX5_allTokens_6 : decode cX5_allTokens 6 = .ok (.getfield 12, 3) := by decide +kernel
theorem dX5_allTokens_9 : decode cX5_allTokens 9 = .ok (.getfield 48, 3) := by decide +kernel
theorem dX5_allTokens_12 : decode cX5_allTokens 12 = .ok (.if_icmp .ge 24, 3) := by decide +kernel
theorem dX5_allTokens_15 : decode cX5_allTokens 15 = .ok (.iload_n 1, 1) := by decide +kernel
theorem dX5_allTokens_16 : decode cX5_allTokens 16 = .ok (.aload_n 0, 1) := by decide +kernel
theorem dX5_allTokens_17 : decode cX5_allTokens 17 = .ok (.getfield 12, 3) := by decide +kernel
theorem dX5_allTokens_20 : decode cX5_allTokens 20 = .ok (.getfield 73, 3) := by decide +kernel
theorem dX5_allTokens_23 : decode cX5_allTokens 23 = .ok (.iload_n 2, 1) := by decide +kernel
theorem dX5_allTokens_24 : decode cX5_allTokens 24 = .ok (.aaload, 1) := by decide +kernel
theorem dX5_allTokens_25 : decode cX5_allTokens 25 = .ok (.getfield 103, 3) := by decide +kernel
theorem dX5_allTokens_28 : decode cX5_allTokens 28 = .ok (.iadd, 1) := by decide +kernel
theorem dX5_allTokens_29 : decode cX5_allTokens 29 = .ok (.istore_n 1, 1) := by decide +kernel
theorem dX5_allTokens_30 : decode cX5_allTokens 30 = .ok (.iinc 2 1, 3) := by decide +kernel
theorem dX5_allTokens_33 : decode cX5_allTokens 33 = .ok (.goto (-29), 3) := by decide +kernel
theorem dX5_allTokens_36 : decode cX5_allTokens 36 = .ok (.iload_n 1, 1) := by decide +kernel
theorem dX5_allTokens_37 : decode cX5_allTokens 37 = .ok (.ireturn, 1) := by decide +kernel
end
section
theorem dX6_init_0 : decode cX6_init 0 = .ok (.aload_n 0, 1) := by decide +kernel
theorem dX6_init_1 : decode cX6_init 1 = .ok (.invokespecial 1, 3) := by decide +kernel
theorem dX6_init_4 : decode cX6_init 4 = .ok (.aload_n 0, 1) := by decide +kernel
theorem dX6_init_5 : decode cX6_init 5 = .ok (.bipush 20, 2) := by decide +kernel
theorem dX6_init_7 : decode cX6_init 7 = .ok (.newarray .int, 2) := by decide +kernel
theorem dX6_init_9 : decode cX6_init 9 = .ok (.putfield 7, 3) := by decide +kernel
theorem dX6_init_12 : decode cX6_init 12 = .ok (.aload_n 0, 1) := by decide +kernel
theorem dX6_init_13 : decode cX6_init 13 = .ok (.bipush 20, 2) := by decide +kernel
theorem dX6_init_15 : decode cX6_init 15 = .ok (.newarray .int, 2) := by decide +kernel
theorem dX6_init_17 : decode cX6_init 17 = .ok (.putfield 13, 3) := by decide +kernel
theorem dX6_init_20 : decode cX6_init 20 = .ok (.aload_n 0, 1) := by decide +kernel
theorem dX6_init_21 : decode cX6_init 21 = .ok (.iconst 4, 1) := by decide +kernel
theorem dX6_init_22 : decode cX6_init 22 = .ok (.newarray .int, 2) := by decide +kernel
theorem dX6_init_24 : decode cX6_init 24 = .ok (.putfield 16, 3) := by decide +kernel
theorem dX6_init_27 : decode cX6_init 27 = .ok (.aload_n 0, 1) := by decide +kernel
theorem dX6_init_28 : decode cX6_init 28 = .ok (.sipush 180, 3) := by decide +kernel
theorem dX6_init_31 : decode cX6_init 31 = .ok (.newarray .int, 2) := by decide +kernel
theorem dX6_init_33 : decode cX6_init 33 = .ok (.putfield 19, 3) := by decide +kernel
theorem dX6_init_36 : decode cX6_init 36 = .ok (.aload_n 0, 1) := by decide +kernel
theorem dX6_init_37 : decode cX6_init 37 = .ok (.sipush 180, 3) := by decide +kernel
theorem dX6_init_40 : decode cX6_init 40 = .ok (.newarray .int, 2) := by decide +kernel
theorem dX6_init_42 : decode cX6_init 42 = .ok (.putfield 22, 3) := by decide +kernel
theorem dX6_init_45 : decode cX6_init 45 = .ok (.aload_n 0, 1) := by decide +kernel
theorem dX6_init_46 : decode cX6_init 46 = .ok (.sipush 180, 3) := by decide +kernel
theorem dX6_init_49 : decode cX6_init 49 = .ok (.newarray .int, 2) := by decide +kernel
theorem dX6_init_51 : decode cX6_init 51 = .ok (.putfield 25, 3) := by decide +kernel
theorem dX6_init_54 : decode cX6_init 54 = .ok (.aload_n 0, 1) := by decide +kernel
theorem dX6_init_55 : decode cX6_init 55 = .ok (.sipush 180, 3) := by decide +kernel
theorem dX6_init_58 : decode cX6_init 58 = .ok (.newarray .int, 2) := by decide +kernel
theorem dX6_init_60 : decode cX6_init 60 = .ok (.putfield 28, 3) := by decide +kernel
theorem dX6_init_63 : decode cX6_init 63 = .ok (.aload_n 0, 1) := by decide +kernel
theorem dX6_init_64 : decode cX6_init 64 = .ok (.sipush 180, 3) := by decide +kernel
theorem dX6_init_67 : decode cX6_init 67 = .ok (.newarray .int, 2) := by decide +kernel
theorem dX6_init_69 : decode cX6_init 69 = .ok (.putfield 31, 3) := by decide +kernel
theorem dX6_init_72 : decode cX6_init 72 = .ok (.aload_n 0, 1) := by decide +kernel
theorem dX6_init_73 : decode cX6_init 73 = .ok (.sipush 180, 3) := by decide +kernel
theorem dX6_init_76 : decode cX6_init 76 = .ok (.newarray .int, 2) := by decide +kernel
theorem dX6_init_78 : decode cX6_init 78 = .ok (.putfield 34, 3) := by decide +kernel
theorem dX6_init_81 : decode cX6_init 81 = .ok (.aload_n 0, 1) := by decide +kernel
theorem dX6_init_82 : decode cX6_init 82 = .ok (.bipush 20, 2) := by decide +kernel
theorem dX6_init_84 : decode cX6_init 84 = .ok (.newarray .int, 2) := by decide +kernel
theorem dX6_init_86 : decode cX6_init 86 = .ok (.putfield 37, 3) := by decide +kernel
theorem dX6_init_89 : decode cX6_init 89 = .ok (.aload_n 0, 1) := by decide +kernel
theorem dX6_init_90 : decode cX6_init 90 = .ok (.bipush 20, 2) := by decide +kernel
theorem dX6_init_92 : decode cX6_init 92 = .ok (.newarray .int, 2) := by decide +kernel
theorem dX6_init_94 : decode cX6_init 94 = .ok (.putfield 40, 3) := by decide +kernel
theorem dX6_init_97 : decode cX6_init 97 = .ok (.aload_n 0, 1) := by decide +kernel
theorem dX6_init_98 : decode cX6_init 98 = .ok (.bipush 20, 2) := by decide +kernel
theorem dX6_init_100 : decode cX6_init 100 = .ok (.newarray .int, 2) := by decide +kernel
theorem dX6_init_102 : decode cX6_init 102 = .ok (.putfield 43, 3) := by decide +kernel
theorem dX6_init_105 : decode cX6_init 105 = .ok (.aload_n 0, 1) := by decide +kernel
theorem dX6_init_106 : decode cX6_init 106 = .ok (.sipush 180, 3) := by decide +kernel
theorem dX6_init_109 : decode cX6_init 109 = .ok (.newarray .int, 2) := by decide +kernel
theorem dX6_init_111 : decode cX6_init 111 = .ok (.putfield 46, 3) := by decide +kernel
theorem dX6_init_114 : decode cX6_init 114 = .ok (.aload_n 0, 1) := by decide +kernel
theorem dX6_init_115 : decode cX6_init 115 = .ok (.iconst 4, 1) := by decide +kernel
theorem dX6_init_116 : decode cX6_init 116 = .ok (.newarray .int, 2) := by decide +kernel
theorem dX6_init_118 : decode cX6_init 118 = .ok (.putfield 49, 3) := by decide +kernel
theorem dX6_init_121 : decode cX6_init 121 = .ok (.aload_n 0, 1) := by decide +kernel
theorem dX6_init_122 : decode cX6_init 122 = .ok (.bipush 20, 2) := by decide +kernel
theorem dX6_init_124 : decode cX6_init 124 = .ok (.newarray .int, 2) := by decide +kernel
theorem dX6_init_126 : decode cX6_init 126 = .ok (.putfield 52, 3) := by decide +kernel
theorem dX6_init_129 : decode cX6_init 129 = .ok (.aload_n 0, 1) := by decide +kernel
theorem dX6_init_130 : decode cX6_init 130 = .ok (.iconst 5, 1) := by decide +kernel
theorem dX6_init_131 : decode cX6_init 131 = .ok (.newarray .int, 2) := by decide +kernel
theorem dX6_init_133 : decode cX6_init 133 = .ok (.putfield 55, 3) := by decide +kernel
theorem dX6_init_136 : decode cX6_init 136 = .ok (.aload_n 0, 1) := by decide +kernel
theorem dX6_init_137 : decode cX6_init 137 = .ok (.iconst 3, 1) := by decide +kernel
theorem dX6_init_138 : decode cX6_init 138 = .ok (.newarray .int, 2) := by decide +kernel
theorem dX6_init_140 : decode cX6_init 140 = .ok (.putfield 58, 3) := by decide +kernel
theorem dX6_init_143 : decode cX6_init 143 = .ok (.aload_n 0, 1) := by decide +kernel
theorem dX6_init_144 : decode cX6_init 144 = .ok (.iconst 3, 1) := by decide +kernel
theorem dX6_init_145 : decode cX6_init 145 = .ok (.newarray .int, 2) := by decide +kernel
theorem dX6_init_147 : decode cX6_init 147 = .ok (.putfield 61, 3) := by decide +kernel
theorem dX6_init_150 : decode cX6_init 150 = .ok (.aload_n 0, 1) := by decide +kernel
theorem dX6_init_151 : decode cX6_init 151 = .ok (.bipush 18, 2) := by decide +kernel
theorem dX6_init_153 : decode cX6_init 153 = .ok (.newarray .int, 2) := by decide +kernel
theorem dX6_init_155 : decode cX6_init 155 = .ok (.putfield 64, 3) := by decide +kernel
theorem dX6_init_158 : decode cX6_init 158 = .ok (.aload_n 0, 1) := by decide +kernel
theorem dX6_init_159 : decode cX6_init 159 = .ok (.bipush 18, 2) := by decide +kernel
theorem dX6_init_161 : decode cX6_init 161 = .ok (.newarray .int, 2) := by decide +kernel
theorem dX6_init_163 : decode cX6_init 163 = .ok (.putfield 67, 3) := by decide +kernel
theorem dX6_init_166 : decode cX6_init 166 = .ok (.aload_n 0, 1) := by decide +kernel
theorem dX6_init_167 : decode cX6_init 167 = .ok (.bipush 18, 2) := by decide +kernel
theorem dX6_init_169 : decode cX6_init 169 = .ok (.newarray .int, 2) := by decide +kernel
theorem dX6_init_171 : decode cX6_init 171 = .ok (.putfield 70, 3) := by decide +kernel
theorem dX6_init_174 : decode cX6_init 174 = .ok (.aload_n 0, 1) := by decide +kernel
theorem dX6_init_175 : decode cX6_init 175 = .ok (.getfield 16, 3) := by decide +kernel
theorem dX6_init_178 : decode cX6_init 178 = .ok (.iconst 0, 1) := by decide +kernel
theorem dX6_init_179 : decode cX6_init 179 = .ok (.iconst 4, 1) := by decide +kernel
theorem dX6_init_180 : decode cX6_init 180 = .ok (.iastore, 1) := by decide +kernel
theorem dX6_init_181 : decode cX6_init 181 = .ok (.aload_n 0, 1) := by decide +kernel
theorem dX6_init_182 : decode cX6_init 182 = .ok (.getfield 16, 3) := by decide +kernel
theorem dX6_init_185 : decode cX6_init 185 = .ok (.iconst 1, 1) := by decide +kernel
theorem dX6_init_186 : decode cX6_init 186 = .ok (.bipush 8, 2) := by decide +kernel
theorem dX6_init_188 : decode cX6_init 188 = .ok (.iastore, 1) := by decide +kernel
theorem dX6_init_189 : decode cX6_init 189 = .ok (.aload_n 0, 1) := by decide +kernel
theorem dX6_init_190 : decode cX6_init 190 = .ok (.getfield 16, 3) := by decide +kernel
theorem dX6_init_193 : decode cX6_init 193 = .ok (.iconst 2, 1) := by decide +kernel
theorem dX6_init_194 : decode cX6_init 194 = .ok (.iconst 1, 1) := by decide +kernel
theorem dX6_init_195 : decode cX6_init 195 = .ok (.iastore, 1) := by decide +kernel
theorem dX6_init_196 : decode cX6_init 196 = .ok (.iconst 0, 1) := by decide +kernel
theorem dX6_init_197 : decode cX6_init 197 = .ok (.istore_n 1, 1) := by decide +kernel
theorem dX6_init_198 : decode cX6_init 198 = .ok (.iload_n 1, 1) := by decide +kernel
theorem dX6_init_199 : decode cX6_init 199 = .ok (.bipush 20, 2) := by decide +kernel
theorem dX6_init_201 : decode cX6_init 201 = .ok (.if_icmp .ge 17, 3) := by decide +kernel
theorem dX6_init_204 : decode cX6_init 204 = .ok (.aload_n 0, 1) := by decide +kernel
theorem dX6_init_205 : decode cX6_init 205 = .ok (.getfield 13, 3) := by decide +kernel
theorem dX6_init_208 : decode cX6_init 208 = .ok (.iload_n 1, 1) := by decide +kernel
theorem dX6_init_209 : decode cX6_init 209 = .ok (.bipush (-9), 2) := by decide +kernel
theorem dX6_init_211 : decode cX6_init 211 = .ok (.iastore, 1) := by decide +kernel
theorem dX6_init_212 : decode cX6_init 212 = .ok (.iinc 1 1, 3) := by decide +kernel
theorem dX6_init_215 : decode cX6_init 215 = .ok (.goto (-17), 3) := by decide +kernel
theorem dX6_init_218 : decode cX6_init 218 = .ok (.return_, 1) := by decide +kernel
theorem dX6_within_0 : decode cX6_within 0 = .ok (.iload_n 0, 1) := by decide +kernel
theorem dX6_within_1 : decode cX6_within 1 = .ok (.iload_n 1, 1) := by decide +kernel
theorem dX6_within_2 : decode cX6_within 2 = .ok (.if_icmp .lt 12, 3) := by decide +kernel
theorem dX6_within_5 : decode cX6_within 5 = .ok (.iload_n 0, 1) := by decide +kernel
theorem dX6_within_6 : decode cX6_within 6 = .ok (.iload_n 2, 1) := by decide +kernel
theorem dX6_within_7 : decode cX6_within 7 = .ok (.if_icmp .gt 7, 3) := by decide +kernel
theorem dX6_within_10 : decode cX6_within 10 = .ok (.iconst 1, 1) := by decide +kernel
theorem dX6_within_11 : decode cX6_within 11 = .ok (.goto 4, 3) := by decide +kernel
theorem dX6_within_14 : decode cX6_within 14 = .ok (.iconst 0, 1) := by decide +kernel
theorem dX6_within_15 : decode cX6_within 15 = .ok (.ireturn, 1) := by decide +kernel
set_option maxRecDepth 20000 in
theorem ggX6_isLine_X6_within : GoodIn wsX6_isLine wsX6_within := goodIn_r _ [5] (by decide +kernel) (by decide +kernel)
set_option maxRecDepth 20000 in
theorem gX6_isLine_X6_within : GoodIn wsX6_isLine (va_wsS RX6 77 yX6_within wsX6_within) := goodIn_app (goodIn_of _ (by decide +kernel)) ggX6_isLine_X6_within
theorem dX6_isLine_0 : decode cX6_isLine 0 = .ok (.iload_n 1, 1) := by decide +kernel
theorem dX6_isLine_1 : decode cX6_isLine 1 = .ok (.iconst 0, 1) := by decide +kernel
theorem dX6_isLine_2 : decode cX6_isLine 2 = .ok (.aload_n 0, 1) := by decide +kernel
theorem dX6_isLine_3 : decode cX6_isLine 3 = .ok (.getfield 73, 3) := by decide +kernel
theorem dX6_isLine_6 : decode cX6_isLine 6 = .ok (.iconst 1, 1) := by decide +kernel
theorem dX6_isLine_7 : decode cX6_isLine 7 = .ok (.isub, 1) := by decide +kernel
theorem dX6_isLine_8 : decode cX6_isLine 8 = .ok (.invokestatic 77, 3) := by decide +kernel
theorem dX6_isLine_11 : decode cX6_isLine 11 = .ok (.ireturn, 1) := by decide +kernel
theorem dX6_lengthOf_0 : decode cX6_lengthOf 0 = .ok (.iconst 0, 1) := by decide +kernel
theorem dX6_lengthOf_1 : decode cX6_lengthOf 1 = .ok (.istore_n 1, 1) := by decide +kernel
theorem dX6_lengthOf_2 : decode cX6_lengthOf 2 = .ok (.iload_n 0, 1) := by decide +kernel
theorem dX6_lengthOf_3 : decode cX6_lengthOf 3 = .ok (.istore_n 2, 1) := by decide +kernel
theorem dX6_lengthOf_4 : decode cX6_lengthOf 4 = .ok (.iload_n 2, 1) := by decide +kernel
theorem dX6_lengthOf_5 : decode cX6_lengthOf 5 = .ok (.ifCond .le 14, 3) := by decide +kernel
theorem dX6_lengthOf_8 : decode cX6_lengthOf 8 = .ok (.iinc 1 1, 3) := by decide +kernel
theorem dX6_lengthOf_11 : decode cX6_lengthOf 11 = .ok (.iload_n 2, 1) := by decide +kernel
theorem dX6_lengthOf_12 : decode cX6_lengthOf 12 = .ok (.bipush 10, 2) := by decide +kernel
theorem dX6_lengthOf_14 : decode cX6_lengthOf 14 = .ok (.idiv, 1) := by decide +kernel
theorem dX6_lengthOf_15 : decode cX6_lengthOf 15 = .ok (.istore_n 2, 1) := by decide +kernel
theorem dX6_lengthOf_16 : decode cX6_lengthOf 16 = .ok (.goto (-12), 3) := by decide +kernel
theorem dX6_lengthOf_19 : decode cX6_lengthOf 19 = .ok (.iload_n 1, 1) := by decide +kernel
theorem dX6_lengthOf_20 : decode cX6_lengthOf 20 = .ok (.ireturn, 1) := by decide +kernel
set_option maxRecDepth 20000 in
theorem ggX6_areTokens_X6_lengthOf : GoodIn wsX6_areTokens wsX6_lengthOf := goodIn_r _ [4] (by decide +kernel) (by decide +kernel)
set_option maxRecDepth 20000 in
theorem gX6_areTokens_X6_lengthOf : GoodIn wsX6_areTokens (va_wsS RX6 81 yX6_lengthOf wsX6_lengthOf) := goodIn_app (goodIn_of _ (by decide +kernel)) ggX6_areTokens_X6_lengthOf
theorem dX6_areTokens_0 : decode cX6_areTokens 0 = .ok (.iload_n 0, 1) := by decide +kernel
theorem dX6_areTokens_1 : decode cX6_areTokens 1 = .ok (.istore_n 1, 1) := by decide +kernel
theorem dX6_areTokens_2 : decode cX6_areTokens 2 = .ok (.iload_n 1, 1) := by decide +kernel
theorem dX6_areTokens_3 : decode cX6_areTokens 3 = .ok (.ifCond .le 20, 3) := by decide +kernel
theorem dX6_areTokens_6 : decode cX6_areTokens 6 = .ok (.iload_n 1, 1) := by decide +kernel
theorem dX6_areTokens_7 : decode cX6_areTokens 7 = .ok (.bipush 10, 2) := by decide +kernel
theorem dX6_areTokens_9 : decode cX6_areTokens 9 = .ok (.irem, 1) := by decide +kernel
theorem dX6_areTokens_10 : decode cX6_areTokens 10 = .ok (.ifCond .ne 5, 3) := by decide +kernel
theorem dX6_areTokens_13 : decode cX6_areTokens 13 = .ok (.iconst 0, 1) := by decide +kernel
theorem dX6_areTokens_14 : decode cX6_areTokens 14 = .ok (.ireturn, 1) := by decide +kernel
theorem dX6_areTokens_15 : decode cX6_areTokens 15 = .ok (.iload_n 1, 1) := by decide +kernel
theorem dX6_areTokens_16 : decode cX6_areTokens 16 = .ok (.bipush 10, 2) := by decide +kernel
theorem dX6_areTokens_18 : decode cX6_areTokens 18 = .ok (.idiv, 1) := by decide +kernel
theorem dX6_areTokens_19 : decode cX6_areTokens 19 = .ok (.istore_n 1, 1) := by decide +kernel
theorem dX6_areTokens_20 : decode cX6_areTokens 20 = .ok (.goto (-18), 3) := by decide +kernel
theorem dX6_areTokens_23 : decode cX6_areTokens 23 = .ok (.iload_n 0, 1) := by decide +kernel
theorem dX6_areTokens_24 : decode cX6_areTokens 24 = .ok (.ifCond .lt 16, 3) := by decide +kernel
theorem dX6_areTokens_27 : decode cX6_areTokens 27 = .ok (.iload_n 0, 1) := by decide +kernel
theorem dX6_areTokens_28 : decode cX6_areTokens 28 = .ok (.invokestatic 81, 3) := by decide +kernel
theorem dX6_areTokens_31 : decode cX6_areTokens 31 = .ok (.bipush 9, 2) := by decide +kernel
theorem dX6_areTokens_33 : decode cX6_areTokens 33 = .ok (.if_icmp .gt 7, 3) := by decide +kernel
theorem dX6_areTokens_36 : decode cX6_areTokens 36 = .ok (.iconst 1, 1) := by decide +kernel
theorem dX6_areTokens_37 : decode cX6_areTokens 37 = .ok (.goto 4, 3) := by decide +kernel
theorem dX6_areTokens_40 : decode cX6_areTokens 40 = .ok (.iconst 0, 1) := by decide +kernel
theorem dX6_areTokens_41 : decode cX6_areTokens 41 = .ok (.ireturn, 1) := by decide +kernel
set_option maxRecDepth 20000 in
theorem ggX6_tokenAt_X6_lengthOf : GoodIn wsX6_tokenAt wsX6_lengthOf := goodIn_r _ [4] (by decide +kernel) (by decide +kernel)
set_option maxRecDepth 20000 in
theorem gX6_tokenAt_X6_lengthOf : GoodIn wsX6_tokenAt (va_wsS RX6 81 yX6_lengthOf wsX6_lengthOf) := goodIn_app (goodIn_of _ (by decide +kernel)) ggX6_tokenAt_X6_lengthOf
theorem dX6_tokenAt_0 : decode cX6_tokenAt 0 = .ok (.iload_n 0, 1) := by decide +kernel
theorem dX6_tokenAt_1 : decode cX6_tokenAt 1 = .ok (.istore_n 2, 1) := by decide +kernel
theorem dX6_tokenAt_2 : decode cX6_tokenAt 2 = .ok (.iload_n 0, 1) := by decide +kernel
theorem dX6_tokenAt_3 : decode cX6_tokenAt 3 = .ok (.invokestatic 81, 3) := by decide +kernel
theorem dX6_tokenAt_6 : decode cX6_tokenAt 6 = .ok (.iconst 1, 1) := by decide +kernel
theorem dX6_tokenAt_7 : decode cX6_tokenAt 7 = .ok (.isub, 1) := by decide +kernel
theorem dX6_tokenAt_8 : decode cX6_tokenAt 8 = .ok (.istore_n 3, 1) := by decide +kernel
theorem dX6_tokenAt_9 : decode cX6_tokenAt 9 = .ok (.iload_n 3, 1) := by decide +kernel
theorem dX6_tokenAt_10 : decode cX6_tokenAt 10 = .ok (.iload_n 1, 1) := by decide +kernel
theorem dX6_tokenAt_11 : decode cX6_tokenAt 11 = .ok (.if_icmp .le 14, 3) := by decide +kernel
theorem dX6_tokenAt_14 : decode cX6_tokenAt 14 = .ok (.iload_n 2, 1) := by decide +kernel
theorem dX6_tokenAt_15 : decode cX6_tokenAt 15 = .ok (.bipush 10, 2) := by decide +kernel
theorem dX6_tokenAt_17 : decode cX6_tokenAt 17 = .ok (.idiv, 1) := by decide +kernel
theorem dX6_tokenAt_18 : decode cX6_tokenAt 18 = .ok (.istore_n 2, 1) := by decide +kernel
theorem dX6_tokenAt_19 : decode cX6_tokenAt 19 = .ok (.iinc 3 (-1), 3) := by decide +kernel
theorem dX6_tokenAt_22 : decode cX6_tokenAt 22 = .ok (.goto (-13), 3) := by decide +kernel
theorem dX6_tokenAt_25 : decode cX6_tokenAt 25 = .ok (.iload_n 2, 1) := by decide +kernel
theorem dX6_tokenAt_26 : decode cX6_tokenAt 26 = .ok (.bipush 10, 2) := by decide +kernel
theorem dX6_tokenAt_28 : decode cX6_tokenAt 28 = .ok (.irem, 1) := by decide +kernel
theorem dX6_tokenAt_29 : decode cX6_tokenAt 29 = .ok (.ireturn, 1) := by decide +kernel
theorem dX6_widthOf_0 : decode cX6_widthOf 0 = .ok (.iload_n 0, 1) := by decide +kernel
theorem dX6_widthOf_1 : decode cX6_widthOf 1 = .ok (.iconst 1, 1) := by decide +kernel
theorem dX6_widthOf_2 : decode cX6_widthOf 2 = .ok (.if_icmp .ne 7, 3) := by decide +kernel
theorem dX6_widthOf_5 : decode cX6_widthOf 5 = .ok (.iconst 3, 1) := by decide +kernel
theorem dX6_widthOf_6 : decode cX6_widthOf 6 = .ok (.goto 24, 3) := by decide +kernel
theorem dX6_widthOf_9 : decode cX6_widthOf 9 = .ok (.iload_n 0, 1) := by decide +kernel
theorem dX6_widthOf_10 : decode cX6_widthOf 10 = .ok (.bipush 7, 2) := by decide +kernel
theorem dX6_widthOf_12 : decode cX6_widthOf 12 = .ok (.if_icmp .ne 7, 3) := by decide +kernel
theorem dX6_widthOf_15 : decode cX6_widthOf 15 = .ok (.iconst 2, 1) := by decide +kernel
theorem dX6_widthOf_16 : decode cX6_widthOf 16 = .ok (.goto 14, 3) := by decide +kernel
theorem dX6_widthOf_19 : decode cX6_widthOf 19 = .ok (.iload_n 0, 1) := by decide +kernel
theorem dX6_widthOf_20 : decode cX6_widthOf 20 = .ok (.bipush 9, 2) := by decide +kernel
theorem dX6_widthOf_22 : decode cX6_widthOf 22 = .ok (.if_icmp .ne 7, 3) := by decide +kernel
theorem dX6_widthOf_25 : decode cX6_widthOf 25 = .ok (.iconst 4, 1) := by decide +kernel
theorem dX6_widthOf_26 : decode cX6_widthOf 26 = .ok (.goto 4, 3) := by decide +kernel
theorem dX6_widthOf_29 : decode cX6_widthOf 29 = .ok (.iconst 1, 1) := by decide +kernel
theorem dX6_widthOf_30 : decode cX6_widthOf 30 = .ok (.ireturn, 1) := by decide +kernel
theorem dX6_top_0 : decode cX6_top 0 = .ok (.aload_n 0, 1) := by decide +kernel
theorem dX6_top_1 : decode cX6_top 1 = .ok (.getfield 85, 3) := by decide +kernel
theorem dX6_top_4 : decode cX6_top 4 = .ok (.ifCond .ne 8, 3) := by decide +kernel
theorem dX6_top_7 : decode cX6_top 7 = .ok (.bipush (-9), 2) := by decide +kernel
theorem dX6_top_9 : decode cX6_top 9 = .ok (.goto 14, 3) := by decide +kernel
theorem dX6_top_12 : decode cX6_top 12 = .ok (.aload_n 0, 1) := by decide +kernel
theorem dX6_top_13 : decode cX6_top 13 = .ok (.getfield 46, 3) := by decide +kernel
theorem dX6_top_16 : decode cX6_top 16 = .ok (.aload_n 0, 1) := by decide +kernel
theorem dX6_top_17 : decode cX6_top 17 = .ok (.getfield 85, 3) := by decide +kernel
theorem dX6_top_20 : decode cX6_top 20 = .ok (.iconst 1, 1) := by decide +kernel
theorem dX6_top_21 : decode cX6_top 21 = .ok (.isub, 1) := by decide +kernel
theorem dX6_top_22 : decode cX6_top 22 = .ok (.iaload, 1) := by decide +kernel
theorem dX6_top_23 : decode cX6_top 23 = .ok (.ireturn, 1) := by decide +kernel
set_option maxRecDepth 20000 in
theorem ggX6_columnFor_X6_top : GoodIn wsX6_columnFor wsX6_top := goodIn_r _ [10, 11, 12, 13, 14, 15, 16, 17, 18, 19, 20, 21, 22, 23, 24, 25, 26, 27, 28, 29, 30, 31, 32, 33, 34, 35, 36, 37] (by decide +kernel) (by decide +kernel)
set_option maxRecDepth 20000 in
theorem gX6_columnFor_X6_top : GoodIn wsX6_columnFor (wsV RX6 88 RX6 yX6_top wsX6_top) := goodIn_app (goodIn_of _ (by decide +kernel)) ggX6_columnFor_X6_top
theorem dX6_columnFor_0 : decode cX6_columnFor 0 = .ok (.aload_n 0, 1) := by decide +kernel
theorem dX6_columnFor_1 : decode cX6_columnFor 1 = .ok (.invokevirtual 88, 3) := by decide +kernel
theorem dX6_columnFor_4 : decode cX6_columnFor 4 = .ok (.istore_n 2, 1) := by decide +kernel
theorem dX6_columnFor_5 : decode cX6_columnFor 5 = .ok (.iload_n 2, 1) := by decide +kernel
theorem dX6_columnFor_6 : decode cX6_columnFor 6 = .ok (.bipush (-9), 2) := by decide +kernel
theorem dX6_columnFor_8 : decode cX6_columnFor 8 = .ok (.if_icmp .eq 17, 3) := by decide +kernel
theorem dX6_columnFor_11 : decode cX6_columnFor 11 = .ok (.aload_n 0, 1) := by decide +kernel
theorem dX6_columnFor_12 : decode cX6_columnFor 12 = .ok (.getfield 31, 3) := by decide +kernel
theorem dX6_columnFor_15 : decode cX6_columnFor 15 = .ok (.iload_n 2, 1) := by decide +kernel
theorem dX6_columnFor_16 : decode cX6_columnFor 16 = .ok (.iaload, 1) := by decide +kernel
theorem dX6_columnFor_17 : decode cX6_columnFor 17 = .ok (.iconst 1, 1) := by decide +kernel
theorem dX6_columnFor_18 : decode cX6_columnFor 18 = .ok (.if_icmp .ne 7, 3) := by decide +kernel
theorem dX6_columnFor_21 : decode cX6_columnFor 21 = .ok (.iconst 1, 1) := by decide +kernel
theorem dX6_columnFor_22 : decode cX6_columnFor 22 = .ok (.goto 4, 3) := by decide +kernel
theorem dX6_columnFor_25 : decode cX6_columnFor 25 = .ok (.iconst 0, 1) := by decide +kernel
theorem dX6_columnFor_26 : decode cX6_columnFor 26 = .ok (.istore_n 3, 1) := by decide +kernel
theorem dX6_columnFor_27 : decode cX6_columnFor 27 = .ok (.iload_n 1, 1) := by decide +kernel
theorem dX6_columnFor_28 : decode cX6_columnFor 28 = .ok (.iconst 3, 1) := by decide +kernel
theorem dX6_columnFor_29 : decode cX6_columnFor 29 = .ok (.if_icmp .ne 35, 3) := by decide +kernel
theorem dX6_columnFor_32 : decode cX6_columnFor 32 = .ok (.iload_n 3, 1) := by decide +kernel
theorem dX6_columnFor_33 : decode cX6_columnFor 33 = .ok (.ifCond .eq 31, 3) := by decide +kernel
theorem dX6_columnFor_36 : decode cX6_columnFor 36 = .ok (.aload_n 0, 1) := by decide +kernel
theorem dX6_columnFor_37 : decode cX6_columnFor 37 = .ok (.getfield 28, 3) := by decide +kernel
theorem dX6_columnFor_40 : decode cX6_columnFor 40 = .ok (.iload_n 2, 1) := by decide +kernel
theorem dX6_columnFor_41 : decode cX6_columnFor 41 = .ok (.iaload, 1) := by decide +kernel
theorem dX6_columnFor_42 : decode cX6_columnFor 42 = .ok (.aload_n 0, 1) := by decide +kernel
theorem dX6_columnFor_43 : decode cX6_columnFor 43 = .ok (.getfield 49, 3) := by decide +kernel
theorem dX6_columnFor_46 : decode cX6_columnFor 46 = .ok (.iconst 3, 1) := by decide +kernel
theorem dX6_columnFor_47 : decode cX6_columnFor 47 = .ok (.iaload, 1) := by decide +kernel
theorem dX6_columnFor_48 : decode cX6_columnFor 48 = .ok (.iconst 1, 1) := by decide +kernel
theorem dX6_columnFor_49 : decode cX6_columnFor 49 = .ok (.if_icmp .ne 12, 3) := by decide +kernel
theorem dX6_columnFor_52 : decode cX6_columnFor 52 = .ok (.aload_n 0, 1) := by decide +kernel
theorem dX6_columnFor_53 : decode cX6_columnFor 53 = .ok (.getfield 49, 3) := by decide +kernel
theorem dX6_columnFor_56 : decode cX6_columnFor 56 = .ok (.iconst 0, 1) := by decide +kernel
theorem dX6_columnFor_57 : decode cX6_columnFor 57 = .ok (.iaload, 1) := by decide +kernel
theorem dX6_columnFor_58 : decode cX6_columnFor 58 = .ok (.goto 4, 3) := by decide +kernel
theorem dX6_columnFor_61 : decode cX6_columnFor 61 = .ok (.iconst 0, 1) := by decide +kernel
theorem dX6_columnFor_62 : decode cX6_columnFor 62 = .ok (.iadd, 1) := by decide +kernel
theorem dX6_columnFor_63 : decode cX6_columnFor 63 = .ok (.ireturn, 1) := by decide +kernel
theorem dX6_columnFor_64 : decode cX6_columnFor 64 = .ok (.iload_n 2, 1) := by decide +kernel
theorem dX6_columnFor_65 : decode cX6_columnFor 65 = .ok (.bipush (-9), 2) := by decide +kernel
theorem dX6_columnFor_67 : decode cX6_columnFor 67 = .ok (.if_icmp .eq 72, 3) := by decide +kernel
theorem dX6_columnFor_70 : decode cX6_columnFor 70 = .ok (.iload_n 3, 1) := by decide +kernel
theorem dX6_columnFor_71 : decode cX6_columnFor 71 = .ok (.ifCond .ne 68, 3) := by decide +kernel
theorem dX6_columnFor_74 : decode cX6_columnFor 74 = .ok (.iload_n 1, 1) := by decide +kernel
theorem dX6_columnFor_75 : decode cX6_columnFor 75 = .ok (.iconst 5, 1) := by decide +kernel
theorem dX6_columnFor_76 : decode cX6_columnFor 76 = .ok (.if_icmp .ne 7, 3) := by decide +kernel
theorem dX6_columnFor_79 : decode cX6_columnFor 79 = .ok (.iconst 1, 1) := by decide +kernel
theorem dX6_columnFor_80 : decode cX6_columnFor 80 = .ok (.goto 4, 3) := by decide +kernel
theorem dX6_columnFor_83 : decode cX6_columnFor 83 = .ok (.iconst 0, 1) := by decide +kernel
theorem dX6_columnFor_84 : decode cX6_columnFor 84 = .ok (.istore 4, 2) := by decide +kernel
theorem dX6_columnFor_86 : decode cX6_columnFor 86 = .ok (.aload_n 0, 1) := by decide +kernel
theorem dX6_columnFor_87 : decode cX6_columnFor 87 = .ok (.getfield 31, 3) := by decide +kernel
theorem dX6_columnFor_90 : decode cX6_columnFor 90 = .ok (.iload_n 2, 1) := by decide +kernel
theorem dX6_columnFor_91 : decode cX6_columnFor 91 = .ok (.iaload, 1) := by decide +kernel
theorem dX6_columnFor_92 : decode cX6_columnFor 92 = .ok (.iconst 3, 1) := by decide +kernel
theorem dX6_columnFor_93 : decode cX6_columnFor 93 = .ok (.if_icmp .ne 23, 3) := by decide +kernel
theorem dX6_columnFor_96 : decode cX6_columnFor 96 = .ok (.aload_n 0, 1) := by decide +kernel
theorem dX6_columnFor_97 : decode cX6_columnFor 97 = .ok (.getfield 25, 3) := by decide +kernel
theorem dX6_columnFor_100 : decode cX6_columnFor 100 = .ok (.iload_n 2, 1) := by decide +kernel
theorem dX6_columnFor_101 : decode cX6_columnFor 101 = .ok (.iaload, 1) := by decide +kernel
theorem dX6_columnFor_102 : decode cX6_columnFor 102 = .ok (.iload 4, 2) := by decide +kernel
theorem dX6_columnFor_104 : decode cX6_columnFor 104 = .ok (.ifCond .eq 7, 3) := by decide +kernel
theorem dX6_columnFor_107 : decode cX6_columnFor 107 = .ok (.iconst 0, 1) := by decide +kernel
theorem dX6_columnFor_108 : decode cX6_columnFor 108 = .ok (.goto 4, 3) := by decide +kernel
theorem dX6_columnFor_111 : decode cX6_columnFor 111 = .ok (.iconst 1, 1) := by decide +kernel
theorem dX6_columnFor_112 : decode cX6_columnFor 112 = .ok (.iadd, 1) := by decide +kernel
theorem dX6_columnFor_113 : decode cX6_columnFor 113 = .ok (.goto 25, 3) := by decide +kernel
theorem dX6_columnFor_116 : decode cX6_columnFor 116 = .ok (.aload_n 0, 1) := by decide +kernel
theorem dX6_columnFor_117 : decode cX6_columnFor 117 = .ok (.getfield 28, 3) := by decide +kernel
theorem dX6_columnFor_120 : decode cX6_columnFor 120 = .ok (.iload_n 2, 1) := by decide +kernel
theorem dX6_columnFor_121 : decode cX6_columnFor 121 = .ok (.iaload, 1) := by decide +kernel
theorem dX6_columnFor_122 : decode cX6_columnFor 122 = .ok (.iload 4, 2) := by decide +kernel
theorem dX6_columnFor_124 : decode cX6_columnFor 124 = .ok (.ifCond .eq 7, 3) := by decide +kernel
theorem dX6_columnFor_127 : decode cX6_columnFor 127 = .ok (.iconst 0, 1) := by decide +kernel
theorem dX6_columnFor_128 : decode cX6_columnFor 128 = .ok (.goto 9, 3) := by decide +kernel
theorem dX6_columnFor_131 : decode cX6_columnFor 131 = .ok (.aload_n 0, 1) := by decide +kernel
theorem dX6_columnFor_132 : decode cX6_columnFor 132 = .ok (.getfield 49, 3) := by decide +kernel
theorem dX6_columnFor_135 : decode cX6_columnFor 135 = .ok (.iconst 1, 1) := by decide +kernel
theorem dX6_columnFor_136 : decode cX6_columnFor 136 = .ok (.iaload, 1) := by decide +kernel
theorem dX6_columnFor_137 : decode cX6_columnFor 137 = .ok (.iadd, 1) := by decide +kernel
theorem dX6_columnFor_138 : decode cX6_columnFor 138 = .ok (.ireturn, 1) := by decide +kernel
theorem dX6_columnFor_139 : decode cX6_columnFor 139 = .ok (.iload_n 3, 1) := by decide +kernel
theorem dX6_columnFor_140 : decode cX6_columnFor 140 = .ok (.ifCond .eq 19, 3) := by decide +kernel
theorem dX6_columnFor_143 : decode cX6_columnFor 143 = .ok (.aload_n 0, 1) := by decide +kernel
theorem dX6_columnFor_144 : decode cX6_columnFor 144 = .ok (.getfield 28, 3) := by decide +kernel
theorem dX6_columnFor_147 : decode cX6_columnFor 147 = .ok (.iload_n 2, 1) := by decide +kernel
theorem dX6_columnFor_148 : decode cX6_columnFor 148 = .ok (.iaload, 1) := by decide +kernel
theorem dX6_columnFor_149 : decode cX6_columnFor 149 = .ok (.aload_n 0, 1) := by decide +kernel
theorem dX6_columnFor_150 : decode cX6_columnFor 150 = .ok (.getfield 49, 3) := by decide +kernel
theorem dX6_columnFor_153 : decode cX6_columnFor 153 = .ok (.iconst 0, 1) := by decide +kernel
theorem dX6_columnFor_154 : decode cX6_columnFor 154 = .ok (.iaload, 1) := by decide +kernel
theorem dX6_columnFor_155 : decode cX6_columnFor 155 = .ok (.iadd, 1) := by decide +kernel
theorem dX6_columnFor_156 : decode cX6_columnFor 156 = .ok (.goto 4, 3) := by decide +kernel
theorem dX6_columnFor_159 : decode cX6_columnFor 159 = .ok (.iconst 0, 1) := by decide +kernel
theorem dX6_columnFor_160 : decode cX6_columnFor 160 = .ok (.istore 4, 2) := by decide +kernel
theorem dX6_columnFor_162 : decode cX6_columnFor 162 = .ok (.aload_n 0, 1) := by decide +kernel
theorem dX6_columnFor_163 : decode cX6_columnFor 163 = .ok (.getfield 92, 3) := by decide +kernel
theorem dX6_columnFor_166 : decode cX6_columnFor 166 = .ok (.iconst 1, 1) := by decide +kernel
theorem dX6_columnFor_167 : decode cX6_columnFor 167 = .ok (.if_icmp .eq 20, 3) := by decide +kernel
theorem dX6_columnFor_170 : decode cX6_columnFor 170 = .ok (.aload_n 0, 1) := by decide +kernel
theorem dX6_columnFor_171 : decode cX6_columnFor 171 = .ok (.getfield 92, 3) := by decide +kernel
theorem dX6_columnFor_174 : decode cX6_columnFor 174 = .ok (.iconst 5, 1) := by decide +kernel
theorem dX6_columnFor_175 : decode cX6_columnFor 175 = .ok (.if_icmp .eq 12, 3) := by decide +kernel
theorem dX6_columnFor_178 : decode cX6_columnFor 178 = .ok (.aload_n 0, 1) := by decide +kernel
theorem dX6_columnFor_179 : decode cX6_columnFor 179 = .ok (.getfield 92, 3) := by decide +kernel
theorem dX6_columnFor_182 : decode cX6_columnFor 182 = .ok (.bipush 6, 2) := by decide +kernel
theorem dX6_columnFor_184 : decode cX6_columnFor 184 = .ok (.if_icmp .ne 7, 3) := by decide +kernel
theorem dX6_columnFor_187 : decode cX6_columnFor 187 = .ok (.iconst 1, 1) := by decide +kernel
theorem dX6_columnFor_188 : decode cX6_columnFor 188 = .ok (.goto 4, 3) := by decide +kernel
theorem dX6_columnFor_191 : decode cX6_columnFor 191 = .ok (.iconst 0, 1) := by decide +kernel
theorem dX6_columnFor_192 : decode cX6_columnFor 192 = .ok (.istore 5, 2) := by decide +kernel
theorem dX6_columnFor_194 : decode cX6_columnFor 194 = .ok (.iload 5, 2) := by decide +kernel
theorem dX6_columnFor_196 : decode cX6_columnFor 196 = .ok (.ifCond .eq 15, 3) := by decide +kernel
theorem dX6_columnFor_199 : decode cX6_columnFor 199 = .ok (.iload 4, 2) := by decide +kernel
theorem dX6_columnFor_201 : decode cX6_columnFor 201 = .ok (.aload_n 0, 1) := by decide +kernel
theorem dX6_columnFor_202 : decode cX6_columnFor 202 = .ok (.getfield 49, 3) := by decide +kernel
theorem dX6_columnFor_205 : decode cX6_columnFor 205 = .ok (.iconst 1, 1) := by decide +kernel
theorem dX6_columnFor_206 : decode cX6_columnFor 206 = .ok (.iaload, 1) := by decide +kernel
theorem dX6_columnFor_207 : decode cX6_columnFor 207 = .ok (.iadd, 1) := by decide +kernel
theorem dX6_columnFor_208 : decode cX6_columnFor 208 = .ok (.goto 26, 3) := by decide +kernel
theorem dX6_columnFor_211 : decode cX6_columnFor 211 = .ok (.aload_n 0, 1) := by decide +kernel
theorem dX6_columnFor_212 : decode cX6_columnFor 212 = .ok (.getfield 92, 3) := by decide +kernel
theorem dX6_columnFor_215 : decode cX6_columnFor 215 = .ok (.bipush 7, 2) := by decide +kernel
theorem dX6_columnFor_217 : decode cX6_columnFor 217 = .ok (.if_icmp .ne 15, 3) := by decide +kernel
theorem dX6_columnFor_220 : decode cX6_columnFor 220 = .ok (.iload 4, 2) := by decide +kernel
theorem dX6_columnFor_222 : decode cX6_columnFor 222 = .ok (.aload_n 0, 1) := by decide +kernel
theorem dX6_columnFor_223 : decode cX6_columnFor 223 = .ok (.getfield 49, 3) := by decide +kernel
theorem dX6_columnFor_226 : decode cX6_columnFor 226 = .ok (.iconst 0, 1) := by decide +kernel
theorem dX6_columnFor_227 : decode cX6_columnFor 227 = .ok (.iaload, 1) := by decide +kernel
theorem dX6_columnFor_228 : decode cX6_columnFor 228 = .ok (.iadd, 1) := by decide +kernel
theorem dX6_columnFor_229 : decode cX6_columnFor 229 = .ok (.goto 5, 3) := by decide +kernel
theorem dX6_columnFor_232 : decode cX6_columnFor 232 = .ok (.iload 4, 2) := by decide +kernel
theorem dX6_columnFor_234 : decode cX6_columnFor 234 = .ok (.ireturn, 1) := by decide +kernel
theorem dX6_comes_0 : decode cX6_comes 0 = .ok (.aload_n 0, 1) := by decide +kernel
theorem dX6_comes_1 : decode cX6_comes 1 = .ok (.getfield 19, 3) := by decide +kernel
theorem dX6_comes_4 : decode cX6_comes 4 = .ok (.aload_n 0, 1) := by decide +kernel
theorem dX6_comes_5 : decode cX6_comes 5 = .ok (.getfield 95, 3) := by decide +kernel
theorem dX6_comes_8 : decode cX6_comes 8 = .ok (.iload_n 1, 1) := by decide +kernel
theorem dX6_comes_9 : decode cX6_comes 9 = .ok (.iastore, 1) := by decide +kernel
theorem dX6_comes_10 : decode cX6_comes 10 = .ok (.aload_n 0, 1) := by decide +kernel
theorem dX6_comes_11 : decode cX6_comes 11 = .ok (.getfield 22, 3) := by decide +kernel
theorem dX6_comes_14 : decode cX6_comes 14 = .ok (.aload_n 0, 1) := by decide +kernel
theorem dX6_comes_15 : decode cX6_comes 15 = .ok (.getfield 95, 3) := by decide +kernel
theorem dX6_comes_18 : decode cX6_comes 18 = .ok (.iload_n 2, 1) := by decide +kernel
theorem dX6_comes_19 : decode cX6_comes 19 = .ok (.iastore, 1) := by decide +kernel
theorem dX6_comes_20 : decode cX6_comes 20 = .ok (.aload_n 0, 1) := by decide +kernel
theorem dX6_comes_21 : decode cX6_comes 21 = .ok (.getfield 25, 3) := by decide +kernel
theorem dX6_comes_24 : decode cX6_comes 24 = .ok (.aload_n 0, 1) := by decide +kernel
theorem dX6_comes_25 : decode cX6_comes 25 = .ok (.getfield 95, 3) := by decide +kernel
theorem dX6_comes_28 : decode cX6_comes 28 = .ok (.iload_n 3, 1) := by decide +kernel
theorem dX6_comes_29 : decode cX6_comes 29 = .ok (.iastore, 1) := by decide +kernel
theorem dX6_comes_30 : decode cX6_comes 30 = .ok (.aload_n 0, 1) := by decide +kernel
theorem dX6_comes_31 : decode cX6_comes 31 = .ok (.getfield 28, 3) := by decide +kernel
theorem dX6_comes_34 : decode cX6_comes 34 = .ok (.aload_n 0, 1) := by decide +kernel
theorem dX6_comes_35 : decode cX6_comes 35 = .ok (.getfield 95, 3) := by decide +kernel
theorem dX6_comes_38 : decode cX6_comes 38 = .ok (.aload_n 0, 1) := by decide +kernel
theorem dX6_comes_39 : decode cX6_comes 39 = .ok (.getfield 37, 3) := by decide +kernel
theorem dX6_comes_42 : decode cX6_comes 42 = .ok (.iload_n 1, 1) := by decide +kernel
theorem dX6_comes_43 : decode cX6_comes 43 = .ok (.iaload, 1) := by decide +kernel
theorem dX6_comes_44 : decode cX6_comes 44 = .ok (.iastore, 1) := by decide +kernel
theorem dX6_comes_45 : decode cX6_comes 45 = .ok (.aload_n 0, 1) := by decide +kernel
theorem dX6_comes_46 : decode cX6_comes 46 = .ok (.getfield 31, 3) := by decide +kernel
theorem dX6_comes_49 : decode cX6_comes 49 = .ok (.aload_n 0, 1) := by decide +kernel
theorem dX6_comes_50 : decode cX6_comes 50 = .ok (.getfield 95, 3) := by decide +kernel
theorem dX6_comes_53 : decode cX6_comes 53 = .ok (.iload 4, 2) := by decide +kernel
theorem dX6_comes_55 : decode cX6_comes 55 = .ok (.iastore, 1) := by decide +kernel
theorem dX6_comes_56 : decode cX6_comes 56 = .ok (.aload_n 0, 1) := by decide +kernel
theorem dX6_comes_57 : decode cX6_comes 57 = .ok (.getfield 34, 3) := by decide +kernel
theorem dX6_comes_60 : decode cX6_comes 60 = .ok (.aload_n 0, 1) := by decide +kernel
theorem dX6_comes_61 : decode cX6_comes 61 = .ok (.getfield 95, 3) := by decide +kernel
theorem dX6_comes_64 : decode cX6_comes 64 = .ok (.bipush (-9), 2) := by decide +kernel
theorem dX6_comes_66 : decode cX6_comes 66 = .ok (.iastore, 1) := by decide +kernel
theorem dX6_comes_67 : decode cX6_comes 67 = .ok (.aload_n 0, 1) := by decide +kernel
theorem dX6_comes_68 : decode cX6_comes 68 = .ok (.getfield 46, 3) := by decide +kernel
theorem dX6_comes_71 : decode cX6_comes 71 = .ok (.aload_n 0, 1) := by decide +kernel
theorem dX6_comes_72 : decode cX6_comes 72 = .ok (.getfield 85, 3) := by decide +kernel
theorem dX6_comes_75 : decode cX6_comes 75 = .ok (.aload_n 0, 1) := by decide +kernel
theorem dX6_comes_76 : decode cX6_comes 76 = .ok (.getfield 95, 3) := by decide +kernel
theorem dX6_comes_79 : decode cX6_comes 79 = .ok (.iastore, 1) := by decide +kernel
theorem dX6_comes_80 : decode cX6_comes 80 = .ok (.aload_n 0, 1) := by decide +kernel
theorem dX6_comes_81 : decode cX6_comes 81 = .ok (.dup, 1) := by decide +kernel
theorem dX6_comes_82 : decode cX6_comes 82 = .ok (.getfield 85, 3) := by decide +kernel
theorem dX6_comes_85 : decode cX6_comes 85 = .ok (.iconst 1, 1) := by decide +kernel
theorem dX6_comes_86 : decode cX6_comes 86 = .ok (.iadd, 1) := by decide +kernel
theorem dX6_comes_87 : decode cX6_comes 87 = .ok (.putfield 85, 3) := by decide +kernel
theorem dX6_comes_90 : decode cX6_comes 90 = .ok (.aload_n 0, 1) := by decide +kernel
theorem dX6_comes_91 : decode cX6_comes 91 = .ok (.dup, 1) := by decide +kernel
theorem dX6_comes_92 : decode cX6_comes 92 = .ok (.getfield 95, 3) := by decide +kernel
theorem dX6_comes_95 : decode cX6_comes 95 = .ok (.iconst 1, 1) := by decide +kernel
theorem dX6_comes_96 : decode cX6_comes 96 = .ok (.iadd, 1) := by decide +kernel
theorem dX6_comes_97 : decode cX6_comes 97 = .ok (.putfield 95, 3) := by decide +kernel
theorem dX6_comes_100 : decode cX6_comes 100 = .ok (.return_, 1) := by decide +kernel
set_option maxRecDepth 20000 in
theorem ggX6_closes_X6_top : GoodIn wsX6_closes wsX6_top := goodIn_r _ [9, 3, 10, 11, 12, 13, 14, 15, 16, 17, 18, 19, 20, 21, 22, 23, 24, 25, 26, 27, 28, 29, 30, 31, 32, 33, 34, 35] (by decide +kernel) (by decide +kernel)
set_option maxRecDepth 20000 in
theorem gX6_closes_X6_top : GoodIn wsX6_closes (wsV RX6 88 RX6 yX6_top wsX6_top) := goodIn_app (goodIn_of _ (by decide +kernel)) ggX6_closes_X6_top
theorem dX6_closes_0 : decode cX6_closes 0 = .ok (.aload_n 0, 1) := by decide +kernel
theorem dX6_closes_1 : decode cX6_closes 1 = .ok (.invokevirtual 88, 3) := by decide +kernel
theorem dX6_closes_4 : decode cX6_closes 4 = .ok (.istore_n 3, 1) := by decide +kernel
theorem dX6_closes_5 : decode cX6_closes 5 = .ok (.iload_n 3, 1) := by decide +kernel
theorem dX6_closes_6 : decode cX6_closes 6 = .ok (.bipush (-9), 2) := by decide +kernel
theorem dX6_closes_8 : decode cX6_closes 8 = .ok (.if_icmp .eq 42, 3) := by decide +kernel
theorem dX6_closes_11 : decode cX6_closes 11 = .ok (.aload_n 0, 1) := by decide +kernel
theorem dX6_closes_12 : decode cX6_closes 12 = .ok (.getfield 31, 3) := by decide +kernel
theorem dX6_closes_15 : decode cX6_closes 15 = .ok (.iload_n 3, 1) := by decide +kernel
theorem dX6_closes_16 : decode cX6_closes 16 = .ok (.iaload, 1) := by decide +kernel
theorem dX6_closes_17 : decode cX6_closes 17 = .ok (.iconst 1, 1) := by decide +kernel
theorem dX6_closes_18 : decode cX6_closes 18 = .ok (.if_icmp .ne 7, 3) := by decide +kernel
theorem dX6_closes_21 : decode cX6_closes 21 = .ok (.iconst 1, 1) := by decide +kernel
theorem dX6_closes_22 : decode cX6_closes 22 = .ok (.goto 4, 3) := by decide +kernel
theorem dX6_closes_25 : decode cX6_closes 25 = .ok (.iconst 0, 1) := by decide +kernel
theorem dX6_closes_26 : decode cX6_closes 26 = .ok (.iload_n 2, 1) := by decide +kernel
theorem dX6_closes_27 : decode cX6_closes 27 = .ok (.if_icmp .ne 23, 3) := by decide +kernel
theorem dX6_closes_30 : decode cX6_closes 30 = .ok (.aload_n 0, 1) := by decide +kernel
theorem dX6_closes_31 : decode cX6_closes 31 = .ok (.getfield 34, 3) := by decide +kernel
theorem dX6_closes_34 : decode cX6_closes 34 = .ok (.iload_n 3, 1) := by decide +kernel
theorem dX6_closes_35 : decode cX6_closes 35 = .ok (.iload_n 1, 1) := by decide +kernel
theorem dX6_closes_36 : decode cX6_closes 36 = .ok (.iastore, 1) := by decide +kernel
theorem dX6_closes_37 : decode cX6_closes 37 = .ok (.aload_n 0, 1) := by decide +kernel
theorem dX6_closes_38 : decode cX6_closes 38 = .ok (.dup, 1) := by decide +kernel
theorem dX6_closes_39 : decode cX6_closes 39 = .ok (.getfield 85, 3) := by decide +kernel
theorem dX6_closes_42 : decode cX6_closes 42 = .ok (.iconst 1, 1) := by decide +kernel
theorem dX6_closes_43 : decode cX6_closes 43 = .ok (.isub, 1) := by decide +kernel
theorem dX6_closes_44 : decode cX6_closes 44 = .ok (.putfield 85, 3) := by decide +kernel
theorem dX6_closes_47 : decode cX6_closes 47 = .ok (.goto 13, 3) := by decide +kernel
theorem dX6_closes_50 : decode cX6_closes 50 = .ok (.aload_n 0, 1) := by decide +kernel
theorem dX6_closes_51 : decode cX6_closes 51 = .ok (.getfield 43, 3) := by decide +kernel
theorem dX6_closes_54 : decode cX6_closes 54 = .ok (.iload_n 1, 1) := by decide +kernel
theorem dX6_closes_55 : decode cX6_closes 55 = .ok (.dup2, 1) := by decide +kernel
theorem dX6_closes_56 : decode cX6_closes 56 = .ok (.iaload, 1) := by decide +kernel
theorem dX6_closes_57 : decode cX6_closes 57 = .ok (.iconst 1, 1) := by decide +kernel
theorem dX6_closes_58 : decode cX6_closes 58 = .ok (.iadd, 1) := by decide +kernel
theorem dX6_closes_59 : decode cX6_closes 59 = .ok (.iastore, 1) := by decide +kernel
theorem dX6_closes_60 : decode cX6_closes 60 = .ok (.return_, 1) := by decide +kernel
set_option maxRecDepth 20000 in
theorem ggX6_goesToken_X6_tokenAt : GoodIn wsX6_goesToken wsX6_tokenAt := goodIn_r _ [7, 8, 9, 6, 10] (by decide +kernel) (by decide +kernel)
set_option maxRecDepth 20000 in
theorem gX6_goesToken_X6_tokenAt : GoodIn wsX6_goesToken (va_wsS RX6 98 yX6_tokenAt wsX6_tokenAt) := goodIn_app (goodIn_of _ (by decide +kernel)) ggX6_goesToken_X6_tokenAt
set_option maxRecDepth 20000 in
theorem ggX6_goesToken_X6_comes : GoodIn wsX6_goesToken wsX6_comes := goodIn_r _ [14, 15, 16, 17, 18, 19, 20, 21, 22, 23, 24, 34, 35, 36, 37, 38, 39, 40, 41, 42, 43, 44, 45, 46, 47, 48, 49, 50, 51, 52, 53, 54, 55, 56, 57, 58] (by decide +kernel) (by decide +kernel)
set_option maxRecDepth 20000 in
theorem gX6_goesToken_X6_comes : GoodIn wsX6_goesToken (wsV RX6 102 RX6 yX6_comes wsX6_comes) := goodIn_app (goodIn_of _ (by decide +kernel)) ggX6_goesToken_X6_comes
set_option maxRecDepth 20000 in
theorem ggX6_goesToken_X6_closes : GoodIn wsX6_goesToken wsX6_closes := goodIn_r _ [28, 21, 22, 24, 29, 30, 31, 32, 6, 33, 23, 34, 35, 36, 37, 38, 39, 40, 41, 42, 43, 44, 45, 46, 47, 48, 49, 50, 51, 52, 53, 54, 55, 56, 57, 58] (by decide +kernel) (by decide +kernel)
set_option maxRecDepth 20000 in
theorem gX6_goesToken_X6_closes : GoodIn wsX6_goesToken (wsV RX6 106 RX6 yX6_closes wsX6_closes) := goodIn_app (goodIn_of _ (by decide +kernel)) ggX6_goesToken_X6_closes
theorem dX6_goesToken_0 : decode cX6_goesToken 0 = .ok (.aload_n 0, 1) := by decide +kernel
theorem dX6_goesToken_1 : decode cX6_goesToken 1 = .ok (.getfield 7, 3) := by decide +kernel
theorem dX6_goesToken_4 : decode cX6_goesToken 4 = .ok (.iload_n 1, 1) := by decide +kernel
theorem dX6_goesToken_5 : decode cX6_goesToken 5 = .ok (.iaload, 1) := by decide +kernel
theorem dX6_goesToken_6 : decode cX6_goesToken 6 = .ok (.iload_n 2, 1) := by decide +kernel
theorem dX6_goesToken_7 : decode cX6_goesToken 7 = .ok (.invokestatic 98, 3) := by decide +kernel
theorem dX6_goesToken_10 : decode cX6_goesToken 10 = .ok (.istore 5, 2) := by decide +kernel
theorem dX6_goesToken_12 : decode cX6_goesToken 12 = .ok (.iload 5, 2) := by decide +kernel
theorem dX6_goesToken_14 : decode cX6_goesToken 14 = .ok (.tableswitch 110 2 5 #[30, 42, 51, 101], 30) := by decide +kernel
theorem dX6_goesToken_44 : decode cX6_goesToken 44 = .ok (.aload_n 0, 1) := by decide +kernel
theorem dX6_goesToken_45 : decode cX6_goesToken 45 = .ok (.iload_n 1, 1) := by decide +kernel
theorem dX6_goesToken_46 : decode cX6_goesToken 46 = .ok (.iload_n 2, 1) := by decide +kernel
theorem dX6_goesToken_47 : decode cX6_goesToken 47 = .ok (.iload 4, 2) := by decide +kernel
theorem dX6_goesToken_49 : decode cX6_goesToken 49 = .ok (.iconst 1, 1) := by decide +kernel
theorem dX6_goesToken_50 : decode cX6_goesToken 50 = .ok (.invokevirtual 102, 3) := by decide +kernel
theorem dX6_goesToken_53 : decode cX6_goesToken 53 = .ok (.goto 71, 3) := by decide +kernel
theorem dX6_goesToken_56 : decode cX6_goesToken 56 = .ok (.aload_n 0, 1) := by decide +kernel
theorem dX6_goesToken_57 : decode cX6_goesToken 57 = .ok (.iload_n 1, 1) := by decide +kernel
theorem dX6_goesToken_58 : decode cX6_goesToken 58 = .ok (.iconst 1, 1) := by decide +kernel
theorem dX6_goesToken_59 : decode cX6_goesToken 59 = .ok (.invokevirtual 106, 3) := by decide +kernel
theorem dX6_goesToken_62 : decode cX6_goesToken 62 = .ok (.goto 62, 3) := by decide +kernel
theorem dX6_goesToken_65 : decode cX6_goesToken 65 = .ok (.aload_n 0, 1) := by decide +kernel
theorem dX6_goesToken_66 : decode cX6_goesToken 66 = .ok (.iload_n 1, 1) := by decide +kernel
theorem dX6_goesToken_67 : decode cX6_goesToken 67 = .ok (.iload_n 2, 1) := by decide +kernel
theorem dX6_goesToken_68 : decode cX6_goesToken 68 = .ok (.iload 4, 2) := by decide +kernel
theorem dX6_goesToken_70 : decode cX6_goesToken 70 = .ok (.aload_n 0, 1) := by decide +kernel
theorem dX6_goesToken_71 : decode cX6_goesToken 71 = .ok (.getfield 49, 3) := by decide +kernel
theorem dX6_goesToken_74 : decode cX6_goesToken 74 = .ok (.iconst 2, 1) := by decide +kernel
theorem dX6_goesToken_75 : decode cX6_goesToken 75 = .ok (.iaload, 1) := by decide +kernel
theorem dX6_goesToken_76 : decode cX6_goesToken 76 = .ok (.iconst 1, 1) := by decide +kernel
theorem dX6_goesToken_77 : decode cX6_goesToken 77 = .ok (.if_icmp .ne 31, 3) := by decide +kernel
theorem dX6_goesToken_80 : decode cX6_goesToken 80 = .ok (.iload_n 2, 1) := by decide +kernel
theorem dX6_goesToken_81 : decode cX6_goesToken 81 = .ok (.iconst 1, 1) := by decide +kernel
theorem dX6_goesToken_82 : decode cX6_goesToken 82 = .ok (.iadd, 1) := by decide +kernel
theorem dX6_goesToken_83 : decode cX6_goesToken 83 = .ok (.iload_n 3, 1) := by decide +kernel
theorem dX6_goesToken_84 : decode cX6_goesToken 84 = .ok (.if_icmp .ge 24, 3) := by decide +kernel
theorem dX6_goesToken_87 : decode cX6_goesToken 87 = .ok (.aload_n 0, 1) := by decide +kernel
theorem dX6_goesToken_88 : decode cX6_goesToken 88 = .ok (.getfield 7, 3) := by decide +kernel
theorem dX6_goesToken_91 : decode cX6_goesToken 91 = .ok (.iload_n 1, 1) := by decide +kernel
theorem dX6_goesToken_92 : decode cX6_goesToken 92 = .ok (.iaload, 1) := by decide +kernel
theorem dX6_goesToken_93 : decode cX6_goesToken 93 = .ok (.iload_n 2, 1) := by decide +kernel
theorem dX6_goesToken_94 : decode cX6_goesToken 94 = .ok (.iconst 1, 1) := by decide +kernel
theorem dX6_goesToken_95 : decode cX6_goesToken 95 = .ok (.iadd, 1) := by decide +kernel
theorem dX6_goesToken_96 : decode cX6_goesToken 96 = .ok (.invokestatic 98, 3) := by decide +kernel
theorem dX6_goesToken_99 : decode cX6_goesToken 99 = .ok (.bipush 9, 2) := by decide +kernel
theorem dX6_goesToken_101 : decode cX6_goesToken 101 = .ok (.if_icmp .eq 7, 3) := by decide +kernel
theorem dX6_goesToken_104 : decode cX6_goesToken 104 = .ok (.iconst 3, 1) := by decide +kernel
theorem dX6_goesToken_105 : decode cX6_goesToken 105 = .ok (.goto 4, 3) := by decide +kernel
theorem dX6_goesToken_108 : decode cX6_goesToken 108 = .ok (.iconst 2, 1) := by decide +kernel
theorem dX6_goesToken_109 : decode cX6_goesToken 109 = .ok (.invokevirtual 102, 3) := by decide +kernel
theorem dX6_goesToken_112 : decode cX6_goesToken 112 = .ok (.goto 12, 3) := by decide +kernel
theorem dX6_goesToken_115 : decode cX6_goesToken 115 = .ok (.aload_n 0, 1) := by decide +kernel
theorem dX6_goesToken_116 : decode cX6_goesToken 116 = .ok (.iload_n 1, 1) := by decide +kernel
theorem dX6_goesToken_117 : decode cX6_goesToken 117 = .ok (.iconst 0, 1) := by decide +kernel
theorem dX6_goesToken_118 : decode cX6_goesToken 118 = .ok (.invokevirtual 106, 3) := by decide +kernel
theorem dX6_goesToken_121 : decode cX6_goesToken 121 = .ok (.goto 3, 3) := by decide +kernel
theorem dX6_goesToken_124 : decode cX6_goesToken 124 = .ok (.aload_n 0, 1) := by decide +kernel
theorem dX6_goesToken_125 : decode cX6_goesToken 125 = .ok (.iload 5, 2) := by decide +kernel
theorem dX6_goesToken_127 : decode cX6_goesToken 127 = .ok (.bipush 9, 2) := by decide +kernel
theorem dX6_goesToken_129 : decode cX6_goesToken 129 = .ok (.if_icmp .ne 10, 3) := by decide +kernel
theorem dX6_goesToken_132 : decode cX6_goesToken 132 = .ok (.aload_n 0, 1) := by decide +kernel
theorem dX6_goesToken_133 : decode cX6_goesToken 133 = .ok (.getfield 92, 3) := by decide +kernel
theorem dX6_goesToken_136 : decode cX6_goesToken 136 = .ok (.goto 5, 3) := by decide +kernel
theorem dX6_goesToken_139 : decode cX6_goesToken 139 = .ok (.iload 5, 2) := by decide +kernel
theorem dX6_goesToken_141 : decode cX6_goesToken 141 = .ok (.putfield 92, 3) := by decide +kernel
theorem dX6_goesToken_144 : decode cX6_goesToken 144 = .ok (.return_, 1) := by decide +kernel
set_option maxRecDepth 20000 in
theorem ggX6_goesLine_X6_lengthOf : GoodIn wsX6_goesLine wsX6_lengthOf := goodIn_r _ [9] (by decide +kernel) (by decide +kernel)
set_option maxRecDepth 20000 in
theorem gX6_goesLine_X6_lengthOf : GoodIn wsX6_goesLine (va_wsS RX6 81 yX6_lengthOf wsX6_lengthOf) := goodIn_app (goodIn_of _ (by decide +kernel)) ggX6_goesLine_X6_lengthOf
set_option maxRecDepth 20000 in
theorem ggX6_goesLine_X6_tokenAt : GoodIn wsX6_goesLine wsX6_tokenAt := goodIn_r _ [12, 6, 7, 8, 9] (by decide +kernel) (by decide +kernel)
set_option maxRecDepth 20000 in
theorem gX6_goesLine_X6_tokenAt : GoodIn wsX6_goesLine (va_wsS RX6 98 yX6_tokenAt wsX6_tokenAt) := goodIn_app (goodIn_of _ (by decide +kernel)) ggX6_goesLine_X6_tokenAt
set_option maxRecDepth 20000 in
theorem ggX6_goesLine_X6_columnFor : GoodIn wsX6_goesLine wsX6_columnFor := goodIn_r _ [16, 17, 18, 19, 20, 21, 22, 23, 24, 8, 25, 3, 26, 46, 47, 48, 49, 50, 51, 52, 53, 54, 55, 56, 57, 58, 59, 60, 61, 62, 63, 64, 65, 66, 67, 68, 69, 70] (by decide +kernel) (by decide +kernel)
set_option maxRecDepth 20000 in
theorem gX6_goesLine_X6_columnFor : GoodIn wsX6_goesLine (wsV RX6 110 RX6 yX6_columnFor wsX6_columnFor) := goodIn_app (goodIn_of _ (by decide +kernel)) ggX6_goesLine_X6_columnFor
set_option maxRecDepth 20000 in
theorem ggX6_goesLine_X6_goesToken : GoodIn wsX6_goesLine wsX6_goesToken := goodIn_r _ [30, 1, 19, 21, 10, 11, 8, 12, 6, 7, 9, 31, 32, 33, 34, 35, 36, 37, 20, 18, 5, 17, 38, 26, 3, 39, 40, 41, 42, 4, 22, 23, 24, 25, 46, 47, 48, 49, 50, 51, 52, 53, 54, 55, 56, 57, 58, 59, 60, 61, 62, 63, 64, 65, 66, 67, 68, 69, 70] (by decide +kernel) (by decide +kernel)
set_option maxRecDepth 20000 in
theorem gX6_goesLine_X6_goesToken : GoodIn wsX6_goesLine (wsV RX6 113 RX6 yX6_goesToken wsX6_goesToken) := goodIn_app (goodIn_of _ (by decide +kernel)) ggX6_goesLine_X6_goesToken
set_option maxRecDepth 20000 in
theorem ggX6_goesLine_X6_widthOf : GoodIn wsX6_goesLine wsX6_widthOf := goodIn_r _ [45] (by decide +kernel) (by decide +kernel)
set_option maxRecDepth 20000 in
theorem gX6_goesLine_X6_widthOf : GoodIn wsX6_goesLine (va_wsS RX6 116 yX6_widthOf wsX6_widthOf) := goodIn_app (goodIn_of _ (by decide +kernel)) ggX6_goesLine_X6_widthOf
theorem dX6_goesLine_0 : decode cX6_goesLine 0 = .ok (.aload_n 0, 1) := by decide +kernel
theorem dX6_goesLine_1 : decode cX6_goesLine 1 = .ok (.getfield 7, 3) := by decide +kernel
theorem dX6_goesLine_4 : decode cX6_goesLine 4 = .ok (.iload_n 1, 1) := by decide +kernel
theorem dX6_goesLine_5 : decode cX6_goesLine 5 = .ok (.iaload, 1) := by decide +kernel
theorem dX6_goesLine_6 : decode cX6_goesLine 6 = .ok (.invokestatic 81, 3) := by decide +kernel
theorem dX6_goesLine_9 : decode cX6_goesLine 9 = .ok (.istore_n 2, 1) := by decide +kernel
theorem dX6_goesLine_10 : decode cX6_goesLine 10 = .ok (.aload_n 0, 1) := by decide +kernel
theorem dX6_goesLine_11 : decode cX6_goesLine 11 = .ok (.getfield 40, 3) := by decide +kernel
theorem dX6_goesLine_14 : decode cX6_goesLine 14 = .ok (.iload_n 1, 1) := by decide +kernel
theorem dX6_goesLine_15 : decode cX6_goesLine 15 = .ok (.aload_n 0, 1) := by decide +kernel
theorem dX6_goesLine_16 : decode cX6_goesLine 16 = .ok (.getfield 85, 3) := by decide +kernel
theorem dX6_goesLine_19 : decode cX6_goesLine 19 = .ok (.iastore, 1) := by decide +kernel
theorem dX6_goesLine_20 : decode cX6_goesLine 20 = .ok (.aload_n 0, 1) := by decide +kernel
theorem dX6_goesLine_21 : decode cX6_goesLine 21 = .ok (.getfield 43, 3) := by decide +kernel
theorem dX6_goesLine_24 : decode cX6_goesLine 24 = .ok (.iload_n 1, 1) := by decide +kernel
theorem dX6_goesLine_25 : decode cX6_goesLine 25 = .ok (.iconst 0, 1) := by decide +kernel
theorem dX6_goesLine_26 : decode cX6_goesLine 26 = .ok (.iastore, 1) := by decide +kernel
theorem dX6_goesLine_27 : decode cX6_goesLine 27 = .ok (.aload_n 0, 1) := by decide +kernel
theorem dX6_goesLine_28 : decode cX6_goesLine 28 = .ok (.getfield 37, 3) := by decide +kernel
theorem dX6_goesLine_31 : decode cX6_goesLine 31 = .ok (.iload_n 1, 1) := by decide +kernel
theorem dX6_goesLine_32 : decode cX6_goesLine 32 = .ok (.iload_n 2, 1) := by decide +kernel
theorem dX6_goesLine_33 : decode cX6_goesLine 33 = .ok (.ifCond .ne 7, 3) := by decide +kernel
theorem dX6_goesLine_36 : decode cX6_goesLine 36 = .ok (.iconst 0, 1) := by decide +kernel
theorem dX6_goesLine_37 : decode cX6_goesLine 37 = .ok (.goto 17, 3) := by decide +kernel
theorem dX6_goesLine_40 : decode cX6_goesLine 40 = .ok (.aload_n 0, 1) := by decide +kernel
theorem dX6_goesLine_41 : decode cX6_goesLine 41 = .ok (.aload_n 0, 1) := by decide +kernel
theorem dX6_goesLine_42 : decode cX6_goesLine 42 = .ok (.getfield 7, 3) := by decide +kernel
theorem dX6_goesLine_45 : decode cX6_goesLine 45 = .ok (.iload_n 1, 1) := by decide +kernel
theorem dX6_goesLine_46 : decode cX6_goesLine 46 = .ok (.iaload, 1) := by decide +kernel
theorem dX6_goesLine_47 : decode cX6_goesLine 47 = .ok (.iconst 0, 1) := by decide +kernel
theorem dX6_goesLine_48 : decode cX6_goesLine 48 = .ok (.invokestatic 98, 3) := by decide +kernel
theorem dX6_goesLine_51 : decode cX6_goesLine 51 = .ok (.invokevirtual 110, 3) := by decide +kernel
theorem dX6_goesLine_54 : decode cX6_goesLine 54 = .ok (.iastore, 1) := by decide +kernel
theorem dX6_goesLine_55 : decode cX6_goesLine 55 = .ok (.aload_n 0, 1) := by decide +kernel
theorem dX6_goesLine_56 : decode cX6_goesLine 56 = .ok (.getfield 37, 3) := by decide +kernel
theorem dX6_goesLine_59 : decode cX6_goesLine 59 = .ok (.iload_n 1, 1) := by decide +kernel
theorem dX6_goesLine_60 : decode cX6_goesLine 60 = .ok (.iaload, 1) := by decide +kernel
theorem dX6_goesLine_61 : decode cX6_goesLine 61 = .ok (.istore_n 3, 1) := by decide +kernel
theorem dX6_goesLine_62 : decode cX6_goesLine 62 = .ok (.iconst 1, 1) := by decide +kernel
theorem dX6_goesLine_63 : decode cX6_goesLine 63 = .ok (.istore 4, 2) := by decide +kernel
theorem dX6_goesLine_65 : decode cX6_goesLine 65 = .ok (.iconst 0, 1) := by decide +kernel
theorem dX6_goesLine_66 : decode cX6_goesLine 66 = .ok (.istore 5, 2) := by decide +kernel
theorem dX6_goesLine_68 : decode cX6_goesLine 68 = .ok (.iload 5, 2) := by decide +kernel
theorem dX6_goesLine_70 : decode cX6_goesLine 70 = .ok (.iload_n 2, 1) := by decide +kernel
theorem dX6_goesLine_71 : decode cX6_goesLine 71 = .ok (.if_icmp .ge 63, 3) := by decide +kernel
theorem dX6_goesLine_74 : decode cX6_goesLine 74 = .ok (.iload 4, 2) := by decide +kernel
theorem dX6_goesLine_76 : decode cX6_goesLine 76 = .ok (.ifCond .eq 58, 3) := by decide +kernel
theorem dX6_goesLine_79 : decode cX6_goesLine 79 = .ok (.aload_n 0, 1) := by decide +kernel
theorem dX6_goesLine_80 : decode cX6_goesLine 80 = .ok (.iload_n 1, 1) := by decide +kernel
theorem dX6_goesLine_81 : decode cX6_goesLine 81 = .ok (.iload 5, 2) := by decide +kernel
theorem dX6_goesLine_83 : decode cX6_goesLine 83 = .ok (.iload_n 2, 1) := by decide +kernel
theorem dX6_goesLine_84 : decode cX6_goesLine 84 = .ok (.iload_n 3, 1) := by decide +kernel
theorem dX6_goesLine_85 : decode cX6_goesLine 85 = .ok (.invokevirtual 113, 3) := by decide +kernel
theorem dX6_goesLine_88 : decode cX6_goesLine 88 = .ok (.iload_n 3, 1) := by decide +kernel
theorem dX6_goesLine_89 : decode cX6_goesLine 89 = .ok (.aload_n 0, 1) := by decide +kernel
theorem dX6_goesLine_90 : decode cX6_goesLine 90 = .ok (.getfield 7, 3) := by decide +kernel
theorem dX6_goesLine_93 : decode cX6_goesLine 93 = .ok (.iload_n 1, 1) := by decide +kernel
theorem dX6_goesLine_94 : decode cX6_goesLine 94 = .ok (.iaload, 1) := by decide +kernel
theorem dX6_goesLine_95 : decode cX6_goesLine 95 = .ok (.iload 5, 2) := by decide +kernel
theorem dX6_goesLine_97 : decode cX6_goesLine 97 = .ok (.invokestatic 98, 3) := by decide +kernel
theorem dX6_goesLine_100 : decode cX6_goesLine 100 = .ok (.invokestatic 116, 3) := by decide +kernel
theorem dX6_goesLine_103 : decode cX6_goesLine 103 = .ok (.iadd, 1) := by decide +kernel
theorem dX6_goesLine_104 : decode cX6_goesLine 104 = .ok (.istore_n 3, 1) := by decide +kernel
theorem dX6_goesLine_105 : decode cX6_goesLine 105 = .ok (.aload_n 0, 1) := by decide +kernel
theorem dX6_goesLine_106 : decode cX6_goesLine 106 = .ok (.getfield 7, 3) := by decide +kernel
theorem dX6_goesLine_109 : decode cX6_goesLine 109 = .ok (.iload_n 1, 1) := by decide +kernel
theorem dX6_goesLine_110 : decode cX6_goesLine 110 = .ok (.iaload, 1) := by decide +kernel
theorem dX6_goesLine_111 : decode cX6_goesLine 111 = .ok (.iload 5, 2) := by decide +kernel
theorem dX6_goesLine_113 : decode cX6_goesLine 113 = .ok (.invokestatic 98, 3) := by decide +kernel
theorem dX6_goesLine_116 : decode cX6_goesLine 116 = .ok (.bipush 9, 2) := by decide +kernel
theorem dX6_goesLine_118 : decode cX6_goesLine 118 = .ok (.if_icmp .eq 7, 3) := by decide +kernel
theorem dX6_goesLine_121 : decode cX6_goesLine 121 = .ok (.iconst 1, 1) := by decide +kernel
theorem dX6_goesLine_122 : decode cX6_goesLine 122 = .ok (.goto 4, 3) := by decide +kernel
theorem dX6_goesLine_125 : decode cX6_goesLine 125 = .ok (.iconst 0, 1) := by decide +kernel
theorem dX6_goesLine_126 : decode cX6_goesLine 126 = .ok (.istore 4, 2) := by decide +kernel
theorem dX6_goesLine_128 : decode cX6_goesLine 128 = .ok (.iinc 5 1, 3) := by decide +kernel
theorem dX6_goesLine_131 : decode cX6_goesLine 131 = .ok (.goto (-63), 3) := by decide +kernel
theorem dX6_goesLine_134 : decode cX6_goesLine 134 = .ok (.return_, 1) := by decide +kernel
set_option maxRecDepth 20000 in
theorem ggX6_goesBy_X6_goesLine : GoodIn wsX6_goesBy wsX6_goesLine := goodIn_r _ [10, 11, 12, 3, 13, 14, 15, 16, 9, 17, 18, 19, 20, 21, 22, 23, 24, 25, 26, 1, 27, 4, 28, 29, 30, 31, 32, 33, 34, 35, 36, 37, 38, 39, 40, 41, 2, 42, 43, 44, 45, 46, 47, 48, 49, 50, 51, 52, 53, 54, 55, 56, 57, 58, 59, 60, 61, 62, 63, 64, 65, 66, 67, 68, 69, 70, 71, 72, 73, 74, 75] (by decide +kernel) (by decide +kernel)
set_option maxRecDepth 20000 in
theorem gX6_goesBy_X6_goesLine : GoodIn wsX6_goesBy (wsV RX6 119 RX6 yX6_goesLine wsX6_goesLine) := goodIn_app (goodIn_of _ (by decide +kernel)) ggX6_goesBy_X6_goesLine
theorem dX6_goesBy_0 : decode cX6_goesBy 0 = .ok (.aload_n 0, 1) := by decide +kernel
theorem dX6_goesBy_1 : decode cX6_goesBy 1 = .ok (.getfield 49, 3) := by decide +kernel
theorem dX6_goesBy_4 : decode cX6_goesBy 4 = .ok (.iconst 0, 1) := by decide +kernel
theorem dX6_goesBy_5 : decode cX6_goesBy 5 = .ok (.iload_n 1, 1) := by decide +kernel
theorem dX6_goesBy_6 : decode cX6_goesBy 6 = .ok (.iastore, 1) := by decide +kernel
theorem dX6_goesBy_7 : decode cX6_goesBy 7 = .ok (.aload_n 0, 1) := by decide +kernel
theorem dX6_goesBy_8 : decode cX6_goesBy 8 = .ok (.getfield 49, 3) := by decide +kernel
theorem dX6_goesBy_11 : decode cX6_goesBy 11 = .ok (.iconst 1, 1) := by decide +kernel
theorem dX6_goesBy_12 : decode cX6_goesBy 12 = .ok (.iload_n 2, 1) := by decide +kernel
theorem dX6_goesBy_13 : decode cX6_goesBy 13 = .ok (.iastore, 1) := by decide +kernel
theorem dX6_goesBy_14 : decode cX6_goesBy 14 = .ok (.aload_n 0, 1) := by decide +kernel
theorem dX6_goesBy_15 : decode cX6_goesBy 15 = .ok (.getfield 49, 3) := by decide +kernel
theorem dX6_goesBy_18 : decode cX6_goesBy 18 = .ok (.iconst 2, 1) := by decide +kernel
theorem dX6_goesBy_19 : decode cX6_goesBy 19 = .ok (.iload_n 3, 1) := by decide +kernel
theorem dX6_goesBy_20 : decode cX6_goesBy 20 = .ok (.iastore, 1) := by decide +kernel
theorem dX6_goesBy_21 : decode cX6_goesBy 21 = .ok (.aload_n 0, 1) := by decide +kernel
theorem dX6_goesBy_22 : decode cX6_goesBy 22 = .ok (.getfield 49, 3) := by decide +kernel
theorem dX6_goesBy_25 : decode cX6_goesBy 25 = .ok (.iconst 3, 1) := by decide +kernel
theorem dX6_goesBy_26 : decode cX6_goesBy 26 = .ok (.iload 4, 2) := by decide +kernel
theorem dX6_goesBy_28 : decode cX6_goesBy 28 = .ok (.iastore, 1) := by decide +kernel
theorem dX6_goesBy_29 : decode cX6_goesBy 29 = .ok (.aload_n 0, 1) := by decide +kernel
theorem dX6_goesBy_30 : decode cX6_goesBy 30 = .ok (.iconst 0, 1) := by decide +kernel
theorem dX6_goesBy_31 : decode cX6_goesBy 31 = .ok (.putfield 95, 3) := by decide +kernel
theorem dX6_goesBy_34 : decode cX6_goesBy 34 = .ok (.aload_n 0, 1) := by decide +kernel
theorem dX6_goesBy_35 : decode cX6_goesBy 35 = .ok (.iconst 0, 1) := by decide +kernel
theorem dX6_goesBy_36 : decode cX6_goesBy 36 = .ok (.putfield 85, 3) := by decide +kernel
theorem dX6_goesBy_39 : decode cX6_goesBy 39 = .ok (.aload_n 0, 1) := by decide +kernel
theorem dX6_goesBy_40 : decode cX6_goesBy 40 = .ok (.iconst 0, 1) := by decide +kernel
theorem dX6_goesBy_41 : decode cX6_goesBy 41 = .ok (.putfield 92, 3) := by decide +kernel
theorem dX6_goesBy_44 : decode cX6_goesBy 44 = .ok (.iconst 0, 1) := by decide +kernel
theorem dX6_goesBy_45 : decode cX6_goesBy 45 = .ok (.istore 5, 2) := by decide +kernel
theorem dX6_goesBy_47 : decode cX6_goesBy 47 = .ok (.iload 5, 2) := by decide +kernel
theorem dX6_goesBy_49 : decode cX6_goesBy 49 = .ok (.aload_n 0, 1) := by decide +kernel
theorem dX6_goesBy_50 : decode cX6_goesBy 50 = .ok (.getfield 73, 3) := by decide +kernel
theorem dX6_goesBy_53 : decode cX6_goesBy 53 = .ok (.if_icmp .ge 15, 3) := by decide +kernel
theorem dX6_goesBy_56 : decode cX6_goesBy 56 = .ok (.aload_n 0, 1) := by decide +kernel
theorem dX6_goesBy_57 : decode cX6_goesBy 57 = .ok (.iload 5, 2) := by decide +kernel
theorem dX6_goesBy_59 : decode cX6_goesBy 59 = .ok (.invokevirtual 119, 3) := by decide +kernel
theorem dX6_goesBy_62 : decode cX6_goesBy 62 = .ok (.iinc 5 1, 3) := by decide +kernel
theorem dX6_goesBy_65 : decode cX6_goesBy 65 = .ok (.goto (-18), 3) := by decide +kernel
theorem dX6_goesBy_68 : decode cX6_goesBy 68 = .ok (.return_, 1) := by decide +kernel
set_option maxRecDepth 20000 in
theorem ggX6_goes_X6_goesBy : GoodIn wsX6_goes wsX6_goesBy := goodIn_r _ [6, 7, 8, 9, 10, 11, 12, 13, 14, 5, 15, 16, 17, 18, 19, 20, 21, 22, 23, 24, 25, 26, 27, 28, 29, 30, 31, 32, 33, 34, 35, 36, 37, 38, 39, 40, 41, 42, 43, 44, 45, 46, 47, 48, 49, 50, 51, 52, 53, 54, 55, 56, 57, 58, 59, 60, 61, 62, 63, 64, 65, 66, 67, 68, 69, 70, 71, 72, 73, 74, 75, 76, 77, 78, 79, 80] (by decide +kernel) (by decide +kernel)
set_option maxRecDepth 20000 in
theorem gX6_goes_X6_goesBy : GoodIn wsX6_goes (wsV RX6 123 RX6 yX6_goesBy wsX6_goesBy) := goodIn_app (goodIn_of _ (by decide +kernel)) ggX6_goes_X6_goesBy
theorem dX6_goes_0 : decode cX6_goes 0 = .ok (.aload_n 0, 1) := by decide +kernel
theorem dX6_goes_1 : decode cX6_goes 1 = .ok (.aload_n 0, 1) := by decide +kernel
theorem dX6_goes_2 : decode cX6_goes 2 = .ok (.getfield 16, 3) := by decide +kernel
theorem dX6_goes_5 : decode cX6_goes 5 = .ok (.iconst 0, 1) := by decide +kernel
theorem dX6_goes_6 : decode cX6_goes 6 = .ok (.iaload, 1) := by decide +kernel
theorem dX6_goes_7 : decode cX6_goes 7 = .ok (.aload_n 0, 1) := by decide +kernel
theorem dX6_goes_8 : decode cX6_goes 8 = .ok (.getfield 16, 3) := by decide +kernel
theorem dX6_goes_11 : decode cX6_goes 11 = .ok (.iconst 1, 1) := by decide +kernel
theorem dX6_goes_12 : decode cX6_goes 12 = .ok (.iaload, 1) := by decide +kernel
theorem dX6_goes_13 : decode cX6_goes 13 = .ok (.aload_n 0, 1) := by decide +kernel
theorem dX6_goes_14 : decode cX6_goes 14 = .ok (.getfield 16, 3) := by decide +kernel
theorem dX6_goes_17 : decode cX6_goes 17 = .ok (.iconst 2, 1) := by decide +kernel
theorem dX6_goes_18 : decode cX6_goes 18 = .ok (.iaload, 1) := by decide +kernel
theorem dX6_goes_19 : decode cX6_goes 19 = .ok (.aload_n 0, 1) := by decide +kernel
theorem dX6_goes_20 : decode cX6_goes 20 = .ok (.getfield 16, 3) := by decide +kernel
theorem dX6_goes_23 : decode cX6_goes 23 = .ok (.iconst 3, 1) := by decide +kernel
theorem dX6_goes_24 : decode cX6_goes 24 = .ok (.iaload, 1) := by decide +kernel
theorem dX6_goes_25 : decode cX6_goes 25 = .ok (.invokevirtual 123, 3) := by decide +kernel
theorem dX6_goes_28 : decode cX6_goes 28 = .ok (.return_, 1) := by decide +kernel
set_option maxRecDepth 20000 in
theorem ggX6_notes_X6_goes : GoodIn wsX6_notes wsX6_goes := goodIn_r _ [8, 9, 10, 11, 12, 7, 13, 14, 15, 16, 17, 1, 18, 19, 20, 21, 22, 23, 24, 3, 25, 26, 27, 28, 29, 30, 31, 32, 33, 34, 35, 36, 37, 38, 39, 40, 41, 42, 43, 44, 45, 46, 47, 48, 49, 50, 51, 52, 53, 54, 55, 56, 57, 58, 59, 60, 61, 62, 63, 64, 65, 66, 67, 68, 69, 70, 71, 72, 73, 74, 75, 76, 77, 78, 79, 80, 81, 82, 83, 84, 85] (by decide +kernel) (by decide +kernel)
set_option maxRecDepth 20000 in
theorem gX6_notes_X6_goes : GoodIn wsX6_notes (wsV RX6 126 RX6 yX6_goes wsX6_goes) := goodIn_app (goodIn_of _ (by decide +kernel)) ggX6_notes_X6_goes
theorem dX6_notes_0 : decode cX6_notes 0 = .ok (.aload_n 0, 1) := by decide +kernel
theorem dX6_notes_1 : decode cX6_notes 1 = .ok (.invokevirtual 126, 3) := by decide +kernel
theorem dX6_notes_4 : decode cX6_notes 4 = .ok (.iconst 0, 1) := by decide +kernel
theorem dX6_notes_5 : decode cX6_notes 5 = .ok (.istore_n 1, 1) := by decide +kernel
theorem dX6_notes_6 : decode cX6_notes 6 = .ok (.iload_n 1, 1) := by decide +kernel
theorem dX6_notes_7 : decode cX6_notes 7 = .ok (.aload_n 0, 1) := by decide +kernel
theorem dX6_notes_8 : decode cX6_notes 8 = .ok (.getfield 73, 3) := by decide +kernel
theorem dX6_notes_11 : decode cX6_notes 11 = .ok (.if_icmp .ge 21, 3) := by decide +kernel
theorem dX6_notes_14 : decode cX6_notes 14 = .ok (.aload_n 0, 1) := by decide +kernel
theorem dX6_notes_15 : decode cX6_notes 15 = .ok (.getfield 52, 3) := by decide +kernel
theorem dX6_notes_18 : decode cX6_notes 18 = .ok (.iload_n 1, 1) := by decide +kernel
theorem dX6_notes_19 : decode cX6_notes 19 = .ok (.aload_n 0, 1) := by decide +kernel
theorem dX6_notes_20 : decode cX6_notes 20 = .ok (.getfield 37, 3) := by decide +kernel
theorem dX6_notes_23 : decode cX6_notes 23 = .ok (.iload_n 1, 1) := by decide +kernel
theorem dX6_notes_24 : decode cX6_notes 24 = .ok (.iaload, 1) := by decide +kernel
theorem dX6_notes_25 : decode cX6_notes 25 = .ok (.iastore, 1) := by decide +kernel
theorem dX6_notes_26 : decode cX6_notes 26 = .ok (.iinc 1 1, 3) := by decide +kernel
theorem dX6_notes_29 : decode cX6_notes 29 = .ok (.goto (-23), 3) := by decide +kernel
theorem dX6_notes_32 : decode cX6_notes 32 = .ok (.return_, 1) := by decide +kernel
set_option maxRecDepth 20000 in
theorem ggX6_moved_X6_goes : GoodIn wsX6_moved wsX6_goes := goodIn_r _ [8, 9, 10, 11, 12, 7, 13, 14, 15, 16, 17, 1, 18, 19, 20, 21, 22, 23, 24, 2, 25, 26, 27, 28, 29, 30, 31, 32, 33, 34, 35, 36, 37, 38, 39, 40, 41, 42, 43, 44, 45, 46, 47, 48, 49, 50, 51, 52, 53, 54, 55, 56, 57, 58, 59, 60, 61, 62, 63, 64, 65, 66, 67, 68, 69, 70, 71, 72, 73, 74, 75, 76, 77, 78, 79, 80, 81, 82, 83, 84, 85] (by decide +kernel) (by decide +kernel)
set_option maxRecDepth 20000 in
theorem gX6_moved_X6_goes : GoodIn wsX6_moved (wsV RX6 126 RX6 yX6_goes wsX6_goes) := goodIn_app (goodIn_of _ (by decide +kernel)) ggX6_moved_X6_goes
theorem dX6_moved_0 : decode cX6_moved 0 = .ok (.aload_n 0, 1) := by decide +kernel
theorem dX6_moved_1 : decode cX6_moved 1 = .ok (.invokevirtual 126, 3) := by decide +kernel
theorem dX6_moved_4 : decode cX6_moved 4 = .ok (.iconst 0, 1) := by decide +kernel
theorem dX6_moved_5 : decode cX6_moved 5 = .ok (.istore_n 2, 1) := by decide +kernel
theorem dX6_moved_6 : decode cX6_moved 6 = .ok (.iconst 0, 1) := by decide +kernel
theorem dX6_moved_7 : decode cX6_moved 7 = .ok (.istore_n 3, 1) := by decide +kernel
theorem dX6_moved_8 : decode cX6_moved 8 = .ok (.iload_n 3, 1) := by decide +kernel
theorem dX6_moved_9 : decode cX6_moved 9 = .ok (.aload_n 0, 1) := by decide +kernel
theorem dX6_moved_10 : decode cX6_moved 10 = .ok (.getfield 73, 3) := by decide +kernel
theorem dX6_moved_13 : decode cX6_moved 13 = .ok (.if_icmp .ge 37, 3) := by decide +kernel
theorem dX6_moved_16 : decode cX6_moved 16 = .ok (.iload_n 2, 1) := by decide +kernel
theorem dX6_moved_17 : decode cX6_moved 17 = .ok (.iload_n 3, 1) := by decide +kernel
theorem dX6_moved_18 : decode cX6_moved 18 = .ok (.iload_n 1, 1) := by decide +kernel
theorem dX6_moved_19 : decode cX6_moved 19 = .ok (.if_icmp .eq 22, 3) := by decide +kernel
theorem dX6_moved_22 : decode cX6_moved 22 = .ok (.aload_n 0, 1) := by decide +kernel
theorem dX6_moved_23 : decode cX6_moved 23 = .ok (.getfield 37, 3) := by decide +kernel
theorem dX6_moved_26 : decode cX6_moved 26 = .ok (.iload_n 3, 1) := by decide +kernel
theorem dX6_moved_27 : decode cX6_moved 27 = .ok (.iaload, 1) := by decide +kernel
theorem dX6_moved_28 : decode cX6_moved 28 = .ok (.aload_n 0, 1) := by decide +kernel
theorem dX6_moved_29 : decode cX6_moved 29 = .ok (.getfield 52, 3) := by decide +kernel
theorem dX6_moved_32 : decode cX6_moved 32 = .ok (.iload_n 3, 1) := by decide +kernel
theorem dX6_moved_33 : decode cX6_moved 33 = .ok (.iaload, 1) := by decide +kernel
theorem dX6_moved_34 : decode cX6_moved 34 = .ok (.if_icmp .eq 7, 3) := by decide +kernel
theorem dX6_moved_37 : decode cX6_moved 37 = .ok (.iconst 1, 1) := by decide +kernel
theorem dX6_moved_38 : decode cX6_moved 38 = .ok (.goto 4, 3) := by decide +kernel
theorem dX6_moved_41 : decode cX6_moved 41 = .ok (.iconst 0, 1) := by decide +kernel
theorem dX6_moved_42 : decode cX6_moved 42 = .ok (.iadd, 1) := by decide +kernel
theorem dX6_moved_43 : decode cX6_moved 43 = .ok (.istore_n 2, 1) := by decide +kernel
theorem dX6_moved_44 : decode cX6_moved 44 = .ok (.iinc 3 1, 3) := by decide +kernel
theorem dX6_moved_47 : decode cX6_moved 47 = .ok (.goto (-39), 3) := by decide +kernel
theorem dX6_moved_50 : decode cX6_moved 50 = .ok (.iload_n 2, 1) := by decide +kernel
theorem dX6_moved_51 : decode cX6_moved 51 = .ok (.ireturn, 1) := by decide +kernel
set_option maxRecDepth 20000 in
theorem ggX6_put_X6_within : GoodIn wsX6_put wsX6_within := goodIn_r _ [8] (by decide +kernel) (by decide +kernel)
set_option maxRecDepth 20000 in
theorem gX6_put_X6_within : GoodIn wsX6_put (va_wsS RX6 77 yX6_within wsX6_within) := goodIn_app (goodIn_of _ (by decide +kernel)) ggX6_put_X6_within
set_option maxRecDepth 20000 in
theorem ggX6_put_X6_areTokens : GoodIn wsX6_put wsX6_areTokens := goodIn_r _ [11, 12, 13, 7, 14] (by decide +kernel) (by decide +kernel)
set_option maxRecDepth 20000 in
theorem gX6_put_X6_areTokens : GoodIn wsX6_put (va_wsS RX6 129 yX6_areTokens wsX6_areTokens) := goodIn_app (goodIn_of _ (by decide +kernel)) ggX6_put_X6_areTokens
set_option maxRecDepth 20000 in
theorem ggX6_put_X6_notes : GoodIn wsX6_put wsX6_notes := goodIn_r _ [18, 1, 4, 19, 20, 21, 22, 7, 23, 24, 25, 26, 27, 28, 29, 30, 31, 32, 33, 34, 35, 36, 2, 37, 38, 12, 13, 14, 39, 40, 41, 42, 43, 44, 45, 46, 47, 48, 49, 50, 51, 52, 53, 54, 55, 56, 57, 58, 59, 60, 61, 62, 63, 64, 65, 66, 67, 68, 69, 70, 71, 76, 77, 78, 79, 80, 81, 82, 83, 84, 85, 86, 87, 88, 89, 90, 91, 92, 93, 94, 95, 96, 97, 98, 99, 100] (by decide +kernel) (by decide +kernel)
set_option maxRecDepth 20000 in
theorem gX6_put_X6_notes : GoodIn wsX6_put (wsV RX6 133 RX6 yX6_notes wsX6_notes) := goodIn_app (goodIn_of _ (by decide +kernel)) ggX6_put_X6_notes
set_option maxRecDepth 20000 in
theorem ggX6_put_X6_moved : GoodIn wsX6_put wsX6_moved := goodIn_r _ [75, 1, 19, 4, 20, 21, 22, 7, 23, 24, 25, 26, 27, 28, 29, 30, 31, 32, 33, 34, 35, 36, 2, 37, 38, 12, 13, 14, 39, 40, 41, 42, 43, 44, 45, 46, 47, 48, 49, 50, 51, 52, 53, 54, 55, 56, 57, 58, 59, 60, 61, 62, 63, 64, 65, 66, 67, 68, 69, 70, 71, 76, 77, 78, 79, 80, 81, 82, 83, 84, 85, 86, 87, 88, 89, 90, 91, 92, 93, 94, 95, 96, 97, 98, 99, 100] (by decide +kernel) (by decide +kernel)
set_option maxRecDepth 20000 in
theorem gX6_put_X6_moved : GoodIn wsX6_put (wsV RX6 136 RX6 yX6_moved wsX6_moved) := goodIn_app (goodIn_of _ (by decide +kernel)) ggX6_put_X6_moved
theorem dX6_put_0 : decode cX6_put 0 = .ok (.iload_n 1, 1) := by decide +kernel
theorem dX6_put_1 : decode cX6_put 1 = .ok (.iconst 0, 1) := by decide +kernel
theorem dX6_put_2 : decode cX6_put 2 = .ok (.aload_n 0, 1) := by decide +kernel
theorem dX6_put_3 : decode cX6_put 3 = .ok (.getfield 73, 3) := by decide +kernel
theorem dX6_put_6 : decode cX6_put 6 = .ok (.invokestatic 77, 3) := by decide +kernel
theorem dX6_put_9 : decode cX6_put 9 = .ok (.ifCond .ne 5, 3) := by decide +kernel
theorem dX6_put_12 : decode cX6_put 12 = .ok (.iconst (-1), 1) := by decide +kernel
theorem dX6_put_13 : decode cX6_put 13 = .ok (.ireturn, 1) := by decide +kernel
theorem dX6_put_14 : decode cX6_put 14 = .ok (.iload_n 2, 1) := by decide +kernel
theorem dX6_put_15 : decode cX6_put 15 = .ok (.invokestatic 129, 3) := by decide +kernel
theorem dX6_put_18 : decode cX6_put 18 = .ok (.ifCond .ne 6, 3) := by decide +kernel
theorem dX6_put_21 : decode cX6_put 21 = .ok (.bipush (-2), 2) := by decide +kernel
theorem dX6_put_23 : decode cX6_put 23 = .ok (.ireturn, 1) := by decide +kernel
theorem dX6_put_24 : decode cX6_put 24 = .ok (.aload_n 0, 1) := by decide +kernel
theorem dX6_put_25 : decode cX6_put 25 = .ok (.getfield 73, 3) := by decide +kernel
theorem dX6_put_28 : decode cX6_put 28 = .ok (.bipush 20, 2) := by decide +kernel
theorem dX6_put_30 : decode cX6_put 30 = .ok (.if_icmp .ne 6, 3) := by decide +kernel
theorem dX6_put_33 : decode cX6_put 33 = .ok (.bipush (-4), 2) := by decide +kernel
theorem dX6_put_35 : decode cX6_put 35 = .ok (.ireturn, 1) := by decide +kernel
theorem dX6_put_36 : decode cX6_put 36 = .ok (.aload_n 0, 1) := by decide +kernel
theorem dX6_put_37 : decode cX6_put 37 = .ok (.invokevirtual 133, 3) := by decide +kernel
theorem dX6_put_40 : decode cX6_put 40 = .ok (.aload_n 0, 1) := by decide +kernel
theorem dX6_put_41 : decode cX6_put 41 = .ok (.getfield 73, 3) := by decide +kernel
theorem dX6_put_44 : decode cX6_put 44 = .ok (.istore_n 3, 1) := by decide +kernel
theorem dX6_put_45 : decode cX6_put 45 = .ok (.iload_n 3, 1) := by decide +kernel
theorem dX6_put_46 : decode cX6_put 46 = .ok (.iload_n 1, 1) := by decide +kernel
theorem dX6_put_47 : decode cX6_put 47 = .ok (.if_icmp .le 51, 3) := by decide +kernel
theorem dX6_put_50 : decode cX6_put 50 = .ok (.aload_n 0, 1) := by decide +kernel
theorem dX6_put_51 : decode cX6_put 51 = .ok (.getfield 7, 3) := by decide +kernel
theorem dX6_put_54 : decode cX6_put 54 = .ok (.iload_n 3, 1) := by decide +kernel
theorem dX6_put_55 : decode cX6_put 55 = .ok (.aload_n 0, 1) := by decide +kernel
theorem dX6_put_56 : decode cX6_put 56 = .ok (.getfield 7, 3) := by decide +kernel
theorem dX6_put_59 : decode cX6_put 59 = .ok (.iload_n 3, 1) := by decide +kernel
theorem dX6_put_60 : decode cX6_put 60 = .ok (.iconst 1, 1) := by decide +kernel
theorem dX6_put_61 : decode cX6_put 61 = .ok (.isub, 1) := by decide +kernel
theorem dX6_put_62 : decode cX6_put 62 = .ok (.iaload, 1) := by decide +kernel
theorem dX6_put_63 : decode cX6_put 63 = .ok (.iastore, 1) := by decide +kernel
theorem dX6_put_64 : decode cX6_put 64 = .ok (.aload_n 0, 1) := by decide +kernel
theorem dX6_put_65 : decode cX6_put 65 = .ok (.getfield 13, 3) := by decide +kernel
theorem dX6_put_68 : decode cX6_put 68 = .ok (.iload_n 3, 1) := by decide +kernel
theorem dX6_put_69 : decode cX6_put 69 = .ok (.aload_n 0, 1) := by decide +kernel
theorem dX6_put_70 : decode cX6_put 70 = .ok (.getfield 13, 3) := by decide +kernel
theorem dX6_put_73 : decode cX6_put 73 = .ok (.iload_n 3, 1) := by decide +kernel
theorem dX6_put_74 : decode cX6_put 74 = .ok (.iconst 1, 1) := by decide +kernel
theorem dX6_put_75 : decode cX6_put 75 = .ok (.isub, 1) := by decide +kernel
theorem dX6_put_76 : decode cX6_put 76 = .ok (.iaload, 1) := by decide +kernel
theorem dX6_put_77 : decode cX6_put 77 = .ok (.iastore, 1) := by decide +kernel
theorem dX6_put_78 : decode cX6_put 78 = .ok (.aload_n 0, 1) := by decide +kernel
theorem dX6_put_79 : decode cX6_put 79 = .ok (.getfield 52, 3) := by decide +kernel
theorem dX6_put_82 : decode cX6_put 82 = .ok (.iload_n 3, 1) := by decide +kernel
theorem dX6_put_83 : decode cX6_put 83 = .ok (.aload_n 0, 1) := by decide +kernel
theorem dX6_put_84 : decode cX6_put 84 = .ok (.getfield 52, 3) := by decide +kernel
theorem dX6_put_87 : decode cX6_put 87 = .ok (.iload_n 3, 1) := by decide +kernel
theorem dX6_put_88 : decode cX6_put 88 = .ok (.iconst 1, 1) := by decide +kernel
theorem dX6_put_89 : decode cX6_put 89 = .ok (.isub, 1) := by decide +kernel
theorem dX6_put_90 : decode cX6_put 90 = .ok (.iaload, 1) := by decide +kernel
theorem dX6_put_91 : decode cX6_put 91 = .ok (.iastore, 1) := by decide +kernel
theorem dX6_put_92 : decode cX6_put 92 = .ok (.iinc 3 (-1), 3) := by decide +kernel
theorem dX6_put_95 : decode cX6_put 95 = .ok (.goto (-50), 3) := by decide +kernel
theorem dX6_put_98 : decode cX6_put 98 = .ok (.aload_n 0, 1) := by decide +kernel
theorem dX6_put_99 : decode cX6_put 99 = .ok (.getfield 7, 3) := by decide +kernel
theorem dX6_put_102 : decode cX6_put 102 = .ok (.iload_n 1, 1) := by decide +kernel
theorem dX6_put_103 : decode cX6_put 103 = .ok (.iload_n 2, 1) := by decide +kernel
theorem dX6_put_104 : decode cX6_put 104 = .ok (.iastore, 1) := by decide +kernel
theorem dX6_put_105 : decode cX6_put 105 = .ok (.aload_n 0, 1) := by decide +kernel
theorem dX6_put_106 : decode cX6_put 106 = .ok (.getfield 13, 3) := by decide +kernel
theorem dX6_put_109 : decode cX6_put 109 = .ok (.iload_n 1, 1) := by decide +kernel
theorem dX6_put_110 : decode cX6_put 110 = .ok (.bipush (-9), 2) := by decide +kernel
theorem dX6_put_112 : decode cX6_put 112 = .ok (.iastore, 1) := by decide +kernel
theorem dX6_put_113 : decode cX6_put 113 = .ok (.aload_n 0, 1) := by decide +kernel
theorem dX6_put_114 : decode cX6_put 114 = .ok (.dup, 1) := by decide +kernel
theorem dX6_put_115 : decode cX6_put 115 = .ok (.getfield 73, 3) := by decide +kernel
theorem dX6_put_118 : decode cX6_put 118 = .ok (.iconst 1, 1) := by decide +kernel
theorem dX6_put_119 : decode cX6_put 119 = .ok (.iadd, 1) := by decide +kernel
theorem dX6_put_120 : decode cX6_put 120 = .ok (.putfield 73, 3) := by decide +kernel
theorem dX6_put_123 : decode cX6_put 123 = .ok (.aload_n 0, 1) := by decide +kernel
theorem dX6_put_124 : decode cX6_put 124 = .ok (.iload_n 1, 1) := by decide +kernel
theorem dX6_put_125 : decode cX6_put 125 = .ok (.invokevirtual 136, 3) := by decide +kernel
theorem dX6_put_128 : decode cX6_put 128 = .ok (.ireturn, 1) := by decide +kernel
set_option maxRecDepth 20000 in
theorem ggX6_change_X6_isLine : GoodIn wsX6_change wsX6_isLine := goodIn_r _ [6, 7, 8, 9, 5, 10, 79, 80, 81, 82, 83, 84, 85, 86, 87, 88, 89, 90, 91, 92, 93, 94, 95, 96, 97, 98, 99, 100, 101, 102, 103] (by decide +kernel) (by decide +kernel)
set_option maxRecDepth 20000 in
theorem gX6_change_X6_isLine : GoodIn wsX6_change (wsV RX6 139 RX6 yX6_isLine wsX6_isLine) := goodIn_app (goodIn_of _ (by decide +kernel)) ggX6_change_X6_isLine
set_option maxRecDepth 20000 in
theorem ggX6_change_X6_areTokens : GoodIn wsX6_change wsX6_areTokens := goodIn_r _ [13, 14, 15, 5, 16] (by decide +kernel) (by decide +kernel)
set_option maxRecDepth 20000 in
theorem gX6_change_X6_areTokens : GoodIn wsX6_change (va_wsS RX6 129 yX6_areTokens wsX6_areTokens) := goodIn_app (goodIn_of _ (by decide +kernel)) ggX6_change_X6_areTokens
set_option maxRecDepth 20000 in
theorem ggX6_change_X6_notes : GoodIn wsX6_change wsX6_notes := goodIn_r _ [20, 7, 21, 22, 23, 24, 25, 5, 26, 27, 28, 29, 30, 31, 32, 33, 34, 35, 36, 37, 38, 39, 1, 40, 41, 14, 15, 16, 42, 43, 44, 45, 46, 47, 48, 49, 50, 51, 52, 53, 54, 55, 56, 57, 58, 59, 60, 61, 62, 63, 64, 65, 66, 67, 68, 69, 70, 71, 72, 73, 74, 79, 80, 81, 82, 83, 84, 85, 86, 87, 88, 89, 90, 91, 92, 93, 94, 95, 96, 97, 98, 99, 100, 101, 102, 103] (by decide +kernel) (by decide +kernel)
set_option maxRecDepth 20000 in
theorem gX6_change_X6_notes : GoodIn wsX6_change (wsV RX6 133 RX6 yX6_notes wsX6_notes) := goodIn_app (goodIn_of _ (by decide +kernel)) ggX6_change_X6_notes
set_option maxRecDepth 20000 in
theorem ggX6_change_X6_moved : GoodIn wsX6_change wsX6_moved := goodIn_r _ [78, 7, 22, 21, 23, 24, 25, 5, 26, 27, 28, 29, 30, 31, 32, 33, 34, 35, 36, 37, 38, 39, 1, 40, 41, 14, 15, 16, 42, 43, 44, 45, 46, 47, 48, 49, 50, 51, 52, 53, 54, 55, 56, 57, 58, 59, 60, 61, 62, 63, 64, 65, 66, 67, 68, 69, 70, 71, 72, 73, 74, 79, 80, 81, 82, 83, 84, 85, 86, 87, 88, 89, 90, 91, 92, 93, 94, 95, 96, 97, 98, 99, 100, 101, 102, 103] (by decide +kernel) (by decide +kernel)
set_option maxRecDepth 20000 in
theorem gX6_change_X6_moved : GoodIn wsX6_change (wsV RX6 136 RX6 yX6_moved wsX6_moved) := goodIn_app (goodIn_of _ (by decide +kernel)) ggX6_change_X6_moved
theorem dX6_change_0 : decode cX6_change 0 = .ok (.aload_n 0, 1) := by decide +kernel
theorem dX6_change_1 : decode cX6_change 1 = .ok (.iload_n 1, 1) := by decide +kernel
theorem dX6_change_2 : decode cX6_change 2 = .ok (.invokevirtual 139, 3) := by decide +kernel
theorem dX6_change_5 : decode cX6_change 5 = .ok (.ifCond .ne 5, 3) := by decide +kernel
theorem dX6_change_8 : decode cX6_change 8 = .ok (.iconst (-1), 1) := by decide +kernel
theorem dX6_change_9 : decode cX6_change 9 = .ok (.ireturn, 1) := by decide +kernel
theorem dX6_change_10 : decode cX6_change 10 = .ok (.iload_n 2, 1) := by decide +kernel
theorem dX6_change_11 : decode cX6_change 11 = .ok (.invokestatic 129, 3) := by decide +kernel
theorem dX6_change_14 : decode cX6_change 14 = .ok (.ifCond .ne 6, 3) := by decide +kernel
theorem dX6_change_17 : decode cX6_change 17 = .ok (.bipush (-2), 2) := by decide +kernel
theorem dX6_change_19 : decode cX6_change 19 = .ok (.ireturn, 1) := by decide +kernel
theorem dX6_change_20 : decode cX6_change 20 = .ok (.aload_n 0, 1) := by decide +kernel
theorem dX6_change_21 : decode cX6_change 21 = .ok (.invokevirtual 133, 3) := by decide +kernel
theorem dX6_change_24 : decode cX6_change 24 = .ok (.aload_n 0, 1) := by decide +kernel
theorem dX6_change_25 : decode cX6_change 25 = .ok (.getfield 7, 3) := by decide +kernel
theorem dX6_change_28 : decode cX6_change 28 = .ok (.iload_n 1, 1) := by decide +kernel
theorem dX6_change_29 : decode cX6_change 29 = .ok (.iload_n 2, 1) := by decide +kernel
theorem dX6_change_30 : decode cX6_change 30 = .ok (.iastore, 1) := by decide +kernel
theorem dX6_change_31 : decode cX6_change 31 = .ok (.aload_n 0, 1) := by decide +kernel
theorem dX6_change_32 : decode cX6_change 32 = .ok (.iload_n 1, 1) := by decide +kernel
theorem dX6_change_33 : decode cX6_change 33 = .ok (.invokevirtual 136, 3) := by decide +kernel
theorem dX6_change_36 : decode cX6_change 36 = .ok (.ireturn, 1) := by decide +kernel
set_option maxRecDepth 20000 in
theorem ggX6_take_X6_isLine : GoodIn wsX6_take wsX6_isLine := goodIn_r _ [9, 1, 10, 11, 8, 12, 77, 78, 79, 80, 81, 82, 83, 84, 85, 86, 87, 88, 89, 90, 91, 92, 93, 94, 95, 96, 97, 98, 99, 100, 101] (by decide +kernel) (by decide +kernel)
set_option maxRecDepth 20000 in
theorem gX6_take_X6_isLine : GoodIn wsX6_take (wsV RX6 139 RX6 yX6_isLine wsX6_isLine) := goodIn_app (goodIn_of _ (by decide +kernel)) ggX6_take_X6_isLine
set_option maxRecDepth 20000 in
theorem ggX6_take_X6_notes : GoodIn wsX6_take wsX6_notes := goodIn_r _ [16, 1, 4, 17, 18, 19, 20, 8, 21, 22, 23, 24, 25, 26, 27, 28, 29, 30, 31, 32, 33, 34, 2, 35, 36, 37, 38, 39, 40, 41, 42, 43, 44, 45, 46, 47, 48, 49, 50, 51, 52, 53, 54, 55, 56, 57, 58, 59, 60, 61, 62, 63, 64, 65, 66, 67, 68, 69, 70, 71, 72, 77, 78, 79, 80, 81, 82, 83, 84, 85, 86, 87, 88, 89, 90, 91, 92, 93, 94, 95, 96, 97, 98, 99, 100, 101] (by decide +kernel) (by decide +kernel)
set_option maxRecDepth 20000 in
theorem gX6_take_X6_notes : GoodIn wsX6_take (wsV RX6 133 RX6 yX6_notes wsX6_notes) := goodIn_app (goodIn_of _ (by decide +kernel)) ggX6_take_X6_notes
set_option maxRecDepth 20000 in
theorem ggX6_take_X6_moved : GoodIn wsX6_take wsX6_moved := goodIn_r _ [76, 1, 17, 4, 18, 19, 20, 8, 21, 22, 23, 24, 25, 26, 27, 28, 29, 30, 31, 32, 33, 34, 2, 35, 36, 37, 38, 39, 40, 41, 42, 43, 44, 45, 46, 47, 48, 49, 50, 51, 52, 53, 54, 55, 56, 57, 58, 59, 60, 61, 62, 63, 64, 65, 66, 67, 68, 69, 70, 71, 72, 77, 78, 79, 80, 81, 82, 83, 84, 85, 86, 87, 88, 89, 90, 91, 92, 93, 94, 95, 96, 97, 98, 99, 100, 101] (by decide +kernel) (by decide +kernel)
set_option maxRecDepth 20000 in
theorem gX6_take_X6_moved : GoodIn wsX6_take (wsV RX6 136 RX6 yX6_moved wsX6_moved) := goodIn_app (goodIn_of _ (by decide +kernel)) ggX6_take_X6_moved
theorem dX6_take_0 : decode cX6_take 0 = .ok (.aload_n 0, 1) := by decide +kernel
theorem dX6_take_1 : decode cX6_take 1 = .ok (.iload_n 1, 1) := by decide +kernel
theorem dX6_take_2 : decode cX6_take 2 = .ok (.invokevirtual 139, 3) := by decide +kernel
theorem dX6_take_5 : decode cX6_take 5 = .ok (.ifCond .ne 5, 3) := by decide +kernel
theorem dX6_take_8 : decode cX6_take 8 = .ok (.iconst (-1), 1) := by decide +kernel
theorem dX6_take_9 : decode cX6_take 9 = .ok (.ireturn, 1) := by decide +kernel
theorem dX6_take_10 : decode cX6_take 10 = .ok (.aload_n 0, 1) := by decide +kernel
theorem dX6_take_11 : decode cX6_take 11 = .ok (.invokevirtual 133, 3) := by decide +kernel
theorem dX6_take_14 : decode cX6_take 14 = .ok (.aload_n 0, 1) := by decide +kernel
theorem dX6_take_15 : decode cX6_take 15 = .ok (.dup, 1) := by decide +kernel
theorem dX6_take_16 : decode cX6_take 16 = .ok (.getfield 73, 3) := by decide +kernel
theorem dX6_take_19 : decode cX6_take 19 = .ok (.iconst 1, 1) := by decide +kernel
theorem dX6_take_20 : decode cX6_take 20 = .ok (.isub, 1) := by decide +kernel
theorem dX6_take_21 : decode cX6_take 21 = .ok (.putfield 73, 3) := by decide +kernel
theorem dX6_take_24 : decode cX6_take 24 = .ok (.iload_n 1, 1) := by decide +kernel
theorem dX6_take_25 : decode cX6_take 25 = .ok (.istore_n 2, 1) := by decide +kernel
theorem dX6_take_26 : decode cX6_take 26 = .ok (.iload_n 2, 1) := by decide +kernel
theorem dX6_take_27 : decode cX6_take 27 = .ok (.aload_n 0, 1) := by decide +kernel
theorem dX6_take_28 : decode cX6_take 28 = .ok (.getfield 73, 3) := by decide +kernel
theorem dX6_take_31 : decode cX6_take 31 = .ok (.if_icmp .ge 51, 3) := by decide +kernel
theorem dX6_take_34 : decode cX6_take 34 = .ok (.aload_n 0, 1) := by decide +kernel
theorem dX6_take_35 : decode cX6_take 35 = .ok (.getfield 7, 3) := by decide +kernel
theorem dX6_take_38 : decode cX6_take 38 = .ok (.iload_n 2, 1) := by decide +kernel
theorem dX6_take_39 : decode cX6_take 39 = .ok (.aload_n 0, 1) := by decide +kernel
theorem dX6_take_40 : decode cX6_take 40 = .ok (.getfield 7, 3) := by decide +kernel
theorem dX6_take_43 : decode cX6_take 43 = .ok (.iload_n 2, 1) := by decide +kernel
theorem dX6_take_44 : decode cX6_take 44 = .ok (.iconst 1, 1) := by decide +kernel
theorem dX6_take_45 : decode cX6_take 45 = .ok (.iadd, 1) := by decide +kernel
theorem dX6_take_46 : decode cX6_take 46 = .ok (.iaload, 1) := by decide +kernel
theorem dX6_take_47 : decode cX6_take 47 = .ok (.iastore, 1) := by decide +kernel
theorem dX6_take_48 : decode cX6_take 48 = .ok (.aload_n 0, 1) := by decide +kernel
theorem dX6_take_49 : decode cX6_take 49 = .ok (.getfield 13, 3) := by decide +kernel
theorem dX6_take_52 : decode cX6_take 52 = .ok (.iload_n 2, 1) := by decide +kernel
theorem dX6_take_53 : decode cX6_take 53 = .ok (.aload_n 0, 1) := by decide +kernel
theorem dX6_take_54 : decode cX6_take 54 = .ok (.getfield 13, 3) := by decide +kernel
theorem dX6_take_57 : decode cX6_take 57 = .ok (.iload_n 2, 1) := by decide +kernel
theorem dX6_take_58 : decode cX6_take 58 = .ok (.iconst 1, 1) := by decide +kernel
theorem dX6_take_59 : decode cX6_take 59 = .ok (.iadd, 1) := by decide +kernel
theorem dX6_take_60 : decode cX6_take 60 = .ok (.iaload, 1) := by decide +kernel
theorem dX6_take_61 : decode cX6_take 61 = .ok (.iastore, 1) := by decide +kernel
theorem dX6_take_62 : decode cX6_take 62 = .ok (.aload_n 0, 1) := by decide +kernel
theorem dX6_take_63 : decode cX6_take 63 = .ok (.getfield 52, 3) := by decide +kernel
theorem dX6_take_66 : decode cX6_take 66 = .ok (.iload_n 2, 1) := by decide +kernel
theorem dX6_take_67 : decode cX6_take 67 = .ok (.aload_n 0, 1) := by decide +kernel
theorem dX6_take_68 : decode cX6_take 68 = .ok (.getfield 52, 3) := by decide +kernel
theorem dX6_take_71 : decode cX6_take 71 = .ok (.iload_n 2, 1) := by decide +kernel
theorem dX6_take_72 : decode cX6_take 72 = .ok (.iconst 1, 1) := by decide +kernel
theorem dX6_take_73 : decode cX6_take 73 = .ok (.iadd, 1) := by decide +kernel
theorem dX6_take_74 : decode cX6_take 74 = .ok (.iaload, 1) := by decide +kernel
theorem dX6_take_75 : decode cX6_take 75 = .ok (.iastore, 1) := by decide +kernel
theorem dX6_take_76 : decode cX6_take 76 = .ok (.iinc 2 1, 3) := by decide +kernel
theorem dX6_take_79 : decode cX6_take 79 = .ok (.goto (-53), 3) := by decide +kernel
theorem dX6_take_82 : decode cX6_take 82 = .ok (.aload_n 0, 1) := by decide +kernel
theorem dX6_take_83 : decode cX6_take 83 = .ok (.bipush (-9), 2) := by decide +kernel
theorem dX6_take_85 : decode cX6_take 85 = .ok (.invokevirtual 136, 3) := by decide +kernel
theorem dX6_take_88 : decode cX6_take 88 = .ok (.ireturn, 1) := by decide +kernel
set_option maxRecDepth 20000 in
theorem ggX6_maySet_X6_within : GoodIn wsX6_maySet wsX6_within := goodIn_r _ [4] (by decide +kernel) (by decide +kernel)
set_option maxRecDepth 20000 in
theorem gX6_maySet_X6_within : GoodIn wsX6_maySet (va_wsS RX6 77 yX6_within wsX6_within) := goodIn_app (goodIn_of _ (by decide +kernel)) ggX6_maySet_X6_within
theorem dX6_maySet_0 : decode cX6_maySet 0 = .ok (.iload_n 0, 1) := by decide +kernel
theorem dX6_maySet_1 : decode cX6_maySet 1 = .ok (.iconst 2, 1) := by decide +kernel
theorem dX6_maySet_2 : decode cX6_maySet 2 = .ok (.if_icmp .ge 13, 3) := by decide +kernel
theorem dX6_maySet_5 : decode cX6_maySet 5 = .ok (.iload_n 1, 1) := by decide +kernel
theorem dX6_maySet_6 : decode cX6_maySet 6 = .ok (.iconst 1, 1) := by decide +kernel
theorem dX6_maySet_7 : decode cX6_maySet 7 = .ok (.bipush 8, 2) := by decide +kernel
theorem dX6_maySet_9 : decode cX6_maySet 9 = .ok (.invokestatic 77, 3) := by decide +kernel
theorem dX6_maySet_12 : decode cX6_maySet 12 = .ok (.goto 9, 3) := by decide +kernel
theorem dX6_maySet_15 : decode cX6_maySet 15 = .ok (.iload_n 1, 1) := by decide +kernel
theorem dX6_maySet_16 : decode cX6_maySet 16 = .ok (.iconst 0, 1) := by decide +kernel
theorem dX6_maySet_17 : decode cX6_maySet 17 = .ok (.iconst 1, 1) := by decide +kernel
theorem dX6_maySet_18 : decode cX6_maySet 18 = .ok (.invokestatic 77, 3) := by decide +kernel
theorem dX6_maySet_21 : decode cX6_maySet 21 = .ok (.ireturn, 1) := by decide +kernel
set_option maxRecDepth 20000 in
theorem ggX6_style_X6_within : GoodIn wsX6_style wsX6_within := goodIn_r _ [5] (by decide +kernel) (by decide +kernel)
set_option maxRecDepth 20000 in
theorem gX6_style_X6_within : GoodIn wsX6_style (va_wsS RX6 77 yX6_within wsX6_within) := goodIn_app (goodIn_of _ (by decide +kernel)) ggX6_style_X6_within
set_option maxRecDepth 20000 in
theorem ggX6_style_X6_maySet : GoodIn wsX6_style wsX6_maySet := goodIn_r _ [8, 2, 3, 4, 5] (by decide +kernel) (by decide +kernel)
set_option maxRecDepth 20000 in
theorem gX6_style_X6_maySet : GoodIn wsX6_style (va_wsS RX6 142 yX6_maySet wsX6_maySet) := goodIn_app (goodIn_of _ (by decide +kernel)) ggX6_style_X6_maySet
theorem dX6_style_0 : decode cX6_style 0 = .ok (.iload_n 1, 1) := by decide +kernel
theorem dX6_style_1 : decode cX6_style 1 = .ok (.iconst 0, 1) := by decide +kernel
theorem dX6_style_2 : decode cX6_style 2 = .ok (.iconst 3, 1) := by decide +kernel
theorem dX6_style_3 : decode cX6_style 3 = .ok (.invokestatic 77, 3) := by decide +kernel
theorem dX6_style_6 : decode cX6_style 6 = .ok (.ifCond .ne 5, 3) := by decide +kernel
theorem dX6_style_9 : decode cX6_style 9 = .ok (.iconst (-1), 1) := by decide +kernel
theorem dX6_style_10 : decode cX6_style 10 = .ok (.ireturn, 1) := by decide +kernel
theorem dX6_style_11 : decode cX6_style 11 = .ok (.iload_n 1, 1) := by decide +kernel
theorem dX6_style_12 : decode cX6_style 12 = .ok (.iload_n 2, 1) := by decide +kernel
theorem dX6_style_13 : decode cX6_style 13 = .ok (.invokestatic 142, 3) := by decide +kernel
theorem dX6_style_16 : decode cX6_style 16 = .ok (.ifCond .ne 6, 3) := by decide +kernel
theorem dX6_style_19 : decode cX6_style 19 = .ok (.bipush (-2), 2) := by decide +kernel
theorem dX6_style_21 : decode cX6_style 21 = .ok (.ireturn, 1) := by decide +kernel
theorem dX6_style_22 : decode cX6_style 22 = .ok (.aload_n 0, 1) := by decide +kernel
theorem dX6_style_23 : decode cX6_style 23 = .ok (.getfield 16, 3) := by decide +kernel
theorem dX6_style_26 : decode cX6_style 26 = .ok (.iload_n 1, 1) := by decide +kernel
theorem dX6_style_27 : decode cX6_style 27 = .ok (.iaload, 1) := by decide +kernel
theorem dX6_style_28 : decode cX6_style 28 = .ok (.istore_n 3, 1) := by decide +kernel
theorem dX6_style_29 : decode cX6_style 29 = .ok (.aload_n 0, 1) := by decide +kernel
theorem dX6_style_30 : decode cX6_style 30 = .ok (.getfield 16, 3) := by decide +kernel
theorem dX6_style_33 : decode cX6_style 33 = .ok (.iload_n 1, 1) := by decide +kernel
theorem dX6_style_34 : decode cX6_style 34 = .ok (.iload_n 2, 1) := by decide +kernel
theorem dX6_style_35 : decode cX6_style 35 = .ok (.iastore, 1) := by decide +kernel
theorem dX6_style_36 : decode cX6_style 36 = .ok (.iload_n 3, 1) := by decide +kernel
theorem dX6_style_37 : decode cX6_style 37 = .ok (.ireturn, 1) := by decide +kernel
set_option maxRecDepth 20000 in
theorem ggX6_widthsOf_X6_lengthOf : GoodIn wsX6_widthsOf wsX6_lengthOf := goodIn_r _ [4] (by decide +kernel) (by decide +kernel)
set_option maxRecDepth 20000 in
theorem gX6_widthsOf_X6_lengthOf : GoodIn wsX6_widthsOf (va_wsS RX6 81 yX6_lengthOf wsX6_lengthOf) := goodIn_app (goodIn_of _ (by decide +kernel)) ggX6_widthsOf_X6_lengthOf
set_option maxRecDepth 20000 in
theorem ggX6_widthsOf_X6_tokenAt : GoodIn wsX6_widthsOf wsX6_tokenAt := goodIn_r _ [7, 1, 2, 3, 4] (by decide +kernel) (by decide +kernel)
set_option maxRecDepth 20000 in
theorem gX6_widthsOf_X6_tokenAt : GoodIn wsX6_widthsOf (va_wsS RX6 98 yX6_tokenAt wsX6_tokenAt) := goodIn_app (goodIn_of _ (by decide +kernel)) ggX6_widthsOf_X6_tokenAt
set_option maxRecDepth 20000 in
theorem ggX6_widthsOf_X6_widthOf : GoodIn wsX6_widthsOf wsX6_widthOf := goodIn_r _ [10] (by decide +kernel) (by decide +kernel)
set_option maxRecDepth 20000 in
theorem gX6_widthsOf_X6_widthOf : GoodIn wsX6_widthsOf (va_wsS RX6 116 yX6_widthOf wsX6_widthOf) := goodIn_app (goodIn_of _ (by decide +kernel)) ggX6_widthsOf_X6_widthOf
theorem dX6_widthsOf_0 : decode cX6_widthsOf 0 = .ok (.iconst 0, 1) := by decide +kernel
theorem dX6_widthsOf_1 : decode cX6_widthsOf 1 = .ok (.istore_n 2, 1) := by decide +kernel
theorem dX6_widthsOf_2 : decode cX6_widthsOf 2 = .ok (.iconst 0, 1) := by decide +kernel
theorem dX6_widthsOf_3 : decode cX6_widthsOf 3 = .ok (.istore_n 3, 1) := by decide +kernel
theorem dX6_widthsOf_4 : decode cX6_widthsOf 4 = .ok (.iload_n 3, 1) := by decide +kernel
theorem dX6_widthsOf_5 : decode cX6_widthsOf 5 = .ok (.iload_n 1, 1) := by decide +kernel
theorem dX6_widthsOf_6 : decode cX6_widthsOf 6 = .ok (.invokestatic 81, 3) := by decide +kernel
theorem dX6_widthsOf_9 : decode cX6_widthsOf 9 = .ok (.if_icmp .ge 20, 3) := by decide +kernel
theorem dX6_widthsOf_12 : decode cX6_widthsOf 12 = .ok (.iload_n 2, 1) := by decide +kernel
theorem dX6_widthsOf_13 : decode cX6_widthsOf 13 = .ok (.iload_n 1, 1) := by decide +kernel
theorem dX6_widthsOf_14 : decode cX6_widthsOf 14 = .ok (.iload_n 3, 1) := by decide +kernel
theorem dX6_widthsOf_15 : decode cX6_widthsOf 15 = .ok (.invokestatic 98, 3) := by decide +kernel
theorem dX6_widthsOf_18 : decode cX6_widthsOf 18 = .ok (.invokestatic 116, 3) := by decide +kernel
theorem dX6_widthsOf_21 : decode cX6_widthsOf 21 = .ok (.iadd, 1) := by decide +kernel
theorem dX6_widthsOf_22 : decode cX6_widthsOf 22 = .ok (.istore_n 2, 1) := by decide +kernel
theorem dX6_widthsOf_23 : decode cX6_widthsOf 23 = .ok (.iinc 3 1, 3) := by decide +kernel
theorem dX6_widthsOf_26 : decode cX6_widthsOf 26 = .ok (.goto (-22), 3) := by decide +kernel
theorem dX6_widthsOf_29 : decode cX6_widthsOf 29 = .ok (.iload_n 2, 1) := by decide +kernel
theorem dX6_widthsOf_30 : decode cX6_widthsOf 30 = .ok (.ireturn, 1) := by decide +kernel
set_option maxRecDepth 20000 in
theorem ggX6_ofLine_X6_isLine : GoodIn wsX6_ofLine wsX6_isLine := goodIn_r _ [10, 11, 12, 13, 9, 14, 72, 73, 74, 75, 76, 77, 78, 79, 80, 81, 82, 83, 84, 85, 86, 87, 88, 89, 90, 91, 92, 93, 94, 95, 96] (by decide +kernel) (by decide +kernel)
set_option maxRecDepth 20000 in
theorem gX6_ofLine_X6_isLine : GoodIn wsX6_ofLine (wsV RX6 139 RX6 yX6_isLine wsX6_isLine) := goodIn_app (goodIn_of _ (by decide +kernel)) ggX6_ofLine_X6_isLine
set_option maxRecDepth 20000 in
theorem ggX6_ofLine_X6_goes : GoodIn wsX6_ofLine wsX6_goes := goodIn_r _ [18, 19, 20, 21, 22, 9, 23, 24, 25, 26, 27, 11, 28, 29, 30, 31, 1, 3, 4, 2, 32, 33, 34, 35, 36, 37, 38, 39, 40, 41, 42, 43, 44, 45, 46, 47, 48, 49, 50, 51, 52, 53, 54, 55, 56, 57, 58, 59, 60, 61, 62, 63, 64, 65, 66, 67, 72, 73, 74, 75, 76, 77, 78, 79, 80, 81, 82, 83, 84, 85, 86, 87, 88, 89, 90, 91, 92, 93, 94, 95, 96] (by decide +kernel) (by decide +kernel)
set_option maxRecDepth 20000 in
theorem gX6_ofLine_X6_goes : GoodIn wsX6_ofLine (wsV RX6 126 RX6 yX6_goes wsX6_goes) := goodIn_app (goodIn_of _ (by decide +kernel)) ggX6_ofLine_X6_goes
set_option maxRecDepth 20000 in
theorem ggX6_ofLine_X6_widthsOf : GoodIn wsX6_ofLine wsX6_widthsOf := goodIn_r _ [71, 32, 33, 9, 34, 35, 36, 37, 65, 66, 67] (by decide +kernel) (by decide +kernel)
set_option maxRecDepth 20000 in
theorem gX6_ofLine_X6_widthsOf : GoodIn wsX6_ofLine (wsV RX6 146 RX6 yX6_widthsOf wsX6_widthsOf) := goodIn_app (goodIn_of _ (by decide +kernel)) ggX6_ofLine_X6_widthsOf
theorem dX6_ofLine_0 : decode cX6_ofLine 0 = .ok (.aload_n 0, 1) := by decide +kernel
theorem dX6_ofLine_1 : decode cX6_ofLine 1 = .ok (.iload_n 1, 1) := by decide +kernel
theorem dX6_ofLine_2 : decode cX6_ofLine 2 = .ok (.invokevirtual 139, 3) := by decide +kernel
theorem dX6_ofLine_5 : decode cX6_ofLine 5 = .ok (.ifCond .ne 5, 3) := by decide +kernel
theorem dX6_ofLine_8 : decode cX6_ofLine 8 = .ok (.iconst (-1), 1) := by decide +kernel
theorem dX6_ofLine_9 : decode cX6_ofLine 9 = .ok (.ireturn, 1) := by decide +kernel
theorem dX6_ofLine_10 : decode cX6_ofLine 10 = .ok (.aload_n 0, 1) := by decide +kernel
theorem dX6_ofLine_11 : decode cX6_ofLine 11 = .ok (.invokevirtual 126, 3) := by decide +kernel
theorem dX6_ofLine_14 : decode cX6_ofLine 14 = .ok (.iload_n 2, 1) := by decide +kernel
theorem dX6_ofLine_15 : decode cX6_ofLine 15 = .ok (.tableswitch 103 0 5 #[37, 44, 51, 82, 89, 96], 37) := by decide +kernel
theorem dX6_ofLine_52 : decode cX6_ofLine 52 = .ok (.aload_n 0, 1) := by decide +kernel
theorem dX6_ofLine_53 : decode cX6_ofLine 53 = .ok (.getfield 7, 3) := by decide +kernel
theorem dX6_ofLine_56 : decode cX6_ofLine 56 = .ok (.iload_n 1, 1) := by decide +kernel
theorem dX6_ofLine_57 : decode cX6_ofLine 57 = .ok (.iaload, 1) := by decide +kernel
theorem dX6_ofLine_58 : decode cX6_ofLine 58 = .ok (.ireturn, 1) := by decide +kernel
theorem dX6_ofLine_59 : decode cX6_ofLine 59 = .ok (.aload_n 0, 1) := by decide +kernel
theorem dX6_ofLine_60 : decode cX6_ofLine 60 = .ok (.getfield 37, 3) := by decide +kernel
theorem dX6_ofLine_63 : decode cX6_ofLine 63 = .ok (.iload_n 1, 1) := by decide +kernel
theorem dX6_ofLine_64 : decode cX6_ofLine 64 = .ok (.iaload, 1) := by decide +kernel
theorem dX6_ofLine_65 : decode cX6_ofLine 65 = .ok (.ireturn, 1) := by decide +kernel
theorem dX6_ofLine_66 : decode cX6_ofLine 66 = .ok (.aload_n 0, 1) := by decide +kernel
theorem dX6_ofLine_67 : decode cX6_ofLine 67 = .ok (.getfield 7, 3) := by decide +kernel
theorem dX6_ofLine_70 : decode cX6_ofLine 70 = .ok (.iload_n 1, 1) := by decide +kernel
theorem dX6_ofLine_71 : decode cX6_ofLine 71 = .ok (.iaload, 1) := by decide +kernel
theorem dX6_ofLine_72 : decode cX6_ofLine 72 = .ok (.ifCond .ne 7, 3) := by decide +kernel
theorem dX6_ofLine_75 : decode cX6_ofLine 75 = .ok (.iconst 0, 1) := by decide +kernel
theorem dX6_ofLine_76 : decode cX6_ofLine 76 = .ok (.goto 20, 3) := by decide +kernel
theorem dX6_ofLine_79 : decode cX6_ofLine 79 = .ok (.aload_n 0, 1) := by decide +kernel
theorem dX6_ofLine_80 : decode cX6_ofLine 80 = .ok (.getfield 37, 3) := by decide +kernel
theorem dX6_ofLine_83 : decode cX6_ofLine 83 = .ok (.iload_n 1, 1) := by decide +kernel
theorem dX6_ofLine_84 : decode cX6_ofLine 84 = .ok (.iaload, 1) := by decide +kernel
theorem dX6_ofLine_85 : decode cX6_ofLine 85 = .ok (.aload_n 0, 1) := by decide +kernel
theorem dX6_ofLine_86 : decode cX6_ofLine 86 = .ok (.aload_n 0, 1) := by decide +kernel
theorem dX6_ofLine_87 : decode cX6_ofLine 87 = .ok (.getfield 7, 3) := by decide +kernel
theorem dX6_ofLine_90 : decode cX6_ofLine 90 = .ok (.iload_n 1, 1) := by decide +kernel
theorem dX6_ofLine_91 : decode cX6_ofLine 91 = .ok (.iaload, 1) := by decide +kernel
theorem dX6_ofLine_92 : decode cX6_ofLine 92 = .ok (.invokevirtual 146, 3) := by decide +kernel
theorem dX6_ofLine_95 : decode cX6_ofLine 95 = .ok (.iadd, 1) := by decide +kernel
theorem dX6_ofLine_96 : decode cX6_ofLine 96 = .ok (.ireturn, 1) := by decide +kernel
theorem dX6_ofLine_97 : decode cX6_ofLine 97 = .ok (.aload_n 0, 1) := by decide +kernel
theorem dX6_ofLine_98 : decode cX6_ofLine 98 = .ok (.getfield 40, 3) := by decide +kernel
theorem dX6_ofLine_101 : decode cX6_ofLine 101 = .ok (.iload_n 1, 1) := by decide +kernel
theorem dX6_ofLine_102 : decode cX6_ofLine 102 = .ok (.iaload, 1) := by decide +kernel
theorem dX6_ofLine_103 : decode cX6_ofLine 103 = .ok (.ireturn, 1) := by decide +kernel
theorem dX6_ofLine_104 : decode cX6_ofLine 104 = .ok (.aload_n 0, 1) := by decide +kernel
theorem dX6_ofLine_105 : decode cX6_ofLine 105 = .ok (.getfield 43, 3) := by decide +kernel
theorem dX6_ofLine_108 : decode cX6_ofLine 108 = .ok (.iload_n 1, 1) := by decide +kernel
theorem dX6_ofLine_109 : decode cX6_ofLine 109 = .ok (.iaload, 1) := by decide +kernel
theorem dX6_ofLine_110 : decode cX6_ofLine 110 = .ok (.ireturn, 1) := by decide +kernel
theorem dX6_ofLine_111 : decode cX6_ofLine 111 = .ok (.aload_n 0, 1) := by decide +kernel
theorem dX6_ofLine_112 : decode cX6_ofLine 112 = .ok (.getfield 13, 3) := by decide +kernel
theorem dX6_ofLine_115 : decode cX6_ofLine 115 = .ok (.iload_n 1, 1) := by decide +kernel
theorem dX6_ofLine_116 : decode cX6_ofLine 116 = .ok (.iaload, 1) := by decide +kernel
theorem dX6_ofLine_117 : decode cX6_ofLine 117 = .ok (.ireturn, 1) := by decide +kernel
theorem dX6_ofLine_118 : decode cX6_ofLine 118 = .ok (.bipush (-2), 2) := by decide +kernel
theorem dX6_ofLine_120 : decode cX6_ofLine 120 = .ok (.ireturn, 1) := by decide +kernel
set_option maxRecDepth 20000 in
theorem ggX6_opener_X6_goes : GoodIn wsX6_opener wsX6_goes := goodIn_r _ [12, 13, 14, 15, 16, 11, 17, 18, 1, 19, 20, 21, 22, 23, 24, 25, 26, 27, 28, 29, 30, 31, 32, 33, 34, 35, 36, 37, 38, 39, 6, 5, 4, 40, 41, 42, 43, 44, 45, 46, 47, 48, 49, 50, 51, 52, 2, 3, 7, 53, 54, 55, 56, 57, 58, 59, 63, 64, 65, 66, 67, 68, 69, 70, 71, 72, 73, 74, 75, 76, 77, 78, 79, 80, 81, 82, 83, 84, 85, 86, 87] (by decide +kernel) (by decide +kernel)
set_option maxRecDepth 20000 in
theorem gX6_opener_X6_goes : GoodIn wsX6_opener (wsV RX6 126 RX6 yX6_goes wsX6_goes) := goodIn_app (goodIn_of _ (by decide +kernel)) ggX6_opener_X6_goes
set_option maxRecDepth 20000 in
theorem ggX6_opener_X6_within : GoodIn wsX6_opener wsX6_within := goodIn_r _ [62] (by decide +kernel) (by decide +kernel)
set_option maxRecDepth 20000 in
theorem gX6_opener_X6_within : GoodIn wsX6_opener (va_wsS RX6 77 yX6_within wsX6_within) := goodIn_app (goodIn_of _ (by decide +kernel)) ggX6_opener_X6_within
theorem dX6_opener_0 : decode cX6_opener 0 = .ok (.aload_n 0, 1) := by decide +kernel
theorem dX6_opener_1 : decode cX6_opener 1 = .ok (.invokevirtual 126, 3) := by decide +kernel
theorem dX6_opener_4 : decode cX6_opener 4 = .ok (.iload_n 1, 1) := by decide +kernel
theorem dX6_opener_5 : decode cX6_opener 5 = .ok (.iconst 0, 1) := by decide +kernel
theorem dX6_opener_6 : decode cX6_opener 6 = .ok (.aload_n 0, 1) := by decide +kernel
theorem dX6_opener_7 : decode cX6_opener 7 = .ok (.getfield 95, 3) := by decide +kernel
theorem dX6_opener_10 : decode cX6_opener 10 = .ok (.iconst 1, 1) := by decide +kernel
theorem dX6_opener_11 : decode cX6_opener 11 = .ok (.isub, 1) := by decide +kernel
theorem dX6_opener_12 : decode cX6_opener 12 = .ok (.invokestatic 77, 3) := by decide +kernel
theorem dX6_opener_15 : decode cX6_opener 15 = .ok (.ifCond .ne 5, 3) := by decide +kernel
theorem dX6_opener_18 : decode cX6_opener 18 = .ok (.iconst (-1), 1) := by decide +kernel
theorem dX6_opener_19 : decode cX6_opener 19 = .ok (.ireturn, 1) := by decide +kernel
theorem dX6_opener_20 : decode cX6_opener 20 = .ok (.iload_n 2, 1) := by decide +kernel
theorem dX6_opener_21 : decode cX6_opener 21 = .ok (.tableswitch 81 0 5 #[39, 46, 53, 60, 67, 74], 39) := by decide +kernel
theorem dX6_opener_60 : decode cX6_opener 60 = .ok (.aload_n 0, 1) := by decide +kernel
theorem dX6_opener_61 : decode cX6_opener 61 = .ok (.getfield 19, 3) := by decide +kernel
theorem dX6_opener_64 : decode cX6_opener 64 = .ok (.iload_n 1, 1) := by decide +kernel
theorem dX6_opener_65 : decode cX6_opener 65 = .ok (.iaload, 1) := by decide +kernel
theorem dX6_opener_66 : decode cX6_opener 66 = .ok (.ireturn, 1) := by decide +kernel
theorem dX6_opener_67 : decode cX6_opener 67 = .ok (.aload_n 0, 1) := by decide +kernel
theorem dX6_opener_68 : decode cX6_opener 68 = .ok (.getfield 22, 3) := by decide +kernel
theorem dX6_opener_71 : decode cX6_opener 71 = .ok (.iload_n 1, 1) := by decide +kernel
theorem dX6_opener_72 : decode cX6_opener 72 = .ok (.iaload, 1) := by decide +kernel
theorem dX6_opener_73 : decode cX6_opener 73 = .ok (.ireturn, 1) := by decide +kernel
theorem dX6_opener_74 : decode cX6_opener 74 = .ok (.aload_n 0, 1) := by decide +kernel
theorem dX6_opener_75 : decode cX6_opener 75 = .ok (.getfield 25, 3) := by decide +kernel
theorem dX6_opener_78 : decode cX6_opener 78 = .ok (.iload_n 1, 1) := by decide +kernel
theorem dX6_opener_79 : decode cX6_opener 79 = .ok (.iaload, 1) := by decide +kernel
theorem dX6_opener_80 : decode cX6_opener 80 = .ok (.ireturn, 1) := by decide +kernel
theorem dX6_opener_81 : decode cX6_opener 81 = .ok (.aload_n 0, 1) := by decide +kernel
theorem dX6_opener_82 : decode cX6_opener 82 = .ok (.getfield 28, 3) := by decide +kernel
theorem dX6_opener_85 : decode cX6_opener 85 = .ok (.iload_n 1, 1) := by decide +kernel
theorem dX6_opener_86 : decode cX6_opener 86 = .ok (.iaload, 1) := by decide +kernel
theorem dX6_opener_87 : decode cX6_opener 87 = .ok (.ireturn, 1) := by decide +kernel
theorem dX6_opener_88 : decode cX6_opener 88 = .ok (.aload_n 0, 1) := by decide +kernel
theorem dX6_opener_89 : decode cX6_opener 89 = .ok (.getfield 31, 3) := by decide +kernel
theorem dX6_opener_92 : decode cX6_opener 92 = .ok (.iload_n 1, 1) := by decide +kernel
theorem dX6_opener_93 : decode cX6_opener 93 = .ok (.iaload, 1) := by decide +kernel
theorem dX6_opener_94 : decode cX6_opener 94 = .ok (.ireturn, 1) := by decide +kernel
theorem dX6_opener_95 : decode cX6_opener 95 = .ok (.aload_n 0, 1) := by decide +kernel
theorem dX6_opener_96 : decode cX6_opener 96 = .ok (.getfield 34, 3) := by decide +kernel
theorem dX6_opener_99 : decode cX6_opener 99 = .ok (.iload_n 1, 1) := by decide +kernel
theorem dX6_opener_100 : decode cX6_opener 100 = .ok (.iaload, 1) := by decide +kernel
theorem dX6_opener_101 : decode cX6_opener 101 = .ok (.ireturn, 1) := by decide +kernel
theorem dX6_opener_102 : decode cX6_opener 102 = .ok (.bipush (-2), 2) := by decide +kernel
theorem dX6_opener_104 : decode cX6_opener 104 = .ok (.ireturn, 1) := by decide +kernel
theorem dX6_counts_0 : decode cX6_counts 0 = .ok (.aload_n 0, 1) := by decide +kernel
theorem dX6_counts_1 : decode cX6_counts 1 = .ok (.getfield 13, 3) := by decide +kernel
theorem dX6_counts_4 : decode cX6_counts 4 = .ok (.iload_n 1, 1) := by decide +kernel
theorem dX6_counts_5 : decode cX6_counts 5 = .ok (.iaload, 1) := by decide +kernel
theorem dX6_counts_6 : decode cX6_counts 6 = .ok (.bipush (-9), 2) := by decide +kernel
theorem dX6_counts_8 : decode cX6_counts 8 = .ok (.if_icmp .eq 16, 3) := by decide +kernel
theorem dX6_counts_11 : decode cX6_counts 11 = .ok (.aload_n 0, 1) := by decide +kernel
theorem dX6_counts_12 : decode cX6_counts 12 = .ok (.getfield 7, 3) := by decide +kernel
theorem dX6_counts_15 : decode cX6_counts 15 = .ok (.iload_n 1, 1) := by decide +kernel
theorem dX6_counts_16 : decode cX6_counts 16 = .ok (.iaload, 1) := by decide +kernel
theorem dX6_counts_17 : decode cX6_counts 17 = .ok (.ifCond .eq 7, 3) := by decide +kernel
theorem dX6_counts_20 : decode cX6_counts 20 = .ok (.iconst 1, 1) := by decide +kernel
theorem dX6_counts_21 : decode cX6_counts 21 = .ok (.goto 4, 3) := by decide +kernel
theorem dX6_counts_24 : decode cX6_counts 24 = .ok (.iconst 0, 1) := by decide +kernel
theorem dX6_counts_25 : decode cX6_counts 25 = .ok (.ireturn, 1) := by decide +kernel
set_option maxRecDepth 20000 in
theorem ggX6_unlike_X6_isLine : GoodIn wsX6_unlike wsX6_isLine := goodIn_r _ [8, 1, 9, 10, 7, 11, 72, 73, 74, 75, 76, 77, 78, 79, 80, 81, 82, 83, 84, 85, 86, 87, 88, 89, 90, 91, 92, 93, 94, 95, 96] (by decide +kernel) (by decide +kernel)
set_option maxRecDepth 20000 in
theorem gX6_unlike_X6_isLine : GoodIn wsX6_unlike (wsV RX6 139 RX6 yX6_isLine wsX6_isLine) := goodIn_app (goodIn_of _ (by decide +kernel)) ggX6_unlike_X6_isLine
set_option maxRecDepth 20000 in
theorem ggX6_unlike_X6_goes : GoodIn wsX6_unlike wsX6_goes := goodIn_r _ [15, 16, 17, 18, 19, 7, 20, 21, 22, 23, 24, 1, 25, 26, 27, 28, 29, 30, 31, 2, 32, 33, 34, 35, 36, 37, 38, 39, 40, 41, 42, 43, 44, 45, 46, 47, 48, 49, 50, 51, 52, 53, 54, 55, 56, 57, 58, 59, 60, 61, 62, 63, 64, 65, 66, 67, 72, 73, 74, 75, 76, 77, 78, 79, 80, 81, 82, 83, 84, 85, 86, 87, 88, 89, 90, 91, 92, 93, 94, 95, 96] (by decide +kernel) (by decide +kernel)
set_option maxRecDepth 20000 in
theorem gX6_unlike_X6_goes : GoodIn wsX6_unlike (wsV RX6 126 RX6 yX6_goes wsX6_goes) := goodIn_app (goodIn_of _ (by decide +kernel)) ggX6_unlike_X6_goes
set_option maxRecDepth 20000 in
theorem ggX6_unlike_X6_counts : GoodIn wsX6_unlike wsX6_counts := goodIn_r _ [71, 3, 29, 72, 73, 74, 75, 76, 77, 78, 79, 80, 81, 82, 83, 84, 85, 86, 87, 88, 89, 90, 91, 92, 93, 94, 95, 96] (by decide +kernel) (by decide +kernel)
set_option maxRecDepth 20000 in
theorem gX6_unlike_X6_counts : GoodIn wsX6_unlike (wsV RX6 149 RX6 yX6_counts wsX6_counts) := goodIn_app (goodIn_of _ (by decide +kernel)) ggX6_unlike_X6_counts
theorem dX6_unlike_0 : decode cX6_unlike 0 = .ok (.aload_n 0, 1) := by decide +kernel
theorem dX6_unlike_1 : decode cX6_unlike 1 = .ok (.iload_n 1, 1) := by decide +kernel
theorem dX6_unlike_2 : decode cX6_unlike 2 = .ok (.invokevirtual 139, 3) := by decide +kernel
theorem dX6_unlike_5 : decode cX6_unlike 5 = .ok (.ifCond .ne 5, 3) := by decide +kernel
theorem dX6_unlike_8 : decode cX6_unlike 8 = .ok (.iconst (-1), 1) := by decide +kernel
theorem dX6_unlike_9 : decode cX6_unlike 9 = .ok (.ireturn, 1) := by decide +kernel
theorem dX6_unlike_10 : decode cX6_unlike 10 = .ok (.aload_n 0, 1) := by decide +kernel
theorem dX6_unlike_11 : decode cX6_unlike 11 = .ok (.invokevirtual 126, 3) := by decide +kernel
theorem dX6_unlike_14 : decode cX6_unlike 14 = .ok (.iload_n 1, 1) := by decide +kernel
theorem dX6_unlike_15 : decode cX6_unlike 15 = .ok (.istore_n 2, 1) := by decide +kernel
theorem dX6_unlike_16 : decode cX6_unlike 16 = .ok (.iload_n 2, 1) := by decide +kernel
theorem dX6_unlike_17 : decode cX6_unlike 17 = .ok (.aload_n 0, 1) := by decide +kernel
theorem dX6_unlike_18 : decode cX6_unlike 18 = .ok (.getfield 73, 3) := by decide +kernel
theorem dX6_unlike_21 : decode cX6_unlike 21 = .ok (.if_icmp .ge 34, 3) := by decide +kernel
theorem dX6_unlike_24 : decode cX6_unlike 24 = .ok (.aload_n 0, 1) := by decide +kernel
theorem dX6_unlike_25 : decode cX6_unlike 25 = .ok (.iload_n 2, 1) := by decide +kernel
theorem dX6_unlike_26 : decode cX6_unlike 26 = .ok (.invokevirtual 149, 3) := by decide +kernel
theorem dX6_unlike_29 : decode cX6_unlike 29 = .ok (.ifCond .eq 20, 3) := by decide +kernel
theorem dX6_unlike_32 : decode cX6_unlike 32 = .ok (.aload_n 0, 1) := by decide +kernel
theorem dX6_unlike_33 : decode cX6_unlike 33 = .ok (.getfield 37, 3) := by decide +kernel
theorem dX6_unlike_36 : decode cX6_unlike 36 = .ok (.iload_n 2, 1) := by decide +kernel
theorem dX6_unlike_37 : decode cX6_unlike 37 = .ok (.iaload, 1) := by decide +kernel
theorem dX6_unlike_38 : decode cX6_unlike 38 = .ok (.aload_n 0, 1) := by decide +kernel
theorem dX6_unlike_39 : decode cX6_unlike 39 = .ok (.getfield 13, 3) := by decide +kernel
theorem dX6_unlike_42 : decode cX6_unlike 42 = .ok (.iload_n 2, 1) := by decide +kernel
theorem dX6_unlike_43 : decode cX6_unlike 43 = .ok (.iaload, 1) := by decide +kernel
theorem dX6_unlike_44 : decode cX6_unlike 44 = .ok (.if_icmp .eq 5, 3) := by decide +kernel
theorem dX6_unlike_47 : decode cX6_unlike 47 = .ok (.iload_n 2, 1) := by decide +kernel
theorem dX6_unlike_48 : decode cX6_unlike 48 = .ok (.ireturn, 1) := by decide +kernel
theorem dX6_unlike_49 : decode cX6_unlike 49 = .ok (.iinc 2 1, 3) := by decide +kernel
theorem dX6_unlike_52 : decode cX6_unlike 52 = .ok (.goto (-36), 3) := by decide +kernel
theorem dX6_unlike_55 : decode cX6_unlike 55 = .ok (.bipush (-9), 2) := by decide +kernel
theorem dX6_unlike_57 : decode cX6_unlike 57 = .ok (.ireturn, 1) := by decide +kernel
set_option maxRecDepth 20000 in
theorem ggX6_see_X6_isLine : GoodIn wsX6_see wsX6_isLine := goodIn_r _ [6, 7, 8, 9, 5, 10, 11, 12, 13, 14, 15, 16, 17, 18, 19, 20, 21, 22, 23, 24, 25, 26, 27, 28, 29, 30, 31, 32, 33, 34, 35] (by decide +kernel) (by decide +kernel)
set_option maxRecDepth 20000 in
theorem gX6_see_X6_isLine : GoodIn wsX6_see (wsV RX6 139 RX6 yX6_isLine wsX6_isLine) := goodIn_app (goodIn_of _ (by decide +kernel)) ggX6_see_X6_isLine
set_option maxRecDepth 20000 in
theorem ggX6_see_X6_within : GoodIn wsX6_see wsX6_within := goodIn_r _ [10] (by decide +kernel) (by decide +kernel)
set_option maxRecDepth 20000 in
theorem gX6_see_X6_within : GoodIn wsX6_see (va_wsS RX6 77 yX6_within wsX6_within) := goodIn_app (goodIn_of _ (by decide +kernel)) ggX6_see_X6_within
theorem dX6_see_0 : decode cX6_see 0 = .ok (.aload_n 0, 1) := by decide +kernel
theorem dX6_see_1 : decode cX6_see 1 = .ok (.iload_n 1, 1) := by decide +kernel
theorem dX6_see_2 : decode cX6_see 2 = .ok (.invokevirtual 139, 3) := by decide +kernel
theorem dX6_see_5 : decode cX6_see 5 = .ok (.ifCond .ne 5, 3) := by decide +kernel
theorem dX6_see_8 : decode cX6_see 8 = .ok (.iconst (-1), 1) := by decide +kernel
theorem dX6_see_9 : decode cX6_see 9 = .ok (.ireturn, 1) := by decide +kernel
theorem dX6_see_10 : decode cX6_see 10 = .ok (.iload_n 2, 1) := by decide +kernel
theorem dX6_see_11 : decode cX6_see 11 = .ok (.bipush (-9), 2) := by decide +kernel
theorem dX6_see_13 : decode cX6_see 13 = .ok (.if_icmp .eq 17, 3) := by decide +kernel
theorem dX6_see_16 : decode cX6_see 16 = .ok (.iload_n 2, 1) := by decide +kernel
theorem dX6_see_17 : decode cX6_see 17 = .ok (.iconst 0, 1) := by decide +kernel
theorem dX6_see_18 : decode cX6_see 18 = .ok (.sipush 200, 3) := by decide +kernel
theorem dX6_see_21 : decode cX6_see 21 = .ok (.invokestatic 77, 3) := by decide +kernel
theorem dX6_see_24 : decode cX6_see 24 = .ok (.ifCond .ne 6, 3) := by decide +kernel
theorem dX6_see_27 : decode cX6_see 27 = .ok (.bipush (-2), 2) := by decide +kernel
theorem dX6_see_29 : decode cX6_see 29 = .ok (.ireturn, 1) := by decide +kernel
theorem dX6_see_30 : decode cX6_see 30 = .ok (.aload_n 0, 1) := by decide +kernel
theorem dX6_see_31 : decode cX6_see 31 = .ok (.getfield 13, 3) := by decide +kernel
theorem dX6_see_34 : decode cX6_see 34 = .ok (.iload_n 1, 1) := by decide +kernel
theorem dX6_see_35 : decode cX6_see 35 = .ok (.iaload, 1) := by decide +kernel
theorem dX6_see_36 : decode cX6_see 36 = .ok (.istore_n 3, 1) := by decide +kernel
theorem dX6_see_37 : decode cX6_see 37 = .ok (.aload_n 0, 1) := by decide +kernel
theorem dX6_see_38 : decode cX6_see 38 = .ok (.getfield 13, 3) := by decide +kernel
theorem dX6_see_41 : decode cX6_see 41 = .ok (.iload_n 1, 1) := by decide +kernel
theorem dX6_see_42 : decode cX6_see 42 = .ok (.iload_n 2, 1) := by decide +kernel
theorem dX6_see_43 : decode cX6_see 43 = .ok (.iastore, 1) := by decide +kernel
theorem dX6_see_44 : decode cX6_see 44 = .ok (.iload_n 3, 1) := by decide +kernel
theorem dX6_see_45 : decode cX6_see 45 = .ok (.ireturn, 1) := by decide +kernel
set_option maxRecDepth 20000 in
theorem ggX6_isStyle_X6_maySet : GoodIn wsX6_isStyle wsX6_maySet := goodIn_r _ [4, 5, 6, 3, 7] (by decide +kernel) (by decide +kernel)
set_option maxRecDepth 20000 in
theorem gX6_isStyle_X6_maySet : GoodIn wsX6_isStyle (va_wsS RX6 142 yX6_maySet wsX6_maySet) := goodIn_app (goodIn_of _ (by decide +kernel)) ggX6_isStyle_X6_maySet
theorem dX6_isStyle_0 : decode cX6_isStyle 0 = .ok (.iconst 0, 1) := by decide +kernel
theorem dX6_isStyle_1 : decode cX6_isStyle 1 = .ok (.iload_n 0, 1) := by decide +kernel
theorem dX6_isStyle_2 : decode cX6_isStyle 2 = .ok (.invokestatic 142, 3) := by decide +kernel
theorem dX6_isStyle_5 : decode cX6_isStyle 5 = .ok (.ifCond .eq 31, 3) := by decide +kernel
theorem dX6_isStyle_8 : decode cX6_isStyle 8 = .ok (.iconst 1, 1) := by decide +kernel
theorem dX6_isStyle_9 : decode cX6_isStyle 9 = .ok (.iload_n 1, 1) := by decide +kernel
theorem dX6_isStyle_10 : decode cX6_isStyle 10 = .ok (.invokestatic 142, 3) := by decide +kernel
theorem dX6_isStyle_13 : decode cX6_isStyle 13 = .ok (.ifCond .eq 23, 3) := by decide +kernel
theorem dX6_isStyle_16 : decode cX6_isStyle 16 = .ok (.iconst 2, 1) := by decide +kernel
theorem dX6_isStyle_17 : decode cX6_isStyle 17 = .ok (.iload_n 2, 1) := by decide +kernel
theorem dX6_isStyle_18 : decode cX6_isStyle 18 = .ok (.invokestatic 142, 3) := by decide +kernel
theorem dX6_isStyle_21 : decode cX6_isStyle 21 = .ok (.ifCond .eq 15, 3) := by decide +kernel
theorem dX6_isStyle_24 : decode cX6_isStyle 24 = .ok (.iconst 3, 1) := by decide +kernel
theorem dX6_isStyle_25 : decode cX6_isStyle 25 = .ok (.iload_n 3, 1) := by decide +kernel
theorem dX6_isStyle_26 : decode cX6_isStyle 26 = .ok (.invokestatic 142, 3) := by decide +kernel
theorem dX6_isStyle_29 : decode cX6_isStyle 29 = .ok (.ifCond .eq 7, 3) := by decide +kernel
theorem dX6_isStyle_32 : decode cX6_isStyle 32 = .ok (.iconst 1, 1) := by decide +kernel
theorem dX6_isStyle_33 : decode cX6_isStyle 33 = .ok (.goto 4, 3) := by decide +kernel
theorem dX6_isStyle_36 : decode cX6_isStyle 36 = .ok (.iconst 0, 1) := by decide +kernel
theorem dX6_isStyle_37 : decode cX6_isStyle 37 = .ok (.ireturn, 1) := by decide +kernel
set_option maxRecDepth 20000 in
theorem ggX6_fits_X6_isStyle : GoodIn wsX6_fits wsX6_isStyle := goodIn_r _ [7, 8, 9, 6, 10, 11, 12, 13] (by decide +kernel) (by decide +kernel)
set_option maxRecDepth 20000 in
theorem gX6_fits_X6_isStyle : GoodIn wsX6_fits (va_wsS RX6 152 yX6_isStyle wsX6_isStyle) := goodIn_app (goodIn_of _ (by decide +kernel)) ggX6_fits_X6_isStyle
set_option maxRecDepth 20000 in
theorem ggX6_fits_X6_goesBy : GoodIn wsX6_fits wsX6_goesBy := goodIn_r _ [17, 18, 19, 20, 21, 1, 22, 23, 24, 6, 25, 26, 27, 28, 2, 29, 30, 31, 32, 33, 34, 35, 36, 37, 38, 39, 40, 41, 42, 43, 44, 45, 46, 47, 48, 49, 50, 51, 52, 53, 54, 55, 56, 57, 58, 59, 60, 61, 62, 63, 64, 69, 70, 71, 72, 73, 74, 75, 76, 77, 78, 79, 80, 81, 82, 83, 84, 85, 86, 87, 88, 89, 90, 91, 92, 93] (by decide +kernel) (by decide +kernel)
set_option maxRecDepth 20000 in
theorem gX6_fits_X6_goesBy : GoodIn wsX6_fits (wsV RX6 123 RX6 yX6_goesBy wsX6_goesBy) := goodIn_app (goodIn_of _ (by decide +kernel)) ggX6_fits_X6_goesBy
set_option maxRecDepth 20000 in
theorem ggX6_fits_X6_counts : GoodIn wsX6_fits wsX6_counts := goodIn_r _ [68, 3, 26, 69, 70, 71, 72, 73, 74, 75, 76, 77, 78, 79, 80, 81, 82, 83, 84, 85, 86, 87, 88, 89, 90, 91, 92, 93] (by decide +kernel) (by decide +kernel)
set_option maxRecDepth 20000 in
theorem gX6_fits_X6_counts : GoodIn wsX6_fits (wsV RX6 149 RX6 yX6_counts wsX6_counts) := goodIn_app (goodIn_of _ (by decide +kernel)) ggX6_fits_X6_counts
theorem dX6_fits_0 : decode cX6_fits 0 = .ok (.iload_n 1, 1) := by decide +kernel
theorem dX6_fits_1 : decode cX6_fits 1 = .ok (.iload_n 2, 1) := by decide +kernel
theorem dX6_fits_2 : decode cX6_fits 2 = .ok (.iload_n 3, 1) := by decide +kernel
theorem dX6_fits_3 : decode cX6_fits 3 = .ok (.iload 4, 2) := by decide +kernel
theorem dX6_fits_5 : decode cX6_fits 5 = .ok (.invokestatic 152, 3) := by decide +kernel
theorem dX6_fits_8 : decode cX6_fits 8 = .ok (.ifCond .ne 6, 3) := by decide +kernel
theorem dX6_fits_11 : decode cX6_fits 11 = .ok (.bipush (-2), 2) := by decide +kernel
theorem dX6_fits_13 : decode cX6_fits 13 = .ok (.ireturn, 1) := by decide +kernel
theorem dX6_fits_14 : decode cX6_fits 14 = .ok (.aload_n 0, 1) := by decide +kernel
theorem dX6_fits_15 : decode cX6_fits 15 = .ok (.iload_n 1, 1) := by decide +kernel
theorem dX6_fits_16 : decode cX6_fits 16 = .ok (.iload_n 2, 1) := by decide +kernel
theorem dX6_fits_17 : decode cX6_fits 17 = .ok (.iload_n 3, 1) := by decide +kernel
theorem dX6_fits_18 : decode cX6_fits 18 = .ok (.iload 4, 2) := by decide +kernel
theorem dX6_fits_20 : decode cX6_fits 20 = .ok (.invokevirtual 123, 3) := by decide +kernel
theorem dX6_fits_23 : decode cX6_fits 23 = .ok (.iconst 0, 1) := by decide +kernel
theorem dX6_fits_24 : decode cX6_fits 24 = .ok (.istore 5, 2) := by decide +kernel
theorem dX6_fits_26 : decode cX6_fits 26 = .ok (.iconst 0, 1) := by decide +kernel
theorem dX6_fits_27 : decode cX6_fits 27 = .ok (.istore 6, 2) := by decide +kernel
theorem dX6_fits_29 : decode cX6_fits 29 = .ok (.iload 6, 2) := by decide +kernel
theorem dX6_fits_31 : decode cX6_fits 31 = .ok (.aload_n 0, 1) := by decide +kernel
theorem dX6_fits_32 : decode cX6_fits 32 = .ok (.getfield 73, 3) := by decide +kernel
theorem dX6_fits_35 : decode cX6_fits 35 = .ok (.if_icmp .ge 45, 3) := by decide +kernel
theorem dX6_fits_38 : decode cX6_fits 38 = .ok (.iload 5, 2) := by decide +kernel
theorem dX6_fits_40 : decode cX6_fits 40 = .ok (.aload_n 0, 1) := by decide +kernel
theorem dX6_fits_41 : decode cX6_fits 41 = .ok (.iload 6, 2) := by decide +kernel
theorem dX6_fits_43 : decode cX6_fits 43 = .ok (.invokevirtual 149, 3) := by decide +kernel
theorem dX6_fits_46 : decode cX6_fits 46 = .ok (.ifCond .eq 24, 3) := by decide +kernel
theorem dX6_fits_49 : decode cX6_fits 49 = .ok (.aload_n 0, 1) := by decide +kernel
theorem dX6_fits_50 : decode cX6_fits 50 = .ok (.getfield 37, 3) := by decide +kernel
theorem dX6_fits_53 : decode cX6_fits 53 = .ok (.iload 6, 2) := by decide +kernel
theorem dX6_fits_55 : decode cX6_fits 55 = .ok (.iaload, 1) := by decide +kernel
theorem dX6_fits_56 : decode cX6_fits 56 = .ok (.aload_n 0, 1) := by decide +kernel
theorem dX6_fits_57 : decode cX6_fits 57 = .ok (.getfield 13, 3) := by decide +kernel
theorem dX6_fits_60 : decode cX6_fits 60 = .ok (.iload 6, 2) := by decide +kernel
theorem dX6_fits_62 : decode cX6_fits 62 = .ok (.iaload, 1) := by decide +kernel
theorem dX6_fits_63 : decode cX6_fits 63 = .ok (.if_icmp .ne 7, 3) := by decide +kernel
theorem dX6_fits_66 : decode cX6_fits 66 = .ok (.iconst 1, 1) := by decide +kernel
theorem dX6_fits_67 : decode cX6_fits 67 = .ok (.goto 4, 3) := by decide +kernel
theorem dX6_fits_70 : decode cX6_fits 70 = .ok (.iconst 0, 1) := by decide +kernel
theorem dX6_fits_71 : decode cX6_fits 71 = .ok (.iadd, 1) := by decide +kernel
theorem dX6_fits_72 : decode cX6_fits 72 = .ok (.istore 5, 2) := by decide +kernel
theorem dX6_fits_74 : decode cX6_fits 74 = .ok (.iinc 6 1, 3) := by decide +kernel
theorem dX6_fits_77 : decode cX6_fits 77 = .ok (.goto (-48), 3) := by decide +kernel
theorem dX6_fits_80 : decode cX6_fits 80 = .ok (.iload 5, 2) := by decide +kernel
theorem dX6_fits_82 : decode cX6_fits 82 = .ok (.ireturn, 1) := by decide +kernel
set_option maxRecDepth 20000 in
theorem ggX6_scoreBy_X6_goesBy : GoodIn wsX6_scoreBy wsX6_goesBy := goodIn_r _ [9, 10, 11, 12, 13, 1, 14, 15, 16, 8, 17, 18, 2, 19, 3, 20, 21, 22, 23, 24, 25, 26, 27, 28, 29, 30, 31, 32, 33, 34, 35, 36, 37, 38, 39, 40, 41, 42, 43, 44, 45, 46, 47, 48, 49, 50, 51, 52, 53, 54, 55, 60, 61, 62, 63, 64, 65, 66, 67, 68, 69, 70, 71, 72, 73, 74, 75, 76, 77, 78, 79, 80, 81, 82, 83, 84] (by decide +kernel) (by decide +kernel)
set_option maxRecDepth 20000 in
theorem gX6_scoreBy_X6_goesBy : GoodIn wsX6_scoreBy (wsV RX6 123 RX6 yX6_goesBy wsX6_goesBy) := goodIn_app (goodIn_of _ (by decide +kernel)) ggX6_scoreBy_X6_goesBy
set_option maxRecDepth 20000 in
theorem ggX6_scoreBy_X6_counts : GoodIn wsX6_scoreBy wsX6_counts := goodIn_r _ [59, 4, 18, 60, 61, 62, 63, 64, 65, 66, 67, 68, 69, 70, 71, 72, 73, 74, 75, 76, 77, 78, 79, 80, 81, 82, 83, 84] (by decide +kernel) (by decide +kernel)
set_option maxRecDepth 20000 in
theorem gX6_scoreBy_X6_counts : GoodIn wsX6_scoreBy (wsV RX6 149 RX6 yX6_counts wsX6_counts) := goodIn_app (goodIn_of _ (by decide +kernel)) ggX6_scoreBy_X6_counts
theorem dX6_scoreBy_0 : decode cX6_scoreBy 0 = .ok (.aload_n 0, 1) := by decide +kernel
theorem dX6_scoreBy_1 : decode cX6_scoreBy 1 = .ok (.iload_n 1, 1) := by decide +kernel
theorem dX6_scoreBy_2 : decode cX6_scoreBy 2 = .ok (.iload_n 2, 1) := by decide +kernel
theorem dX6_scoreBy_3 : decode cX6_scoreBy 3 = .ok (.iload_n 3, 1) := by decide +kernel
theorem dX6_scoreBy_4 : decode cX6_scoreBy 4 = .ok (.iload 4, 2) := by decide +kernel
theorem dX6_scoreBy_6 : decode cX6_scoreBy 6 = .ok (.invokevirtual 123, 3) := by decide +kernel
theorem dX6_scoreBy_9 : decode cX6_scoreBy 9 = .ok (.iconst 0, 1) := by decide +kernel
theorem dX6_scoreBy_10 : decode cX6_scoreBy 10 = .ok (.istore 5, 2) := by decide +kernel
theorem dX6_scoreBy_12 : decode cX6_scoreBy 12 = .ok (.iconst 0, 1) := by decide +kernel
theorem dX6_scoreBy_13 : decode cX6_scoreBy 13 = .ok (.istore 6, 2) := by decide +kernel
theorem dX6_scoreBy_15 : decode cX6_scoreBy 15 = .ok (.iload 6, 2) := by decide +kernel
theorem dX6_scoreBy_17 : decode cX6_scoreBy 17 = .ok (.aload_n 0, 1) := by decide +kernel
theorem dX6_scoreBy_18 : decode cX6_scoreBy 18 = .ok (.getfield 73, 3) := by decide +kernel
theorem dX6_scoreBy_21 : decode cX6_scoreBy 21 = .ok (.if_icmp .ge 77, 3) := by decide +kernel
theorem dX6_scoreBy_24 : decode cX6_scoreBy 24 = .ok (.aload_n 0, 1) := by decide +kernel
theorem dX6_scoreBy_25 : decode cX6_scoreBy 25 = .ok (.getfield 40, 3) := by decide +kernel
theorem dX6_scoreBy_28 : decode cX6_scoreBy 28 = .ok (.iload 6, 2) := by decide +kernel
theorem dX6_scoreBy_30 : decode cX6_scoreBy 30 = .ok (.iaload, 1) := by decide +kernel
theorem dX6_scoreBy_31 : decode cX6_scoreBy 31 = .ok (.bipush 12, 2) := by decide +kernel
theorem dX6_scoreBy_33 : decode cX6_scoreBy 33 = .ok (.if_icmp .ge 13, 3) := by decide +kernel
theorem dX6_scoreBy_36 : decode cX6_scoreBy 36 = .ok (.aload_n 0, 1) := by decide +kernel
theorem dX6_scoreBy_37 : decode cX6_scoreBy 37 = .ok (.getfield 40, 3) := by decide +kernel
theorem dX6_scoreBy_40 : decode cX6_scoreBy 40 = .ok (.iload 6, 2) := by decide +kernel
theorem dX6_scoreBy_42 : decode cX6_scoreBy 42 = .ok (.iaload, 1) := by decide +kernel
theorem dX6_scoreBy_43 : decode cX6_scoreBy 43 = .ok (.goto 5, 3) := by decide +kernel
theorem dX6_scoreBy_46 : decode cX6_scoreBy 46 = .ok (.bipush 12, 2) := by decide +kernel
theorem dX6_scoreBy_48 : decode cX6_scoreBy 48 = .ok (.istore 7, 2) := by decide +kernel
theorem dX6_scoreBy_50 : decode cX6_scoreBy 50 = .ok (.iload 5, 2) := by decide +kernel
theorem dX6_scoreBy_52 : decode cX6_scoreBy 52 = .ok (.aload_n 0, 1) := by decide +kernel
theorem dX6_scoreBy_53 : decode cX6_scoreBy 53 = .ok (.iload 6, 2) := by decide +kernel
theorem dX6_scoreBy_55 : decode cX6_scoreBy 55 = .ok (.invokevirtual 149, 3) := by decide +kernel
theorem dX6_scoreBy_58 : decode cX6_scoreBy 58 = .ok (.ifCond .eq 30, 3) := by decide +kernel
theorem dX6_scoreBy_61 : decode cX6_scoreBy 61 = .ok (.aload_n 0, 1) := by decide +kernel
theorem dX6_scoreBy_62 : decode cX6_scoreBy 62 = .ok (.getfield 37, 3) := by decide +kernel
theorem dX6_scoreBy_65 : decode cX6_scoreBy 65 = .ok (.iload 6, 2) := by decide +kernel
theorem dX6_scoreBy_67 : decode cX6_scoreBy 67 = .ok (.iaload, 1) := by decide +kernel
theorem dX6_scoreBy_68 : decode cX6_scoreBy 68 = .ok (.aload_n 0, 1) := by decide +kernel
theorem dX6_scoreBy_69 : decode cX6_scoreBy 69 = .ok (.getfield 13, 3) := by decide +kernel
theorem dX6_scoreBy_72 : decode cX6_scoreBy 72 = .ok (.iload 6, 2) := by decide +kernel
theorem dX6_scoreBy_74 : decode cX6_scoreBy 74 = .ok (.iaload, 1) := by decide +kernel
theorem dX6_scoreBy_75 : decode cX6_scoreBy 75 = .ok (.if_icmp .ne 13, 3) := by decide +kernel
theorem dX6_scoreBy_78 : decode cX6_scoreBy 78 = .ok (.iconst 1, 1) := by decide +kernel
theorem dX6_scoreBy_79 : decode cX6_scoreBy 79 = .ok (.bipush 12, 2) := by decide +kernel
theorem dX6_scoreBy_81 : decode cX6_scoreBy 81 = .ok (.iload 7, 2) := by decide +kernel
theorem dX6_scoreBy_83 : decode cX6_scoreBy 83 = .ok (.isub, 1) := by decide +kernel
theorem dX6_scoreBy_84 : decode cX6_scoreBy 84 = .ok (.ishl, 1) := by decide +kernel
theorem dX6_scoreBy_85 : decode cX6_scoreBy 85 = .ok (.goto 4, 3) := by decide +kernel
theorem dX6_scoreBy_88 : decode cX6_scoreBy 88 = .ok (.iconst 0, 1) := by decide +kernel
theorem dX6_scoreBy_89 : decode cX6_scoreBy 89 = .ok (.iadd, 1) := by decide +kernel
theorem dX6_scoreBy_90 : decode cX6_scoreBy 90 = .ok (.istore 5, 2) := by decide +kernel
theorem dX6_scoreBy_92 : decode cX6_scoreBy 92 = .ok (.iinc 6 1, 3) := by decide +kernel
theorem dX6_scoreBy_95 : decode cX6_scoreBy 95 = .ok (.goto (-80), 3) := by decide +kernel
theorem dX6_scoreBy_98 : decode cX6_scoreBy 98 = .ok (.iload 5, 2) := by decide +kernel
theorem dX6_scoreBy_100 : decode cX6_scoreBy 100 = .ok (.ireturn, 1) := by decide +kernel
theorem dX6_bitsOf_0 : decode cX6_bitsOf 0 = .ok (.iload_n 0, 1) := by decide +kernel
theorem dX6_bitsOf_1 : decode cX6_bitsOf 1 = .ok (.ifCond .ne 5, 3) := by decide +kernel
theorem dX6_bitsOf_4 : decode cX6_bitsOf 4 = .ok (.iconst 0, 1) := by decide +kernel
theorem dX6_bitsOf_5 : decode cX6_bitsOf 5 = .ok (.ireturn, 1) := by decide +kernel
theorem dX6_bitsOf_6 : decode cX6_bitsOf 6 = .ok (.iconst 0, 1) := by decide +kernel
theorem dX6_bitsOf_7 : decode cX6_bitsOf 7 = .ok (.istore_n 1, 1) := by decide +kernel
theorem dX6_bitsOf_8 : decode cX6_bitsOf 8 = .ok (.iload_n 0, 1) := by decide +kernel
theorem dX6_bitsOf_9 : decode cX6_bitsOf 9 = .ok (.iload_n 1, 1) := by decide +kernel
theorem dX6_bitsOf_10 : decode cX6_bitsOf 10 = .ok (.iconst 1, 1) := by decide +kernel
theorem dX6_bitsOf_11 : decode cX6_bitsOf 11 = .ok (.iadd, 1) := by decide +kernel
theorem dX6_bitsOf_12 : decode cX6_bitsOf 12 = .ok (.ishr, 1) := by decide +kernel
theorem dX6_bitsOf_13 : decode cX6_bitsOf 13 = .ok (.ifCond .le 9, 3) := by decide +kernel
theorem dX6_bitsOf_16 : decode cX6_bitsOf 16 = .ok (.iinc 1 1, 3) := by decide +kernel
theorem dX6_bitsOf_19 : decode cX6_bitsOf 19 = .ok (.goto (-11), 3) := by decide +kernel
theorem dX6_bitsOf_22 : decode cX6_bitsOf 22 = .ok (.bipush 127, 2) := by decide +kernel
theorem dX6_bitsOf_24 : decode cX6_bitsOf 24 = .ok (.iload_n 1, 1) := by decide +kernel
theorem dX6_bitsOf_25 : decode cX6_bitsOf 25 = .ok (.iadd, 1) := by decide +kernel
theorem dX6_bitsOf_26 : decode cX6_bitsOf 26 = .ok (.bipush 12, 2) := by decide +kernel
theorem dX6_bitsOf_28 : decode cX6_bitsOf 28 = .ok (.isub, 1) := by decide +kernel
theorem dX6_bitsOf_29 : decode cX6_bitsOf 29 = .ok (.bipush 23, 2) := by decide +kernel
theorem dX6_bitsOf_31 : decode cX6_bitsOf 31 = .ok (.ishl, 1) := by decide +kernel
theorem dX6_bitsOf_32 : decode cX6_bitsOf 32 = .ok (.iload_n 0, 1) := by decide +kernel
theorem dX6_bitsOf_33 : decode cX6_bitsOf 33 = .ok (.bipush 23, 2) := by decide +kernel
theorem dX6_bitsOf_35 : decode cX6_bitsOf 35 = .ok (.iload_n 1, 1) := by decide +kernel
theorem dX6_bitsOf_36 : decode cX6_bitsOf 36 = .ok (.isub, 1) := by decide +kernel
theorem dX6_bitsOf_37 : decode cX6_bitsOf 37 = .ok (.ishl, 1) := by decide +kernel
theorem dX6_bitsOf_38 : decode cX6_bitsOf 38 = .ok (.ldc 156, 2) := by decide +kernel
theorem dX6_bitsOf_40 : decode cX6_bitsOf 40 = .ok (.iand, 1) := by decide +kernel
theorem dX6_bitsOf_41 : decode cX6_bitsOf 41 = .ok (.ior, 1) := by decide +kernel
theorem dX6_bitsOf_42 : decode cX6_bitsOf 42 = .ok (.ireturn, 1) := by decide +kernel
set_option maxRecDepth 20000 in
theorem ggX6_score_X6_isStyle : GoodIn wsX6_score wsX6_isStyle := goodIn_r _ [4, 5, 6, 3, 7, 8, 9, 10] (by decide +kernel) (by decide +kernel)
set_option maxRecDepth 20000 in
theorem gX6_score_X6_isStyle : GoodIn wsX6_score (va_wsS RX6 152 yX6_isStyle wsX6_isStyle) := goodIn_app (goodIn_of _ (by decide +kernel)) ggX6_score_X6_isStyle
set_option maxRecDepth 20000 in
theorem ggX6_score_X6_within : GoodIn wsX6_score wsX6_within := goodIn_r _ [10] (by decide +kernel) (by decide +kernel)
set_option maxRecDepth 20000 in
theorem gX6_score_X6_within : GoodIn wsX6_score (va_wsS RX6 77 yX6_within wsX6_within) := goodIn_app (goodIn_of _ (by decide +kernel)) ggX6_score_X6_within
set_option maxRecDepth 20000 in
theorem ggX6_score_X6_scoreBy : GoodIn wsX6_score wsX6_scoreBy := goodIn_r _ [14, 15, 16, 17, 18, 19, 20, 21, 3, 22, 23, 24, 25, 26, 27, 28, 29, 30, 31, 32, 33, 34, 35, 36, 37, 38, 39, 40, 41, 42, 43, 44, 45, 46, 47, 48, 49, 50, 51, 52, 53, 54, 55, 56, 57, 58, 59, 60, 61, 62, 63, 64, 65, 66, 67, 68, 69, 70, 71, 72, 77, 78, 79, 80, 81, 82, 83, 84, 85, 86, 87, 88, 89, 90, 91, 92, 93, 94, 95, 96, 97, 98, 99, 100, 101] (by decide +kernel) (by decide +kernel)
set_option maxRecDepth 20000 in
theorem gX6_score_X6_scoreBy : GoodIn wsX6_score (wsV RX6 157 RX6 yX6_scoreBy wsX6_scoreBy) := goodIn_app (goodIn_of _ (by decide +kernel)) ggX6_score_X6_scoreBy
set_option maxRecDepth 20000 in
theorem ggX6_score_X6_bitsOf : GoodIn wsX6_score wsX6_bitsOf := goodIn_r _ [75, 76] (by decide +kernel) (by decide +kernel)
set_option maxRecDepth 20000 in
theorem gX6_score_X6_bitsOf : GoodIn wsX6_score (va_wsS RX6 161 yX6_bitsOf wsX6_bitsOf) := goodIn_app (goodIn_of _ (by decide +kernel)) ggX6_score_X6_bitsOf
theorem dX6_score_0 : decode cX6_score 0 = .ok (.iload_n 1, 1) := by decide +kernel
theorem dX6_score_1 : decode cX6_score 1 = .ok (.iload_n 2, 1) := by decide +kernel
theorem dX6_score_2 : decode cX6_score 2 = .ok (.iload_n 3, 1) := by decide +kernel
theorem dX6_score_3 : decode cX6_score 3 = .ok (.iload 4, 2) := by decide +kernel
theorem dX6_score_5 : decode cX6_score 5 = .ok (.invokestatic 152, 3) := by decide +kernel
theorem dX6_score_8 : decode cX6_score 8 = .ok (.ifCond .eq 13, 3) := by decide +kernel
theorem dX6_score_11 : decode cX6_score 11 = .ok (.iload 5, 2) := by decide +kernel
theorem dX6_score_13 : decode cX6_score 13 = .ok (.iconst 0, 1) := by decide +kernel
theorem dX6_score_14 : decode cX6_score 14 = .ok (.iconst 1, 1) := by decide +kernel
theorem dX6_score_15 : decode cX6_score 15 = .ok (.invokestatic 77, 3) := by decide +kernel
theorem dX6_score_18 : decode cX6_score 18 = .ok (.ifCond .ne 6, 3) := by decide +kernel
theorem dX6_score_21 : decode cX6_score 21 = .ok (.bipush (-2), 2) := by decide +kernel
theorem dX6_score_23 : decode cX6_score 23 = .ok (.ireturn, 1) := by decide +kernel
theorem dX6_score_24 : decode cX6_score 24 = .ok (.aload_n 0, 1) := by decide +kernel
theorem dX6_score_25 : decode cX6_score 25 = .ok (.iload_n 1, 1) := by decide +kernel
theorem dX6_score_26 : decode cX6_score 26 = .ok (.iload_n 2, 1) := by decide +kernel
theorem dX6_score_27 : decode cX6_score 27 = .ok (.iload_n 3, 1) := by decide +kernel
theorem dX6_score_28 : decode cX6_score 28 = .ok (.iload 4, 2) := by decide +kernel
theorem dX6_score_30 : decode cX6_score 30 = .ok (.invokevirtual 157, 3) := by decide +kernel
theorem dX6_score_33 : decode cX6_score 33 = .ok (.istore 6, 2) := by decide +kernel
theorem dX6_score_35 : decode cX6_score 35 = .ok (.iload 5, 2) := by decide +kernel
theorem dX6_score_37 : decode cX6_score 37 = .ok (.ifCond .ne 11, 3) := by decide +kernel
theorem dX6_score_40 : decode cX6_score 40 = .ok (.iload 6, 2) := by decide +kernel
theorem dX6_score_42 : decode cX6_score 42 = .ok (.invokestatic 161, 3) := by decide +kernel
theorem dX6_score_45 : decode cX6_score 45 = .ok (.goto 13, 3) := by decide +kernel
theorem dX6_score_48 : decode cX6_score 48 = .ok (.iload 6, 2) := by decide +kernel
theorem dX6_score_50 : decode cX6_score 50 = .ok (.sipush 1000, 3) := by decide +kernel
theorem dX6_score_53 : decode cX6_score 53 = .ok (.imul, 1) := by decide +kernel
theorem dX6_score_54 : decode cX6_score 54 = .ok (.sipush 4096, 3) := by decide +kernel
theorem dX6_score_57 : decode cX6_score 57 = .ok (.idiv, 1) := by decide +kernel
theorem dX6_score_58 : decode cX6_score 58 = .ok (.ireturn, 1) := by decide +kernel
set_option maxRecDepth 20000 in
theorem ggX6_guesses_X6_counts : GoodIn wsX6_guesses wsX6_counts := goodIn_r _ [7, 8, 9, 65, 66, 67, 68, 69, 70, 71, 72, 73, 74, 75, 76, 77, 78, 79, 80, 81, 82, 83, 84, 85, 86, 87, 88, 89] (by decide +kernel) (by decide +kernel)
set_option maxRecDepth 20000 in
theorem gX6_guesses_X6_counts : GoodIn wsX6_guesses (wsV RX6 149 RX6 yX6_counts wsX6_counts) := goodIn_app (goodIn_of _ (by decide +kernel)) ggX6_guesses_X6_counts
set_option maxRecDepth 20000 in
theorem ggX6_guesses_X6_scoreBy : GoodIn wsX6_guesses wsX6_scoreBy := goodIn_r _ [13, 1, 14, 15, 8, 16, 17, 18, 6, 19, 20, 21, 22, 23, 24, 25, 26, 27, 9, 28, 29, 30, 31, 32, 33, 34, 35, 36, 37, 38, 39, 40, 41, 42, 43, 44, 45, 46, 47, 48, 49, 50, 51, 52, 53, 54, 55, 56, 57, 58, 59, 60, 61, 62, 63, 64, 3, 4, 5, 7, 65, 66, 67, 68, 69, 70, 71, 72, 73, 74, 75, 76, 77, 78, 79, 80, 81, 82, 83, 84, 85, 86, 87, 88, 89] (by decide +kernel) (by decide +kernel)
set_option maxRecDepth 20000 in
theorem gX6_guesses_X6_scoreBy : GoodIn wsX6_guesses (wsV RX6 157 RX6 yX6_scoreBy wsX6_scoreBy) := goodIn_app (goodIn_of _ (by decide +kernel)) ggX6_guesses_X6_scoreBy
theorem dX6_guesses_0 : decode cX6_guesses 0 = .ok (.iconst 0, 1) := by decide +kernel
theorem dX6_guesses_1 : decode cX6_guesses 1 = .ok (.istore_n 1, 1) := by decide +kernel
theorem dX6_guesses_2 : decode cX6_guesses 2 = .ok (.iconst 0, 1) := by decide +kernel
theorem dX6_guesses_3 : decode cX6_guesses 3 = .ok (.istore_n 2, 1) := by decide +kernel
theorem dX6_guesses_4 : decode cX6_guesses 4 = .ok (.iload_n 2, 1) := by decide +kernel
theorem dX6_guesses_5 : decode cX6_guesses 5 = .ok (.aload_n 0, 1) := by decide +kernel
theorem dX6_guesses_6 : decode cX6_guesses 6 = .ok (.getfield 73, 3) := by decide +kernel
theorem dX6_guesses_9 : decode cX6_guesses 9 = .ok (.if_icmp .ge 27, 3) := by decide +kernel
theorem dX6_guesses_12 : decode cX6_guesses 12 = .ok (.iload_n 1, 1) := by decide +kernel
theorem dX6_guesses_13 : decode cX6_guesses 13 = .ok (.ifCond .ne 11, 3) := by decide +kernel
theorem dX6_guesses_16 : decode cX6_guesses 16 = .ok (.aload_n 0, 1) := by decide +kernel
theorem dX6_guesses_17 : decode cX6_guesses 17 = .ok (.iload_n 2, 1) := by decide +kernel
theorem dX6_guesses_18 : decode cX6_guesses 18 = .ok (.invokevirtual 149, 3) := by decide +kernel
theorem dX6_guesses_21 : decode cX6_guesses 21 = .ok (.ifCond .eq 7, 3) := by decide +kernel
theorem dX6_guesses_24 : decode cX6_guesses 24 = .ok (.iconst 1, 1) := by decide +kernel
theorem dX6_guesses_25 : decode cX6_guesses 25 = .ok (.goto 4, 3) := by decide +kernel
theorem dX6_guesses_28 : decode cX6_guesses 28 = .ok (.iconst 0, 1) := by decide +kernel
theorem dX6_guesses_29 : decode cX6_guesses 29 = .ok (.istore_n 1, 1) := by decide +kernel
theorem dX6_guesses_30 : decode cX6_guesses 30 = .ok (.iinc 2 1, 3) := by decide +kernel
theorem dX6_guesses_33 : decode cX6_guesses 33 = .ok (.goto (-29), 3) := by decide +kernel
theorem dX6_guesses_36 : decode cX6_guesses 36 = .ok (.aload_n 0, 1) := by decide +kernel
theorem dX6_guesses_37 : decode cX6_guesses 37 = .ok (.getfield 55, 3) := by decide +kernel
theorem dX6_guesses_40 : decode cX6_guesses 40 = .ok (.iconst 4, 1) := by decide +kernel
theorem dX6_guesses_41 : decode cX6_guesses 41 = .ok (.iconst (-1), 1) := by decide +kernel
theorem dX6_guesses_42 : decode cX6_guesses 42 = .ok (.iastore, 1) := by decide +kernel
theorem dX6_guesses_43 : decode cX6_guesses 43 = .ok (.iconst 0, 1) := by decide +kernel
theorem dX6_guesses_44 : decode cX6_guesses 44 = .ok (.istore_n 2, 1) := by decide +kernel
theorem dX6_guesses_45 : decode cX6_guesses 45 = .ok (.iload_n 2, 1) := by decide +kernel
theorem dX6_guesses_46 : decode cX6_guesses 46 = .ok (.sipush 256, 3) := by decide +kernel
theorem dX6_guesses_49 : decode cX6_guesses 49 = .ok (.if_icmp .ge 99, 3) := by decide +kernel
theorem dX6_guesses_52 : decode cX6_guesses 52 = .ok (.aload_n 0, 1) := by decide +kernel
theorem dX6_guesses_53 : decode cX6_guesses 53 = .ok (.iconst 1, 1) := by decide +kernel
theorem dX6_guesses_54 : decode cX6_guesses 54 = .ok (.iload_n 2, 1) := by decide +kernel
theorem dX6_guesses_55 : decode cX6_guesses 55 = .ok (.bipush 32, 2) := by decide +kernel
theorem dX6_guesses_57 : decode cX6_guesses 57 = .ok (.idiv, 1) := by decide +kernel
theorem dX6_guesses_58 : decode cX6_guesses 58 = .ok (.iadd, 1) := by decide +kernel
theorem dX6_guesses_59 : decode cX6_guesses 59 = .ok (.iconst 1, 1) := by decide +kernel
theorem dX6_guesses_60 : decode cX6_guesses 60 = .ok (.iload_n 2, 1) := by decide +kernel
theorem dX6_guesses_61 : decode cX6_guesses 61 = .ok (.iconst 4, 1) := by decide +kernel
theorem dX6_guesses_62 : decode cX6_guesses 62 = .ok (.idiv, 1) := by decide +kernel
theorem dX6_guesses_63 : decode cX6_guesses 63 = .ok (.bipush 8, 2) := by decide +kernel
theorem dX6_guesses_65 : decode cX6_guesses 65 = .ok (.irem, 1) := by decide +kernel
theorem dX6_guesses_66 : decode cX6_guesses 66 = .ok (.iadd, 1) := by decide +kernel
theorem dX6_guesses_67 : decode cX6_guesses 67 = .ok (.iload_n 2, 1) := by decide +kernel
theorem dX6_guesses_68 : decode cX6_guesses 68 = .ok (.iconst 2, 1) := by decide +kernel
theorem dX6_guesses_69 : decode cX6_guesses 69 = .ok (.idiv, 1) := by decide +kernel
theorem dX6_guesses_70 : decode cX6_guesses 70 = .ok (.iconst 2, 1) := by decide +kernel
theorem dX6_guesses_71 : decode cX6_guesses 71 = .ok (.irem, 1) := by decide +kernel
theorem dX6_guesses_72 : decode cX6_guesses 72 = .ok (.iload_n 2, 1) := by decide +kernel
theorem dX6_guesses_73 : decode cX6_guesses 73 = .ok (.iconst 2, 1) := by decide +kernel
theorem dX6_guesses_74 : decode cX6_guesses 74 = .ok (.irem, 1) := by decide +kernel
theorem dX6_guesses_75 : decode cX6_guesses 75 = .ok (.invokevirtual 157, 3) := by decide +kernel
theorem dX6_guesses_78 : decode cX6_guesses 78 = .ok (.istore_n 3, 1) := by decide +kernel
theorem dX6_guesses_79 : decode cX6_guesses 79 = .ok (.iload_n 3, 1) := by decide +kernel
theorem dX6_guesses_80 : decode cX6_guesses 80 = .ok (.aload_n 0, 1) := by decide +kernel
theorem dX6_guesses_81 : decode cX6_guesses 81 = .ok (.getfield 55, 3) := by decide +kernel
theorem dX6_guesses_84 : decode cX6_guesses 84 = .ok (.iconst 4, 1) := by decide +kernel
theorem dX6_guesses_85 : decode cX6_guesses 85 = .ok (.iaload, 1) := by decide +kernel
theorem dX6_guesses_86 : decode cX6_guesses 86 = .ok (.if_icmp .le 56, 3) := by decide +kernel
theorem dX6_guesses_89 : decode cX6_guesses 89 = .ok (.aload_n 0, 1) := by decide +kernel
theorem dX6_guesses_90 : decode cX6_guesses 90 = .ok (.getfield 55, 3) := by decide +kernel
theorem dX6_guesses_93 : decode cX6_guesses 93 = .ok (.iconst 0, 1) := by decide +kernel
theorem dX6_guesses_94 : decode cX6_guesses 94 = .ok (.iconst 1, 1) := by decide +kernel
theorem dX6_guesses_95 : decode cX6_guesses 95 = .ok (.iload_n 2, 1) := by decide +kernel
theorem dX6_guesses_96 : decode cX6_guesses 96 = .ok (.bipush 32, 2) := by decide +kernel
theorem dX6_guesses_98 : decode cX6_guesses 98 = .ok (.idiv, 1) := by decide +kernel
theorem dX6_guesses_99 : decode cX6_guesses 99 = .ok (.iadd, 1) := by decide +kernel
theorem dX6_guesses_100 : decode cX6_guesses 100 = .ok (.iastore, 1) := by decide +kernel
theorem dX6_guesses_101 : decode cX6_guesses 101 = .ok (.aload_n 0, 1) := by decide +kernel
theorem dX6_guesses_102 : decode cX6_guesses 102 = .ok (.getfield 55, 3) := by decide +kernel
theorem dX6_guesses_105 : decode cX6_guesses 105 = .ok (.iconst 1, 1) := by decide +kernel
theorem dX6_guesses_106 : decode cX6_guesses 106 = .ok (.iconst 1, 1) := by decide +kernel
theorem dX6_guesses_107 : decode cX6_guesses 107 = .ok (.iload_n 2, 1) := by decide +kernel
theorem dX6_guesses_108 : decode cX6_guesses 108 = .ok (.iconst 4, 1) := by decide +kernel
theorem dX6_guesses_109 : decode cX6_guesses 109 = .ok (.idiv, 1) := by decide +kernel
theorem dX6_guesses_110 : decode cX6_guesses 110 = .ok (.bipush 8, 2) := by decide +kernel
theorem dX6_guesses_112 : decode cX6_guesses 112 = .ok (.irem, 1) := by decide +kernel
theorem dX6_guesses_113 : decode cX6_guesses 113 = .ok (.iadd, 1) := by decide +kernel
theorem dX6_guesses_114 : decode cX6_guesses 114 = .ok (.iastore, 1) := by decide +kernel
theorem dX6_guesses_115 : decode cX6_guesses 115 = .ok (.aload_n 0, 1) := by decide +kernel
theorem dX6_guesses_116 : decode cX6_guesses 116 = .ok (.getfield 55, 3) := by decide +kernel
theorem dX6_guesses_119 : decode cX6_guesses 119 = .ok (.iconst 2, 1) := by decide +kernel
theorem dX6_guesses_120 : decode cX6_guesses 120 = .ok (.iload_n 2, 1) := by decide +kernel
theorem dX6_guesses_121 : decode cX6_guesses 121 = .ok (.iconst 2, 1) := by decide +kernel
theorem dX6_guesses_122 : decode cX6_guesses 122 = .ok (.idiv, 1) := by decide +kernel
theorem dX6_guesses_123 : decode cX6_guesses 123 = .ok (.iconst 2, 1) := by decide +kernel
theorem dX6_guesses_124 : decode cX6_guesses 124 = .ok (.irem, 1) := by decide +kernel
theorem dX6_guesses_125 : decode cX6_guesses 125 = .ok (.iastore, 1) := by decide +kernel
theorem dX6_guesses_126 : decode cX6_guesses 126 = .ok (.aload_n 0, 1) := by decide +kernel
theorem dX6_guesses_127 : decode cX6_guesses 127 = .ok (.getfield 55, 3) := by decide +kernel
theorem dX6_guesses_130 : decode cX6_guesses 130 = .ok (.iconst 3, 1) := by decide +kernel
theorem dX6_guesses_131 : decode cX6_guesses 131 = .ok (.iload_n 2, 1) := by decide +kernel
theorem dX6_guesses_132 : decode cX6_guesses 132 = .ok (.iconst 2, 1) := by decide +kernel
theorem dX6_guesses_133 : decode cX6_guesses 133 = .ok (.irem, 1) := by decide +kernel
theorem dX6_guesses_134 : decode cX6_guesses 134 = .ok (.iastore, 1) := by decide +kernel
theorem dX6_guesses_135 : decode cX6_guesses 135 = .ok (.aload_n 0, 1) := by decide +kernel
theorem dX6_guesses_136 : decode cX6_guesses 136 = .ok (.getfield 55, 3) := by decide +kernel
theorem dX6_guesses_139 : decode cX6_guesses 139 = .ok (.iconst 4, 1) := by decide +kernel
theorem dX6_guesses_140 : decode cX6_guesses 140 = .ok (.iload_n 3, 1) := by decide +kernel
theorem dX6_guesses_141 : decode cX6_guesses 141 = .ok (.iastore, 1) := by decide +kernel
theorem dX6_guesses_142 : decode cX6_guesses 142 = .ok (.iinc 2 1, 3) := by decide +kernel
theorem dX6_guesses_145 : decode cX6_guesses 145 = .ok (.goto (-100), 3) := by decide +kernel
theorem dX6_guesses_148 : decode cX6_guesses 148 = .ok (.iload_n 1, 1) := by decide +kernel
theorem dX6_guesses_149 : decode cX6_guesses 149 = .ok (.ireturn, 1) := by decide +kernel
set_option maxRecDepth 20000 in
theorem ggX6_guess_X6_within : GoodIn wsX6_guess wsX6_within := goodIn_r _ [5] (by decide +kernel) (by decide +kernel)
set_option maxRecDepth 20000 in
theorem gX6_guess_X6_within : GoodIn wsX6_guess (va_wsS RX6 77 yX6_within wsX6_within) := goodIn_app (goodIn_of _ (by decide +kernel)) ggX6_guess_X6_within
set_option maxRecDepth 20000 in
theorem ggX6_guess_X6_guesses : GoodIn wsX6_guess wsX6_guesses := goodIn_r _ [9, 10, 1, 11, 12, 13, 4, 14, 15, 16, 17, 18, 19, 20, 21, 22, 23, 24, 25, 26, 27, 28, 29, 30, 31, 32, 33, 34, 35, 36, 37, 38, 39, 40, 41, 42, 43, 44, 45, 46, 47, 48, 49, 50, 51, 52, 53, 54, 55, 56, 57, 58, 59, 60, 61, 62, 63, 64, 65, 66, 67, 68, 69, 70, 71, 76, 77, 78, 79, 80, 81, 82, 83, 84, 85, 86, 87, 88, 89, 90, 91, 92, 93, 94, 95, 96, 97, 98, 99, 100] (by decide +kernel) (by decide +kernel)
set_option maxRecDepth 20000 in
theorem gX6_guess_X6_guesses : GoodIn wsX6_guess (wsV RX6 164 RX6 yX6_guesses wsX6_guesses) := goodIn_app (goodIn_of _ (by decide +kernel)) ggX6_guess_X6_guesses
set_option maxRecDepth 20000 in
theorem ggX6_guess_X6_bitsOf : GoodIn wsX6_guess wsX6_bitsOf := goodIn_r _ [74, 75] (by decide +kernel) (by decide +kernel)
set_option maxRecDepth 20000 in
theorem gX6_guess_X6_bitsOf : GoodIn wsX6_guess (va_wsS RX6 161 yX6_bitsOf wsX6_bitsOf) := goodIn_app (goodIn_of _ (by decide +kernel)) ggX6_guess_X6_bitsOf
theorem dX6_guess_0 : decode cX6_guess 0 = .ok (.iload_n 1, 1) := by decide +kernel
theorem dX6_guess_1 : decode cX6_guess 1 = .ok (.iconst 0, 1) := by decide +kernel
theorem dX6_guess_2 : decode cX6_guess 2 = .ok (.iconst 4, 1) := by decide +kernel
theorem dX6_guess_3 : decode cX6_guess 3 = .ok (.invokestatic 77, 3) := by decide +kernel
theorem dX6_guess_6 : decode cX6_guess 6 = .ok (.ifCond .ne 6, 3) := by decide +kernel
theorem dX6_guess_9 : decode cX6_guess 9 = .ok (.bipush (-2), 2) := by decide +kernel
theorem dX6_guess_11 : decode cX6_guess 11 = .ok (.ireturn, 1) := by decide +kernel
theorem dX6_guess_12 : decode cX6_guess 12 = .ok (.aload_n 0, 1) := by decide +kernel
theorem dX6_guess_13 : decode cX6_guess 13 = .ok (.invokevirtual 164, 3) := by decide +kernel
theorem dX6_guess_16 : decode cX6_guess 16 = .ok (.ifCond .ne 6, 3) := by decide +kernel
theorem dX6_guess_19 : decode cX6_guess 19 = .ok (.bipush (-3), 2) := by decide +kernel
theorem dX6_guess_21 : decode cX6_guess 21 = .ok (.ireturn, 1) := by decide +kernel
theorem dX6_guess_22 : decode cX6_guess 22 = .ok (.iload_n 1, 1) := by decide +kernel
theorem dX6_guess_23 : decode cX6_guess 23 = .ok (.iconst 4, 1) := by decide +kernel
theorem dX6_guess_24 : decode cX6_guess 24 = .ok (.if_icmp .ge 12, 3) := by decide +kernel
theorem dX6_guess_27 : decode cX6_guess 27 = .ok (.aload_n 0, 1) := by decide +kernel
theorem dX6_guess_28 : decode cX6_guess 28 = .ok (.getfield 55, 3) := by decide +kernel
theorem dX6_guess_31 : decode cX6_guess 31 = .ok (.iload_n 1, 1) := by decide +kernel
theorem dX6_guess_32 : decode cX6_guess 32 = .ok (.iaload, 1) := by decide +kernel
theorem dX6_guess_33 : decode cX6_guess 33 = .ok (.goto 12, 3) := by decide +kernel
theorem dX6_guess_36 : decode cX6_guess 36 = .ok (.aload_n 0, 1) := by decide +kernel
theorem dX6_guess_37 : decode cX6_guess 37 = .ok (.getfield 55, 3) := by decide +kernel
theorem dX6_guess_40 : decode cX6_guess 40 = .ok (.iconst 4, 1) := by decide +kernel
theorem dX6_guess_41 : decode cX6_guess 41 = .ok (.iaload, 1) := by decide +kernel
theorem dX6_guess_42 : decode cX6_guess 42 = .ok (.invokestatic 161, 3) := by decide +kernel
theorem dX6_guess_45 : decode cX6_guess 45 = .ok (.ireturn, 1) := by decide +kernel
set_option maxRecDepth 20000 in
theorem ggX6_follow_X6_guesses : GoodIn wsX6_follow wsX6_guesses := goodIn_r _ [7, 8, 2, 9, 10, 11, 6, 12, 13, 14, 15, 16, 17, 18, 19, 20, 21, 22, 23, 24, 25, 26, 27, 28, 29, 30, 31, 32, 33, 34, 35, 36, 37, 38, 39, 40, 41, 42, 43, 44, 45, 46, 47, 48, 49, 50, 51, 52, 53, 54, 55, 56, 57, 58, 59, 60, 61, 62, 63, 64, 65, 66, 67, 68, 69, 83, 84, 85, 86, 87, 88, 89, 90, 91, 92, 93, 94, 95, 96, 97, 98, 99, 100, 101, 102, 103, 104, 105, 106, 107] (by decide +kernel) (by decide +kernel)
set_option maxRecDepth 20000 in
theorem gX6_follow_X6_guesses : GoodIn wsX6_follow (wsV RX6 164 RX6 yX6_guesses wsX6_guesses) := goodIn_app (goodIn_of _ (by decide +kernel)) ggX6_follow_X6_guesses
set_option maxRecDepth 20000 in
theorem ggX6_follow_X6_notes : GoodIn wsX6_follow wsX6_notes := goodIn_r _ [73, 8, 74, 20, 75, 76, 77, 6, 78, 1, 21, 22, 23, 24, 25, 26, 27, 28, 29, 30, 31, 32, 14, 19, 33, 34, 35, 36, 37, 38, 39, 40, 41, 42, 43, 44, 45, 46, 47, 48, 49, 50, 51, 52, 53, 54, 55, 56, 57, 58, 59, 60, 61, 62, 63, 64, 65, 66, 67, 68, 69, 83, 84, 85, 86, 87, 88, 89, 90, 91, 92, 93, 94, 95, 96, 97, 98, 99, 100, 101, 102, 103, 104, 105, 106, 107] (by decide +kernel) (by decide +kernel)
set_option maxRecDepth 20000 in
theorem gX6_follow_X6_notes : GoodIn wsX6_follow (wsV RX6 133 RX6 yX6_notes wsX6_notes) := goodIn_app (goodIn_of _ (by decide +kernel)) ggX6_follow_X6_notes
set_option maxRecDepth 20000 in
theorem ggX6_follow_X6_moved : GoodIn wsX6_follow wsX6_moved := goodIn_r _ [82, 8, 20, 74, 75, 76, 77, 6, 78, 1, 21, 22, 23, 24, 25, 26, 27, 28, 29, 30, 31, 32, 14, 19, 33, 34, 35, 36, 37, 38, 39, 40, 41, 42, 43, 44, 45, 46, 47, 48, 49, 50, 51, 52, 53, 54, 55, 56, 57, 58, 59, 60, 61, 62, 63, 64, 65, 66, 67, 68, 69, 83, 84, 85, 86, 87, 88, 89, 90, 91, 92, 93, 94, 95, 96, 97, 98, 99, 100, 101, 102, 103, 104, 105, 106, 107] (by decide +kernel) (by decide +kernel)
set_option maxRecDepth 20000 in
theorem gX6_follow_X6_moved : GoodIn wsX6_follow (wsV RX6 136 RX6 yX6_moved wsX6_moved) := goodIn_app (goodIn_of _ (by decide +kernel)) ggX6_follow_X6_moved
theorem dX6_follow_0 : decode cX6_follow 0 = .ok (.aload_n 0, 1) := by decide +kernel
theorem dX6_follow_1 : decode cX6_follow 1 = .ok (.invokevirtual 164, 3) := by decide +kernel
theorem dX6_follow_4 : decode cX6_follow 4 = .ok (.ifCond .ne 6, 3) := by decide +kernel
theorem dX6_follow_7 : decode cX6_follow 7 = .ok (.bipush (-3), 2) := by decide +kernel
theorem dX6_follow_9 : decode cX6_follow 9 = .ok (.ireturn, 1) := by decide +kernel
theorem dX6_follow_10 : decode cX6_follow 10 = .ok (.aload_n 0, 1) := by decide +kernel
theorem dX6_follow_11 : decode cX6_follow 11 = .ok (.invokevirtual 133, 3) := by decide +kernel
theorem dX6_follow_14 : decode cX6_follow 14 = .ok (.iconst 0, 1) := by decide +kernel
theorem dX6_follow_15 : decode cX6_follow 15 = .ok (.istore_n 1, 1) := by decide +kernel
theorem dX6_follow_16 : decode cX6_follow 16 = .ok (.iload_n 1, 1) := by decide +kernel
theorem dX6_follow_17 : decode cX6_follow 17 = .ok (.iconst 4, 1) := by decide +kernel
theorem dX6_follow_18 : decode cX6_follow 18 = .ok (.if_icmp .ge 21, 3) := by decide +kernel
theorem dX6_follow_21 : decode cX6_follow 21 = .ok (.aload_n 0, 1) := by decide +kernel
theorem dX6_follow_22 : decode cX6_follow 22 = .ok (.getfield 16, 3) := by decide +kernel
theorem dX6_follow_25 : decode cX6_follow 25 = .ok (.iload_n 1, 1) := by decide +kernel
theorem dX6_follow_26 : decode cX6_follow 26 = .ok (.aload_n 0, 1) := by decide +kernel
theorem dX6_follow_27 : decode cX6_follow 27 = .ok (.getfield 55, 3) := by decide +kernel
theorem dX6_follow_30 : decode cX6_follow 30 = .ok (.iload_n 1, 1) := by decide +kernel
theorem dX6_follow_31 : decode cX6_follow 31 = .ok (.iaload, 1) := by decide +kernel
theorem dX6_follow_32 : decode cX6_follow 32 = .ok (.iastore, 1) := by decide +kernel
theorem dX6_follow_33 : decode cX6_follow 33 = .ok (.iinc 1 1, 3) := by decide +kernel
theorem dX6_follow_36 : decode cX6_follow 36 = .ok (.goto (-20), 3) := by decide +kernel
theorem dX6_follow_39 : decode cX6_follow 39 = .ok (.aload_n 0, 1) := by decide +kernel
theorem dX6_follow_40 : decode cX6_follow 40 = .ok (.bipush (-9), 2) := by decide +kernel
theorem dX6_follow_42 : decode cX6_follow 42 = .ok (.invokevirtual 136, 3) := by decide +kernel
theorem dX6_follow_45 : decode cX6_follow 45 = .ok (.ireturn, 1) := by decide +kernel
set_option maxRecDepth 20000 in
theorem ggX6_isPocket_X6_within : GoodIn wsX6_isPocket wsX6_within := goodIn_r _ [4] (by decide +kernel) (by decide +kernel)
set_option maxRecDepth 20000 in
theorem gX6_isPocket_X6_within : GoodIn wsX6_isPocket (va_wsS RX6 77 yX6_within wsX6_within) := goodIn_app (goodIn_of _ (by decide +kernel)) ggX6_isPocket_X6_within
theorem dX6_isPocket_0 : decode cX6_isPocket 0 = .ok (.iload_n 0, 1) := by decide +kernel
theorem dX6_isPocket_1 : decode cX6_isPocket 1 = .ok (.iconst 0, 1) := by decide +kernel
theorem dX6_isPocket_2 : decode cX6_isPocket 2 = .ok (.iconst 2, 1) := by decide +kernel
theorem dX6_isPocket_3 : decode cX6_isPocket 3 = .ok (.invokestatic 77, 3) := by decide +kernel
theorem dX6_isPocket_6 : decode cX6_isPocket 6 = .ok (.ireturn, 1) := by decide +kernel
set_option maxRecDepth 20000 in
theorem ggX6_pocket_X6_isPocket : GoodIn wsX6_pocket wsX6_isPocket := goodIn_r _ [7, 8, 9, 6, 10] (by decide +kernel) (by decide +kernel)
set_option maxRecDepth 20000 in
theorem gX6_pocket_X6_isPocket : GoodIn wsX6_pocket (va_wsS RX6 168 yX6_isPocket wsX6_isPocket) := goodIn_app (goodIn_of _ (by decide +kernel)) ggX6_pocket_X6_isPocket
set_option maxRecDepth 20000 in
theorem ggX6_pocket_X6_within : GoodIn wsX6_pocket wsX6_within := goodIn_r _ [10] (by decide +kernel) (by decide +kernel)
set_option maxRecDepth 20000 in
theorem gX6_pocket_X6_within : GoodIn wsX6_pocket (va_wsS RX6 77 yX6_within wsX6_within) := goodIn_app (goodIn_of _ (by decide +kernel)) ggX6_pocket_X6_within
theorem dX6_pocket_0 : decode cX6_pocket 0 = .ok (.iload_n 1, 1) := by decide +kernel
theorem dX6_pocket_1 : decode cX6_pocket 1 = .ok (.invokestatic 168, 3) := by decide +kernel
theorem dX6_pocket_4 : decode cX6_pocket 4 = .ok (.ifCond .ne 5, 3) := by decide +kernel
theorem dX6_pocket_7 : decode cX6_pocket 7 = .ok (.iconst (-1), 1) := by decide +kernel
theorem dX6_pocket_8 : decode cX6_pocket 8 = .ok (.ireturn, 1) := by decide +kernel
theorem dX6_pocket_9 : decode cX6_pocket 9 = .ok (.iload_n 2, 1) := by decide +kernel
theorem dX6_pocket_10 : decode cX6_pocket 10 = .ok (.iconst 0, 1) := by decide +kernel
theorem dX6_pocket_11 : decode cX6_pocket 11 = .ok (.iconst 3, 1) := by decide +kernel
theorem dX6_pocket_12 : decode cX6_pocket 12 = .ok (.invokestatic 77, 3) := by decide +kernel
theorem dX6_pocket_15 : decode cX6_pocket 15 = .ok (.ifCond .eq 13, 3) := by decide +kernel
theorem dX6_pocket_18 : decode cX6_pocket 18 = .ok (.iload_n 3, 1) := by decide +kernel
theorem dX6_pocket_19 : decode cX6_pocket 19 = .ok (.iconst 1, 1) := by decide +kernel
theorem dX6_pocket_20 : decode cX6_pocket 20 = .ok (.bipush 6, 2) := by decide +kernel
theorem dX6_pocket_22 : decode cX6_pocket 22 = .ok (.invokestatic 77, 3) := by decide +kernel
theorem dX6_pocket_25 : decode cX6_pocket 25 = .ok (.ifCond .ne 6, 3) := by decide +kernel
theorem dX6_pocket_28 : decode cX6_pocket 28 = .ok (.bipush (-2), 2) := by decide +kernel
theorem dX6_pocket_30 : decode cX6_pocket 30 = .ok (.ireturn, 1) := by decide +kernel
theorem dX6_pocket_31 : decode cX6_pocket 31 = .ok (.aload_n 0, 1) := by decide +kernel
theorem dX6_pocket_32 : decode cX6_pocket 32 = .ok (.getfield 58, 3) := by decide +kernel
theorem dX6_pocket_35 : decode cX6_pocket 35 = .ok (.iload_n 1, 1) := by decide +kernel
theorem dX6_pocket_36 : decode cX6_pocket 36 = .ok (.iload_n 3, 1) := by decide +kernel
theorem dX6_pocket_37 : decode cX6_pocket 37 = .ok (.iastore, 1) := by decide +kernel
theorem dX6_pocket_38 : decode cX6_pocket 38 = .ok (.aload_n 0, 1) := by decide +kernel
theorem dX6_pocket_39 : decode cX6_pocket 39 = .ok (.getfield 61, 3) := by decide +kernel
theorem dX6_pocket_42 : decode cX6_pocket 42 = .ok (.iload_n 1, 1) := by decide +kernel
theorem dX6_pocket_43 : decode cX6_pocket 43 = .ok (.iload_n 2, 1) := by decide +kernel
theorem dX6_pocket_44 : decode cX6_pocket 44 = .ok (.iastore, 1) := by decide +kernel
theorem dX6_pocket_45 : decode cX6_pocket 45 = .ok (.iconst 0, 1) := by decide +kernel
theorem dX6_pocket_46 : decode cX6_pocket 46 = .ok (.istore 4, 2) := by decide +kernel
theorem dX6_pocket_48 : decode cX6_pocket 48 = .ok (.iload 4, 2) := by decide +kernel
theorem dX6_pocket_50 : decode cX6_pocket 50 = .ok (.bipush 6, 2) := by decide +kernel
theorem dX6_pocket_52 : decode cX6_pocket 52 = .ok (.if_icmp .ge 23, 3) := by decide +kernel
theorem dX6_pocket_55 : decode cX6_pocket 55 = .ok (.aload_n 0, 1) := by decide +kernel
theorem dX6_pocket_56 : decode cX6_pocket 56 = .ok (.getfield 64, 3) := by decide +kernel
theorem dX6_pocket_59 : decode cX6_pocket 59 = .ok (.bipush 6, 2) := by decide +kernel
theorem dX6_pocket_61 : decode cX6_pocket 61 = .ok (.iload_n 1, 1) := by decide +kernel
theorem dX6_pocket_62 : decode cX6_pocket 62 = .ok (.imul, 1) := by decide +kernel
theorem dX6_pocket_63 : decode cX6_pocket 63 = .ok (.iload 4, 2) := by decide +kernel
theorem dX6_pocket_65 : decode cX6_pocket 65 = .ok (.iadd, 1) := by decide +kernel
theorem dX6_pocket_66 : decode cX6_pocket 66 = .ok (.bipush (-9), 2) := by decide +kernel
theorem dX6_pocket_68 : decode cX6_pocket 68 = .ok (.iastore, 1) := by decide +kernel
theorem dX6_pocket_69 : decode cX6_pocket 69 = .ok (.iinc 4 1, 3) := by decide +kernel
theorem dX6_pocket_72 : decode cX6_pocket 72 = .ok (.goto (-24), 3) := by decide +kernel
theorem dX6_pocket_75 : decode cX6_pocket 75 = .ok (.iconst 1, 1) := by decide +kernel
theorem dX6_pocket_76 : decode cX6_pocket 76 = .ok (.ireturn, 1) := by decide +kernel
theorem dX6_isOf_0 : decode cX6_isOf 0 = .ok (.iload_n 1, 1) := by decide +kernel
theorem dX6_isOf_1 : decode cX6_isOf 1 = .ok (.ifCond .eq 18, 3) := by decide +kernel
theorem dX6_isOf_4 : decode cX6_isOf 4 = .ok (.iload_n 0, 1) := by decide +kernel
theorem dX6_isOf_5 : decode cX6_isOf 5 = .ok (.iload_n 1, 1) := by decide +kernel
theorem dX6_isOf_6 : decode cX6_isOf 6 = .ok (.if_icmp .eq 13, 3) := by decide +kernel
theorem dX6_isOf_9 : decode cX6_isOf 9 = .ok (.iload_n 1, 1) := by decide +kernel
theorem dX6_isOf_10 : decode cX6_isOf 10 = .ok (.iconst 2, 1) := by decide +kernel
theorem dX6_isOf_11 : decode cX6_isOf 11 = .ok (.if_icmp .ne 12, 3) := by decide +kernel
theorem dX6_isOf_14 : decode cX6_isOf 14 = .ok (.iload_n 0, 1) := by decide +kernel
theorem dX6_isOf_15 : decode cX6_isOf 15 = .ok (.iconst 3, 1) := by decide +kernel
theorem dX6_isOf_16 : decode cX6_isOf 16 = .ok (.if_icmp .ne 7, 3) := by decide +kernel
theorem dX6_isOf_19 : decode cX6_isOf 19 = .ok (.iconst 1, 1) := by decide +kernel
theorem dX6_isOf_20 : decode cX6_isOf 20 = .ok (.goto 4, 3) := by decide +kernel
theorem dX6_isOf_23 : decode cX6_isOf 23 = .ok (.iconst 0, 1) := by decide +kernel
theorem dX6_isOf_24 : decode cX6_isOf 24 = .ok (.ireturn, 1) := by decide +kernel
set_option maxRecDepth 20000 in
theorem ggX6_store_X6_goes : GoodIn wsX6_store wsX6_goes := goodIn_r _ [14, 15, 16, 17, 18, 13, 19, 20, 1, 21, 22, 23, 24, 25, 26, 27, 28, 29, 30, 31, 32, 33, 34, 35, 36, 37, 38, 39, 40, 41, 3, 42, 8, 43, 44, 45, 46, 47, 48, 49, 50, 51, 52, 53, 54, 55, 6, 56, 57, 58, 59, 60, 61, 62, 63, 64, 74, 75, 76, 77, 78, 79, 80, 81, 82, 83, 84, 85, 86, 87, 88, 89, 90, 91, 92, 93, 94, 95, 96, 97, 98] (by decide +kernel) (by decide +kernel)
set_option maxRecDepth 20000 in
theorem gX6_store_X6_goes : GoodIn wsX6_store (wsV RX6 126 RX6 yX6_goes wsX6_goes) := goodIn_app (goodIn_of _ (by decide +kernel)) ggX6_store_X6_goes
set_option maxRecDepth 20000 in
theorem ggX6_store_X6_isPocket : GoodIn wsX6_store wsX6_isPocket := goodIn_r _ [67, 68, 69, 13, 70] (by decide +kernel) (by decide +kernel)
set_option maxRecDepth 20000 in
theorem gX6_store_X6_isPocket : GoodIn wsX6_store (va_wsS RX6 168 yX6_isPocket wsX6_isPocket) := goodIn_app (goodIn_of _ (by decide +kernel)) ggX6_store_X6_isPocket
set_option maxRecDepth 20000 in
theorem ggX6_store_X6_within : GoodIn wsX6_store wsX6_within := goodIn_r _ [70] (by decide +kernel) (by decide +kernel)
set_option maxRecDepth 20000 in
theorem gX6_store_X6_within : GoodIn wsX6_store (va_wsS RX6 77 yX6_within wsX6_within) := goodIn_app (goodIn_of _ (by decide +kernel)) ggX6_store_X6_within
set_option maxRecDepth 20000 in
theorem ggX6_store_X6_isOf : GoodIn wsX6_store wsX6_isOf := goodIn_r _ [73] (by decide +kernel) (by decide +kernel)
set_option maxRecDepth 20000 in
theorem gX6_store_X6_isOf : GoodIn wsX6_store (va_wsS RX6 171 yX6_isOf wsX6_isOf) := goodIn_app (goodIn_of _ (by decide +kernel)) ggX6_store_X6_isOf
theorem dX6_store_0 : decode cX6_store 0 = .ok (.aload_n 0, 1) := by decide +kernel
theorem dX6_store_1 : decode cX6_store 1 = .ok (.invokevirtual 126, 3) := by decide +kernel
theorem dX6_store_4 : decode cX6_store 4 = .ok (.iload_n 1, 1) := by decide +kernel
theorem dX6_store_5 : decode cX6_store 5 = .ok (.invokestatic 168, 3) := by decide +kernel
theorem dX6_store_8 : decode cX6_store 8 = .ok (.ifCond .eq 17, 3) := by decide +kernel
theorem dX6_store_11 : decode cX6_store 11 = .ok (.iload_n 3, 1) := by decide +kernel
theorem dX6_store_12 : decode cX6_store 12 = .ok (.iconst 0, 1) := by decide +kernel
theorem dX6_store_13 : decode cX6_store 13 = .ok (.aload_n 0, 1) := by decide +kernel
theorem dX6_store_14 : decode cX6_store 14 = .ok (.getfield 95, 3) := by decide +kernel
theorem dX6_store_17 : decode cX6_store 17 = .ok (.iconst 1, 1) := by decide +kernel
theorem dX6_store_18 : decode cX6_store 18 = .ok (.isub, 1) := by decide +kernel
theorem dX6_store_19 : decode cX6_store 19 = .ok (.invokestatic 77, 3) := by decide +kernel
theorem dX6_store_22 : decode cX6_store 22 = .ok (.ifCond .ne 5, 3) := by decide +kernel
theorem dX6_store_25 : decode cX6_store 25 = .ok (.iconst (-1), 1) := by decide +kernel
theorem dX6_store_26 : decode cX6_store 26 = .ok (.ireturn, 1) := by decide +kernel
theorem dX6_store_27 : decode cX6_store 27 = .ok (.aload_n 0, 1) := by decide +kernel
theorem dX6_store_28 : decode cX6_store 28 = .ok (.getfield 58, 3) := by decide +kernel
theorem dX6_store_31 : decode cX6_store 31 = .ok (.iload_n 1, 1) := by decide +kernel
theorem dX6_store_32 : decode cX6_store 32 = .ok (.iaload, 1) := by decide +kernel
theorem dX6_store_33 : decode cX6_store 33 = .ok (.ifCond .ne 6, 3) := by decide +kernel
theorem dX6_store_36 : decode cX6_store 36 = .ok (.bipush (-3), 2) := by decide +kernel
theorem dX6_store_38 : decode cX6_store 38 = .ok (.ireturn, 1) := by decide +kernel
theorem dX6_store_39 : decode cX6_store 39 = .ok (.iload_n 2, 1) := by decide +kernel
theorem dX6_store_40 : decode cX6_store 40 = .ok (.iconst 0, 1) := by decide +kernel
theorem dX6_store_41 : decode cX6_store 41 = .ok (.aload_n 0, 1) := by decide +kernel
theorem dX6_store_42 : decode cX6_store 42 = .ok (.getfield 58, 3) := by decide +kernel
theorem dX6_store_45 : decode cX6_store 45 = .ok (.iload_n 1, 1) := by decide +kernel
theorem dX6_store_46 : decode cX6_store 46 = .ok (.iaload, 1) := by decide +kernel
theorem dX6_store_47 : decode cX6_store 47 = .ok (.iconst 1, 1) := by decide +kernel
theorem dX6_store_48 : decode cX6_store 48 = .ok (.isub, 1) := by decide +kernel
theorem dX6_store_49 : decode cX6_store 49 = .ok (.invokestatic 77, 3) := by decide +kernel
theorem dX6_store_52 : decode cX6_store 52 = .ok (.ifCond .ne 6, 3) := by decide +kernel
theorem dX6_store_55 : decode cX6_store 55 = .ok (.bipush (-13), 2) := by decide +kernel
theorem dX6_store_57 : decode cX6_store 57 = .ok (.ireturn, 1) := by decide +kernel
theorem dX6_store_58 : decode cX6_store 58 = .ok (.aload_n 0, 1) := by decide +kernel
theorem dX6_store_59 : decode cX6_store 59 = .ok (.getfield 31, 3) := by decide +kernel
theorem dX6_store_62 : decode cX6_store 62 = .ok (.iload_n 3, 1) := by decide +kernel
theorem dX6_store_63 : decode cX6_store 63 = .ok (.iaload, 1) := by decide +kernel
theorem dX6_store_64 : decode cX6_store 64 = .ok (.aload_n 0, 1) := by decide +kernel
theorem dX6_store_65 : decode cX6_store 65 = .ok (.getfield 61, 3) := by decide +kernel
theorem dX6_store_68 : decode cX6_store 68 = .ok (.iload_n 1, 1) := by decide +kernel
theorem dX6_store_69 : decode cX6_store 69 = .ok (.iaload, 1) := by decide +kernel
theorem dX6_store_70 : decode cX6_store 70 = .ok (.invokestatic 171, 3) := by decide +kernel
theorem dX6_store_73 : decode cX6_store 73 = .ok (.ifCond .ne 6, 3) := by decide +kernel
theorem dX6_store_76 : decode cX6_store 76 = .ok (.bipush (-11), 2) := by decide +kernel
theorem dX6_store_78 : decode cX6_store 78 = .ok (.ireturn, 1) := by decide +kernel
theorem dX6_store_79 : decode cX6_store 79 = .ok (.aload_n 0, 1) := by decide +kernel
theorem dX6_store_80 : decode cX6_store 80 = .ok (.getfield 64, 3) := by decide +kernel
theorem dX6_store_83 : decode cX6_store 83 = .ok (.bipush 6, 2) := by decide +kernel
theorem dX6_store_85 : decode cX6_store 85 = .ok (.iload_n 1, 1) := by decide +kernel
theorem dX6_store_86 : decode cX6_store 86 = .ok (.imul, 1) := by decide +kernel
theorem dX6_store_87 : decode cX6_store 87 = .ok (.iload_n 2, 1) := by decide +kernel
theorem dX6_store_88 : decode cX6_store 88 = .ok (.iadd, 1) := by decide +kernel
theorem dX6_store_89 : decode cX6_store 89 = .ok (.aload_n 0, 1) := by decide +kernel
theorem dX6_store_90 : decode cX6_store 90 = .ok (.getfield 19, 3) := by decide +kernel
theorem dX6_store_93 : decode cX6_store 93 = .ok (.iload_n 3, 1) := by decide +kernel
theorem dX6_store_94 : decode cX6_store 94 = .ok (.iaload, 1) := by decide +kernel
theorem dX6_store_95 : decode cX6_store 95 = .ok (.iastore, 1) := by decide +kernel
theorem dX6_store_96 : decode cX6_store 96 = .ok (.aload_n 0, 1) := by decide +kernel
theorem dX6_store_97 : decode cX6_store 97 = .ok (.getfield 67, 3) := by decide +kernel
theorem dX6_store_100 : decode cX6_store 100 = .ok (.bipush 6, 2) := by decide +kernel
theorem dX6_store_102 : decode cX6_store 102 = .ok (.iload_n 1, 1) := by decide +kernel
theorem dX6_store_103 : decode cX6_store 103 = .ok (.imul, 1) := by decide +kernel
theorem dX6_store_104 : decode cX6_store 104 = .ok (.iload_n 2, 1) := by decide +kernel
theorem dX6_store_105 : decode cX6_store 105 = .ok (.iadd, 1) := by decide +kernel
theorem dX6_store_106 : decode cX6_store 106 = .ok (.aload_n 0, 1) := by decide +kernel
theorem dX6_store_107 : decode cX6_store 107 = .ok (.getfield 25, 3) := by decide +kernel
theorem dX6_store_110 : decode cX6_store 110 = .ok (.iload_n 3, 1) := by decide +kernel
theorem dX6_store_111 : decode cX6_store 111 = .ok (.iaload, 1) := by decide +kernel
theorem dX6_store_112 : decode cX6_store 112 = .ok (.iastore, 1) := by decide +kernel
theorem dX6_store_113 : decode cX6_store 113 = .ok (.aload_n 0, 1) := by decide +kernel
theorem dX6_store_114 : decode cX6_store 114 = .ok (.getfield 70, 3) := by decide +kernel
theorem dX6_store_117 : decode cX6_store 117 = .ok (.bipush 6, 2) := by decide +kernel
theorem dX6_store_119 : decode cX6_store 119 = .ok (.iload_n 1, 1) := by decide +kernel
theorem dX6_store_120 : decode cX6_store 120 = .ok (.imul, 1) := by decide +kernel
theorem dX6_store_121 : decode cX6_store 121 = .ok (.iload_n 2, 1) := by decide +kernel
theorem dX6_store_122 : decode cX6_store 122 = .ok (.iadd, 1) := by decide +kernel
theorem dX6_store_123 : decode cX6_store 123 = .ok (.aload_n 0, 1) := by decide +kernel
theorem dX6_store_124 : decode cX6_store 124 = .ok (.getfield 31, 3) := by decide +kernel
theorem dX6_store_127 : decode cX6_store 127 = .ok (.iload_n 3, 1) := by decide +kernel
theorem dX6_store_128 : decode cX6_store 128 = .ok (.iaload, 1) := by decide +kernel
theorem dX6_store_129 : decode cX6_store 129 = .ok (.iastore, 1) := by decide +kernel
theorem dX6_store_130 : decode cX6_store 130 = .ok (.iconst 1, 1) := by decide +kernel
theorem dX6_store_131 : decode cX6_store 131 = .ok (.ireturn, 1) := by decide +kernel
set_option maxRecDepth 20000 in
theorem ggX6_copy_X6_isPocket : GoodIn wsX6_copy wsX6_isPocket := goodIn_r _ [9, 10, 11, 8, 12] (by decide +kernel) (by decide +kernel)
set_option maxRecDepth 20000 in
theorem gX6_copy_X6_isPocket : GoodIn wsX6_copy (va_wsS RX6 168 yX6_isPocket wsX6_isPocket) := goodIn_app (goodIn_of _ (by decide +kernel)) ggX6_copy_X6_isPocket
theorem dX6_copy_0 : decode cX6_copy 0 = .ok (.iload_n 1, 1) := by decide +kernel
theorem dX6_copy_1 : decode cX6_copy 1 = .ok (.invokestatic 168, 3) := by decide +kernel
theorem dX6_copy_4 : decode cX6_copy 4 = .ok (.ifCond .eq 10, 3) := by decide +kernel
theorem dX6_copy_7 : decode cX6_copy 7 = .ok (.iload_n 2, 1) := by decide +kernel
theorem dX6_copy_8 : decode cX6_copy 8 = .ok (.invokestatic 168, 3) := by decide +kernel
theorem dX6_copy_11 : decode cX6_copy 11 = .ok (.ifCond .ne 5, 3) := by decide +kernel
theorem dX6_copy_14 : decode cX6_copy 14 = .ok (.iconst (-1), 1) := by decide +kernel
theorem dX6_copy_15 : decode cX6_copy 15 = .ok (.ireturn, 1) := by decide +kernel
theorem dX6_copy_16 : decode cX6_copy 16 = .ok (.aload_n 0, 1) := by decide +kernel
theorem dX6_copy_17 : decode cX6_copy 17 = .ok (.getfield 58, 3) := by decide +kernel
theorem dX6_copy_20 : decode cX6_copy 20 = .ok (.iload_n 1, 1) := by decide +kernel
theorem dX6_copy_21 : decode cX6_copy 21 = .ok (.iaload, 1) := by decide +kernel
theorem dX6_copy_22 : decode cX6_copy 22 = .ok (.ifCond .ne 6, 3) := by decide +kernel
theorem dX6_copy_25 : decode cX6_copy 25 = .ok (.bipush (-3), 2) := by decide +kernel
theorem dX6_copy_27 : decode cX6_copy 27 = .ok (.ireturn, 1) := by decide +kernel
theorem dX6_copy_28 : decode cX6_copy 28 = .ok (.aload_n 0, 1) := by decide +kernel
theorem dX6_copy_29 : decode cX6_copy 29 = .ok (.getfield 58, 3) := by decide +kernel
theorem dX6_copy_32 : decode cX6_copy 32 = .ok (.iload_n 2, 1) := by decide +kernel
theorem dX6_copy_33 : decode cX6_copy 33 = .ok (.aload_n 0, 1) := by decide +kernel
theorem dX6_copy_34 : decode cX6_copy 34 = .ok (.getfield 58, 3) := by decide +kernel
theorem dX6_copy_37 : decode cX6_copy 37 = .ok (.iload_n 1, 1) := by decide +kernel
theorem dX6_copy_38 : decode cX6_copy 38 = .ok (.iaload, 1) := by decide +kernel
theorem dX6_copy_39 : decode cX6_copy 39 = .ok (.iastore, 1) := by decide +kernel
theorem dX6_copy_40 : decode cX6_copy 40 = .ok (.aload_n 0, 1) := by decide +kernel
theorem dX6_copy_41 : decode cX6_copy 41 = .ok (.getfield 61, 3) := by decide +kernel
theorem dX6_copy_44 : decode cX6_copy 44 = .ok (.iload_n 2, 1) := by decide +kernel
theorem dX6_copy_45 : decode cX6_copy 45 = .ok (.aload_n 0, 1) := by decide +kernel
theorem dX6_copy_46 : decode cX6_copy 46 = .ok (.getfield 61, 3) := by decide +kernel
theorem dX6_copy_49 : decode cX6_copy 49 = .ok (.iload_n 1, 1) := by decide +kernel
theorem dX6_copy_50 : decode cX6_copy 50 = .ok (.iaload, 1) := by decide +kernel
theorem dX6_copy_51 : decode cX6_copy 51 = .ok (.iastore, 1) := by decide +kernel
theorem dX6_copy_52 : decode cX6_copy 52 = .ok (.iconst 0, 1) := by decide +kernel
theorem dX6_copy_53 : decode cX6_copy 53 = .ok (.istore_n 3, 1) := by decide +kernel
theorem dX6_copy_54 : decode cX6_copy 54 = .ok (.iload_n 3, 1) := by decide +kernel
theorem dX6_copy_55 : decode cX6_copy 55 = .ok (.bipush 6, 2) := by decide +kernel
theorem dX6_copy_57 : decode cX6_copy 57 = .ok (.if_icmp .ge 75, 3) := by decide +kernel
theorem dX6_copy_60 : decode cX6_copy 60 = .ok (.aload_n 0, 1) := by decide +kernel
theorem dX6_copy_61 : decode cX6_copy 61 = .ok (.getfield 64, 3) := by decide +kernel
theorem dX6_copy_64 : decode cX6_copy 64 = .ok (.bipush 6, 2) := by decide +kernel
theorem dX6_copy_66 : decode cX6_copy 66 = .ok (.iload_n 2, 1) := by decide +kernel
theorem dX6_copy_67 : decode cX6_copy 67 = .ok (.imul, 1) := by decide +kernel
theorem dX6_copy_68 : decode cX6_copy 68 = .ok (.iload_n 3, 1) := by decide +kernel
theorem dX6_copy_69 : decode cX6_copy 69 = .ok (.iadd, 1) := by decide +kernel
theorem dX6_copy_70 : decode cX6_copy 70 = .ok (.aload_n 0, 1) := by decide +kernel
theorem dX6_copy_71 : decode cX6_copy 71 = .ok (.getfield 64, 3) := by decide +kernel
theorem dX6_copy_74 : decode cX6_copy 74 = .ok (.bipush 6, 2) := by decide +kernel
theorem dX6_copy_76 : decode cX6_copy 76 = .ok (.iload_n 1, 1) := by decide +kernel
theorem dX6_copy_77 : decode cX6_copy 77 = .ok (.imul, 1) := by decide +kernel
theorem dX6_copy_78 : decode cX6_copy 78 = .ok (.iload_n 3, 1) := by decide +kernel
theorem dX6_copy_79 : decode cX6_copy 79 = .ok (.iadd, 1) := by decide +kernel
theorem dX6_copy_80 : decode cX6_copy 80 = .ok (.iaload, 1) := by decide +kernel
theorem dX6_copy_81 : decode cX6_copy 81 = .ok (.iastore, 1) := by decide +kernel
theorem dX6_copy_82 : decode cX6_copy 82 = .ok (.aload_n 0, 1) := by decide +kernel
theorem dX6_copy_83 : decode cX6_copy 83 = .ok (.getfield 67, 3) := by decide +kernel
theorem dX6_copy_86 : decode cX6_copy 86 = .ok (.bipush 6, 2) := by decide +kernel
theorem dX6_copy_88 : decode cX6_copy 88 = .ok (.iload_n 2, 1) := by decide +kernel
theorem dX6_copy_89 : decode cX6_copy 89 = .ok (.imul, 1) := by decide +kernel
theorem dX6_copy_90 : decode cX6_copy 90 = .ok (.iload_n 3, 1) := by decide +kernel
theorem dX6_copy_91 : decode cX6_copy 91 = .ok (.iadd, 1) := by decide +kernel
theorem dX6_copy_92 : decode cX6_copy 92 = .ok (.aload_n 0, 1) := by decide +kernel
theorem dX6_copy_93 : decode cX6_copy 93 = .ok (.getfield 67, 3) := by decide +kernel
theorem dX6_copy_96 : decode cX6_copy 96 = .ok (.bipush 6, 2) := by decide +kernel
theorem dX6_copy_98 : decode cX6_copy 98 = .ok (.iload_n 1, 1) := by decide +kernel
theorem dX6_copy_99 : decode cX6_copy 99 = .ok (.imul, 1) := by decide +kernel
theorem dX6_copy_100 : decode cX6_copy 100 = .ok (.iload_n 3, 1) := by decide +kernel
theorem dX6_copy_101 : decode cX6_copy 101 = .ok (.iadd, 1) := by decide +kernel
theorem dX6_copy_102 : decode cX6_copy 102 = .ok (.iaload, 1) := by decide +kernel
theorem dX6_copy_103 : decode cX6_copy 103 = .ok (.iastore, 1) := by decide +kernel
theorem dX6_copy_104 : decode cX6_copy 104 = .ok (.aload_n 0, 1) := by decide +kernel
theorem dX6_copy_105 : decode cX6_copy 105 = .ok (.getfield 70, 3) := by decide +kernel
theorem dX6_copy_108 : decode cX6_copy 108 = .ok (.bipush 6, 2) := by decide +kernel
theorem dX6_copy_110 : decode cX6_copy 110 = .ok (.iload_n 2, 1) := by decide +kernel
theorem dX6_copy_111 : decode cX6_copy 111 = .ok (.imul, 1) := by decide +kernel
theorem dX6_copy_112 : decode cX6_copy 112 = .ok (.iload_n 3, 1) := by decide +kernel
theorem dX6_copy_113 : decode cX6_copy 113 = .ok (.iadd, 1) := by decide +kernel
theorem dX6_copy_114 : decode cX6_copy 114 = .ok (.aload_n 0, 1) := by decide +kernel
theorem dX6_copy_115 : decode cX6_copy 115 = .ok (.getfield 70, 3) := by decide +kernel
theorem dX6_copy_118 : decode cX6_copy 118 = .ok (.bipush 6, 2) := by decide +kernel
theorem dX6_copy_120 : decode cX6_copy 120 = .ok (.iload_n 1, 1) := by decide +kernel
theorem dX6_copy_121 : decode cX6_copy 121 = .ok (.imul, 1) := by decide +kernel
theorem dX6_copy_122 : decode cX6_copy 122 = .ok (.iload_n 3, 1) := by decide +kernel
theorem dX6_copy_123 : decode cX6_copy 123 = .ok (.iadd, 1) := by decide +kernel
theorem dX6_copy_124 : decode cX6_copy 124 = .ok (.iaload, 1) := by decide +kernel
theorem dX6_copy_125 : decode cX6_copy 125 = .ok (.iastore, 1) := by decide +kernel
theorem dX6_copy_126 : decode cX6_copy 126 = .ok (.iinc 3 1, 3) := by decide +kernel
theorem dX6_copy_129 : decode cX6_copy 129 = .ok (.goto (-75), 3) := by decide +kernel
theorem dX6_copy_132 : decode cX6_copy 132 = .ok (.iconst 1, 1) := by decide +kernel
theorem dX6_copy_133 : decode cX6_copy 133 = .ok (.ireturn, 1) := by decide +kernel
set_option maxRecDepth 20000 in
theorem ggX6_ofPocket_X6_isPocket : GoodIn wsX6_ofPocket wsX6_isPocket := goodIn_r _ [8, 9, 10, 7, 11] (by decide +kernel) (by decide +kernel)
set_option maxRecDepth 20000 in
theorem gX6_ofPocket_X6_isPocket : GoodIn wsX6_ofPocket (va_wsS RX6 168 yX6_isPocket wsX6_isPocket) := goodIn_app (goodIn_of _ (by decide +kernel)) ggX6_ofPocket_X6_isPocket
set_option maxRecDepth 20000 in
theorem ggX6_ofPocket_X6_within : GoodIn wsX6_ofPocket wsX6_within := goodIn_r _ [11] (by decide +kernel) (by decide +kernel)
set_option maxRecDepth 20000 in
theorem gX6_ofPocket_X6_within : GoodIn wsX6_ofPocket (va_wsS RX6 77 yX6_within wsX6_within) := goodIn_app (goodIn_of _ (by decide +kernel)) ggX6_ofPocket_X6_within
theorem dX6_ofPocket_0 : decode cX6_ofPocket 0 = .ok (.iload_n 1, 1) := by decide +kernel
theorem dX6_ofPocket_1 : decode cX6_ofPocket 1 = .ok (.invokestatic 168, 3) := by decide +kernel
theorem dX6_ofPocket_4 : decode cX6_ofPocket 4 = .ok (.ifCond .ne 5, 3) := by decide +kernel
theorem dX6_ofPocket_7 : decode cX6_ofPocket 7 = .ok (.iconst (-1), 1) := by decide +kernel
theorem dX6_ofPocket_8 : decode cX6_ofPocket 8 = .ok (.ireturn, 1) := by decide +kernel
theorem dX6_ofPocket_9 : decode cX6_ofPocket 9 = .ok (.iload_n 3, 1) := by decide +kernel
theorem dX6_ofPocket_10 : decode cX6_ofPocket 10 = .ok (.iconst 0, 1) := by decide +kernel
theorem dX6_ofPocket_11 : decode cX6_ofPocket 11 = .ok (.iconst 2, 1) := by decide +kernel
theorem dX6_ofPocket_12 : decode cX6_ofPocket 12 = .ok (.invokestatic 77, 3) := by decide +kernel
theorem dX6_ofPocket_15 : decode cX6_ofPocket 15 = .ok (.ifCond .ne 6, 3) := by decide +kernel
theorem dX6_ofPocket_18 : decode cX6_ofPocket 18 = .ok (.bipush (-2), 2) := by decide +kernel
theorem dX6_ofPocket_20 : decode cX6_ofPocket 20 = .ok (.ireturn, 1) := by decide +kernel
theorem dX6_ofPocket_21 : decode cX6_ofPocket 21 = .ok (.aload_n 0, 1) := by decide +kernel
theorem dX6_ofPocket_22 : decode cX6_ofPocket 22 = .ok (.getfield 58, 3) := by decide +kernel
theorem dX6_ofPocket_25 : decode cX6_ofPocket 25 = .ok (.iload_n 1, 1) := by decide +kernel
theorem dX6_ofPocket_26 : decode cX6_ofPocket 26 = .ok (.iaload, 1) := by decide +kernel
theorem dX6_ofPocket_27 : decode cX6_ofPocket 27 = .ok (.ifCond .ne 6, 3) := by decide +kernel
theorem dX6_ofPocket_30 : decode cX6_ofPocket 30 = .ok (.bipush (-3), 2) := by decide +kernel
theorem dX6_ofPocket_32 : decode cX6_ofPocket 32 = .ok (.ireturn, 1) := by decide +kernel
theorem dX6_ofPocket_33 : decode cX6_ofPocket 33 = .ok (.iload_n 2, 1) := by decide +kernel
theorem dX6_ofPocket_34 : decode cX6_ofPocket 34 = .ok (.iconst 0, 1) := by decide +kernel
theorem dX6_ofPocket_35 : decode cX6_ofPocket 35 = .ok (.aload_n 0, 1) := by decide +kernel
theorem dX6_ofPocket_36 : decode cX6_ofPocket 36 = .ok (.getfield 58, 3) := by decide +kernel
theorem dX6_ofPocket_39 : decode cX6_ofPocket 39 = .ok (.iload_n 1, 1) := by decide +kernel
theorem dX6_ofPocket_40 : decode cX6_ofPocket 40 = .ok (.iaload, 1) := by decide +kernel
theorem dX6_ofPocket_41 : decode cX6_ofPocket 41 = .ok (.iconst 1, 1) := by decide +kernel
theorem dX6_ofPocket_42 : decode cX6_ofPocket 42 = .ok (.isub, 1) := by decide +kernel
theorem dX6_ofPocket_43 : decode cX6_ofPocket 43 = .ok (.invokestatic 77, 3) := by decide +kernel
theorem dX6_ofPocket_46 : decode cX6_ofPocket 46 = .ok (.ifCond .ne 6, 3) := by decide +kernel
theorem dX6_ofPocket_49 : decode cX6_ofPocket 49 = .ok (.bipush (-13), 2) := by decide +kernel
theorem dX6_ofPocket_51 : decode cX6_ofPocket 51 = .ok (.ireturn, 1) := by decide +kernel
theorem dX6_ofPocket_52 : decode cX6_ofPocket 52 = .ok (.bipush 6, 2) := by decide +kernel
theorem dX6_ofPocket_54 : decode cX6_ofPocket 54 = .ok (.iload_n 1, 1) := by decide +kernel
theorem dX6_ofPocket_55 : decode cX6_ofPocket 55 = .ok (.imul, 1) := by decide +kernel
theorem dX6_ofPocket_56 : decode cX6_ofPocket 56 = .ok (.iload_n 2, 1) := by decide +kernel
theorem dX6_ofPocket_57 : decode cX6_ofPocket 57 = .ok (.iadd, 1) := by decide +kernel
theorem dX6_ofPocket_58 : decode cX6_ofPocket 58 = .ok (.istore 4, 2) := by decide +kernel
theorem dX6_ofPocket_60 : decode cX6_ofPocket 60 = .ok (.aload_n 0, 1) := by decide +kernel
theorem dX6_ofPocket_61 : decode cX6_ofPocket 61 = .ok (.getfield 64, 3) := by decide +kernel
theorem dX6_ofPocket_64 : decode cX6_ofPocket 64 = .ok (.iload 4, 2) := by decide +kernel
theorem dX6_ofPocket_66 : decode cX6_ofPocket 66 = .ok (.iaload, 1) := by decide +kernel
theorem dX6_ofPocket_67 : decode cX6_ofPocket 67 = .ok (.bipush (-9), 2) := by decide +kernel
theorem dX6_ofPocket_69 : decode cX6_ofPocket 69 = .ok (.if_icmp .ne 6, 3) := by decide +kernel
theorem dX6_ofPocket_72 : decode cX6_ofPocket 72 = .ok (.bipush (-9), 2) := by decide +kernel
theorem dX6_ofPocket_74 : decode cX6_ofPocket 74 = .ok (.ireturn, 1) := by decide +kernel
theorem dX6_ofPocket_75 : decode cX6_ofPocket 75 = .ok (.iload_n 3, 1) := by decide +kernel
theorem dX6_ofPocket_76 : decode cX6_ofPocket 76 = .ok (.ifCond .ne 13, 3) := by decide +kernel
theorem dX6_ofPocket_79 : decode cX6_ofPocket 79 = .ok (.aload_n 0, 1) := by decide +kernel
theorem dX6_ofPocket_80 : decode cX6_ofPocket 80 = .ok (.getfield 64, 3) := by decide +kernel
theorem dX6_ofPocket_83 : decode cX6_ofPocket 83 = .ok (.iload 4, 2) := by decide +kernel
theorem dX6_ofPocket_85 : decode cX6_ofPocket 85 = .ok (.iaload, 1) := by decide +kernel
theorem dX6_ofPocket_86 : decode cX6_ofPocket 86 = .ok (.goto 25, 3) := by decide +kernel
theorem dX6_ofPocket_89 : decode cX6_ofPocket 89 = .ok (.iload_n 3, 1) := by decide +kernel
theorem dX6_ofPocket_90 : decode cX6_ofPocket 90 = .ok (.iconst 1, 1) := by decide +kernel
theorem dX6_ofPocket_91 : decode cX6_ofPocket 91 = .ok (.if_icmp .ne 13, 3) := by decide +kernel
theorem dX6_ofPocket_94 : decode cX6_ofPocket 94 = .ok (.aload_n 0, 1) := by decide +kernel
theorem dX6_ofPocket_95 : decode cX6_ofPocket 95 = .ok (.getfield 67, 3) := by decide +kernel
theorem dX6_ofPocket_98 : decode cX6_ofPocket 98 = .ok (.iload 4, 2) := by decide +kernel
theorem dX6_ofPocket_100 : decode cX6_ofPocket 100 = .ok (.iaload, 1) := by decide +kernel
theorem dX6_ofPocket_101 : decode cX6_ofPocket 101 = .ok (.goto 10, 3) := by decide +kernel
theorem dX6_ofPocket_104 : decode cX6_ofPocket 104 = .ok (.aload_n 0, 1) := by decide +kernel
theorem dX6_ofPocket_105 : decode cX6_ofPocket 105 = .ok (.getfield 70, 3) := by decide +kernel
theorem dX6_ofPocket_108 : decode cX6_ofPocket 108 = .ok (.iload 4, 2) := by decide +kernel
theorem dX6_ofPocket_110 : decode cX6_ofPocket 110 = .ok (.iaload, 1) := by decide +kernel
theorem dX6_ofPocket_111 : decode cX6_ofPocket 111 = .ok (.ireturn, 1) := by decide +kernel
theorem dX6_manyWithout_0 : decode cX6_manyWithout 0 = .ok (.iconst 0, 1) := by decide +kernel
theorem dX6_manyWithout_1 : decode cX6_manyWithout 1 = .ok (.istore_n 1, 1) := by decide +kernel
theorem dX6_manyWithout_2 : decode cX6_manyWithout 2 = .ok (.iconst 0, 1) := by decide +kernel
theorem dX6_manyWithout_3 : decode cX6_manyWithout 3 = .ok (.istore_n 2, 1) := by decide +kernel
theorem dX6_manyWithout_4 : decode cX6_manyWithout 4 = .ok (.iload_n 2, 1) := by decide +kernel
theorem dX6_manyWithout_5 : decode cX6_manyWithout 5 = .ok (.aload_n 0, 1) := by decide +kernel
theorem dX6_manyWithout_6 : decode cX6_manyWithout 6 = .ok (.getfield 95, 3) := by decide +kernel
theorem dX6_manyWithout_9 : decode cX6_manyWithout 9 = .ok (.if_icmp .ge 28, 3) := by decide +kernel
theorem dX6_manyWithout_12 : decode cX6_manyWithout 12 = .ok (.iload_n 1, 1) := by decide +kernel
theorem dX6_manyWithout_13 : decode cX6_manyWithout 13 = .ok (.aload_n 0, 1) := by decide +kernel
theorem dX6_manyWithout_14 : decode cX6_manyWithout 14 = .ok (.getfield 34, 3) := by decide +kernel
theorem dX6_manyWithout_17 : decode cX6_manyWithout 17 = .ok (.iload_n 2, 1) := by decide +kernel
theorem dX6_manyWithout_18 : decode cX6_manyWithout 18 = .ok (.iaload, 1) := by decide +kernel
theorem dX6_manyWithout_19 : decode cX6_manyWithout 19 = .ok (.bipush (-9), 2) := by decide +kernel
theorem dX6_manyWithout_21 : decode cX6_manyWithout 21 = .ok (.if_icmp .ne 7, 3) := by decide +kernel
theorem dX6_manyWithout_24 : decode cX6_manyWithout 24 = .ok (.iconst 1, 1) := by decide +kernel
theorem dX6_manyWithout_25 : decode cX6_manyWithout 25 = .ok (.goto 4, 3) := by decide +kernel
theorem dX6_manyWithout_28 : decode cX6_manyWithout 28 = .ok (.iconst 0, 1) := by decide +kernel
theorem dX6_manyWithout_29 : decode cX6_manyWithout 29 = .ok (.iadd, 1) := by decide +kernel
theorem dX6_manyWithout_30 : decode cX6_manyWithout 30 = .ok (.istore_n 1, 1) := by decide +kernel
theorem dX6_manyWithout_31 : decode cX6_manyWithout 31 = .ok (.iinc 2 1, 3) := by decide +kernel
theorem dX6_manyWithout_34 : decode cX6_manyWithout 34 = .ok (.goto (-30), 3) := by decide +kernel
theorem dX6_manyWithout_37 : decode cX6_manyWithout 37 = .ok (.iload_n 1, 1) := by decide +kernel
theorem dX6_manyWithout_38 : decode cX6_manyWithout 38 = .ok (.ireturn, 1) := by decide +kernel
set_option maxRecDepth 20000 in
theorem ggX6_manyOf_X6_lengthOf : GoodIn wsX6_manyOf wsX6_lengthOf := goodIn_r _ [8] (by decide +kernel) (by decide +kernel)
set_option maxRecDepth 20000 in
theorem gX6_manyOf_X6_lengthOf : GoodIn wsX6_manyOf (va_wsS RX6 81 yX6_lengthOf wsX6_lengthOf) := goodIn_app (goodIn_of _ (by decide +kernel)) ggX6_manyOf_X6_lengthOf
theorem dX6_manyOf_0 : decode cX6_manyOf 0 = .ok (.iconst 0, 1) := by decide +kernel
theorem dX6_manyOf_1 : decode cX6_manyOf 1 = .ok (.istore_n 2, 1) := by decide +kernel
theorem dX6_manyOf_2 : decode cX6_manyOf 2 = .ok (.iconst 0, 1) := by decide +kernel
theorem dX6_manyOf_3 : decode cX6_manyOf 3 = .ok (.istore_n 3, 1) := by decide +kernel
theorem dX6_manyOf_4 : decode cX6_manyOf 4 = .ok (.iload_n 3, 1) := by decide +kernel
theorem dX6_manyOf_5 : decode cX6_manyOf 5 = .ok (.aload_n 0, 1) := by decide +kernel
theorem dX6_manyOf_6 : decode cX6_manyOf 6 = .ok (.getfield 73, 3) := by decide +kernel
theorem dX6_manyOf_9 : decode cX6_manyOf 9 = .ok (.if_icmp .ge 59, 3) := by decide +kernel
theorem dX6_manyOf_12 : decode cX6_manyOf 12 = .ok (.iload_n 2, 1) := by decide +kernel
theorem dX6_manyOf_13 : decode cX6_manyOf 13 = .ok (.iload_n 1, 1) := by decide +kernel
theorem dX6_manyOf_14 : decode cX6_manyOf 14 = .ok (.iconst 3, 1) := by decide +kernel
theorem dX6_manyOf_15 : decode cX6_manyOf 15 = .ok (.if_icmp .ne 12, 3) := by decide +kernel
theorem dX6_manyOf_18 : decode cX6_manyOf 18 = .ok (.aload_n 0, 1) := by decide +kernel
theorem dX6_manyOf_19 : decode cX6_manyOf 19 = .ok (.getfield 43, 3) := by decide +kernel
theorem dX6_manyOf_22 : decode cX6_manyOf 22 = .ok (.iload_n 3, 1) := by decide +kernel
theorem dX6_manyOf_23 : decode cX6_manyOf 23 = .ok (.iaload, 1) := by decide +kernel
theorem dX6_manyOf_24 : decode cX6_manyOf 24 = .ok (.goto 36, 3) := by decide +kernel
theorem dX6_manyOf_27 : decode cX6_manyOf 27 = .ok (.iload_n 1, 1) := by decide +kernel
theorem dX6_manyOf_28 : decode cX6_manyOf 28 = .ok (.iconst 4, 1) := by decide +kernel
theorem dX6_manyOf_29 : decode cX6_manyOf 29 = .ok (.if_icmp .ne 22, 3) := by decide +kernel
theorem dX6_manyOf_32 : decode cX6_manyOf 32 = .ok (.aload_n 0, 1) := by decide +kernel
theorem dX6_manyOf_33 : decode cX6_manyOf 33 = .ok (.getfield 13, 3) := by decide +kernel
theorem dX6_manyOf_36 : decode cX6_manyOf 36 = .ok (.iload_n 3, 1) := by decide +kernel
theorem dX6_manyOf_37 : decode cX6_manyOf 37 = .ok (.iaload, 1) := by decide +kernel
theorem dX6_manyOf_38 : decode cX6_manyOf 38 = .ok (.bipush (-9), 2) := by decide +kernel
theorem dX6_manyOf_40 : decode cX6_manyOf 40 = .ok (.if_icmp .eq 7, 3) := by decide +kernel
theorem dX6_manyOf_43 : decode cX6_manyOf 43 = .ok (.iconst 1, 1) := by decide +kernel
theorem dX6_manyOf_44 : decode cX6_manyOf 44 = .ok (.goto 16, 3) := by decide +kernel
theorem dX6_manyOf_47 : decode cX6_manyOf 47 = .ok (.iconst 0, 1) := by decide +kernel
theorem dX6_manyOf_48 : decode cX6_manyOf 48 = .ok (.goto 12, 3) := by decide +kernel
theorem dX6_manyOf_51 : decode cX6_manyOf 51 = .ok (.aload_n 0, 1) := by decide +kernel
theorem dX6_manyOf_52 : decode cX6_manyOf 52 = .ok (.getfield 7, 3) := by decide +kernel
theorem dX6_manyOf_55 : decode cX6_manyOf 55 = .ok (.iload_n 3, 1) := by decide +kernel
theorem dX6_manyOf_56 : decode cX6_manyOf 56 = .ok (.iaload, 1) := by decide +kernel
theorem dX6_manyOf_57 : decode cX6_manyOf 57 = .ok (.invokestatic 81, 3) := by decide +kernel
theorem dX6_manyOf_60 : decode cX6_manyOf 60 = .ok (.iadd, 1) := by decide +kernel
theorem dX6_manyOf_61 : decode cX6_manyOf 61 = .ok (.istore_n 2, 1) := by decide +kernel
theorem dX6_manyOf_62 : decode cX6_manyOf 62 = .ok (.iinc 3 1, 3) := by decide +kernel
theorem dX6_manyOf_65 : decode cX6_manyOf 65 = .ok (.goto (-61), 3) := by decide +kernel
theorem dX6_manyOf_68 : decode cX6_manyOf 68 = .ok (.iload_n 2, 1) := by decide +kernel
theorem dX6_manyOf_69 : decode cX6_manyOf 69 = .ok (.ireturn, 1) := by decide +kernel
set_option maxRecDepth 20000 in
theorem ggX6_many_X6_goes : GoodIn wsX6_many wsX6_goes := goodIn_r _ [7, 8, 9, 10, 11, 6, 12, 13, 2, 14, 15, 1, 16, 17, 18, 19, 20, 21, 22, 23, 24, 25, 26, 27, 28, 29, 30, 31, 32, 33, 34, 35, 36, 37, 38, 39, 40, 41, 42, 43, 44, 45, 46, 47, 48, 49, 50, 51, 52, 53, 54, 55, 56, 57, 58, 59, 69, 70, 71, 72, 73, 74, 75, 76, 77, 78, 79, 80, 81, 82, 83, 84, 85, 86, 87, 88, 89, 90, 91, 92, 93] (by decide +kernel) (by decide +kernel)
set_option maxRecDepth 20000 in
theorem gX6_many_X6_goes : GoodIn wsX6_many (wsV RX6 126 RX6 yX6_goes wsX6_goes) := goodIn_app (goodIn_of _ (by decide +kernel)) ggX6_many_X6_goes
set_option maxRecDepth 20000 in
theorem ggX6_many_X6_manyWithout : GoodIn wsX6_many wsX6_manyWithout := goodIn_r _ [63, 2, 52, 69, 70, 71, 72, 73, 74, 75, 76, 77, 78, 79, 80, 81, 82, 83, 84, 85, 86, 87, 88, 89, 90, 91, 92, 93] (by decide +kernel) (by decide +kernel)
set_option maxRecDepth 20000 in
theorem gX6_many_X6_manyWithout : GoodIn wsX6_many (wsV RX6 174 RX6 yX6_manyWithout wsX6_manyWithout) := goodIn_app (goodIn_of _ (by decide +kernel)) ggX6_many_X6_manyWithout
set_option maxRecDepth 20000 in
theorem ggX6_many_X6_manyOf : GoodIn wsX6_many wsX6_manyOf := goodIn_r _ [67, 1, 22, 68, 20, 24, 25, 6, 26, 69, 70, 71, 72, 73, 74, 75, 76, 77, 78, 79, 80, 81, 82, 83, 84, 85, 86, 87, 88, 89, 90, 91, 92, 93] (by decide +kernel) (by decide +kernel)
set_option maxRecDepth 20000 in
theorem gX6_many_X6_manyOf : GoodIn wsX6_many (wsV RX6 177 RX6 yX6_manyOf wsX6_manyOf) := goodIn_app (goodIn_of _ (by decide +kernel)) ggX6_many_X6_manyOf
theorem dX6_many_0 : decode cX6_many 0 = .ok (.aload_n 0, 1) := by decide +kernel
theorem dX6_many_1 : decode cX6_many 1 = .ok (.invokevirtual 126, 3) := by decide +kernel
theorem dX6_many_4 : decode cX6_many 4 = .ok (.iload_n 1, 1) := by decide +kernel
theorem dX6_many_5 : decode cX6_many 5 = .ok (.tableswitch 60 0 5 #[39, 44, 49, 54, 54, 54], 39) := by decide +kernel
theorem dX6_many_44 : decode cX6_many 44 = .ok (.aload_n 0, 1) := by decide +kernel
theorem dX6_many_45 : decode cX6_many 45 = .ok (.getfield 73, 3) := by decide +kernel
theorem dX6_many_48 : decode cX6_many 48 = .ok (.ireturn, 1) := by decide +kernel
theorem dX6_many_49 : decode cX6_many 49 = .ok (.aload_n 0, 1) := by decide +kernel
theorem dX6_many_50 : decode cX6_many 50 = .ok (.getfield 95, 3) := by decide +kernel
theorem dX6_many_53 : decode cX6_many 53 = .ok (.ireturn, 1) := by decide +kernel
theorem dX6_many_54 : decode cX6_many 54 = .ok (.aload_n 0, 1) := by decide +kernel
theorem dX6_many_55 : decode cX6_many 55 = .ok (.invokevirtual 174, 3) := by decide +kernel
theorem dX6_many_58 : decode cX6_many 58 = .ok (.ireturn, 1) := by decide +kernel
theorem dX6_many_59 : decode cX6_many 59 = .ok (.aload_n 0, 1) := by decide +kernel
theorem dX6_many_60 : decode cX6_many 60 = .ok (.iload_n 1, 1) := by decide +kernel
theorem dX6_many_61 : decode cX6_many 61 = .ok (.invokevirtual 177, 3) := by decide +kernel
theorem dX6_many_64 : decode cX6_many 64 = .ok (.ireturn, 1) := by decide +kernel
theorem dX6_many_65 : decode cX6_many 65 = .ok (.bipush (-2), 2) := by decide +kernel
theorem dX6_many_67 : decode cX6_many 67 = .ok (.ireturn, 1) := by decide +kernel
theorem dJ9_min_7cf53_0 : decode cJ9_min_7cf53 0 = .ok (.iload_n 0, 1) := by decide +kernel
theorem dJ9_min_7cf53_1 : decode cJ9_min_7cf53 1 = .ok (.iload_n 1, 1) := by decide +kernel
theorem dJ9_min_7cf53_2 : decode cJ9_min_7cf53 2 = .ok (.if_icmp .gt 7, 3) := by decide +kernel
theorem dJ9_min_7cf53_5 : decode cJ9_min_7cf53 5 = .ok (.iload_n 0, 1) := by decide +kernel
theorem dJ9_min_7cf53_6 : decode cJ9_min_7cf53 6 = .ok (.goto 4, 3) := by decide +kernel
theorem dJ9_min_7cf53_9 : decode cJ9_min_7cf53 9 = .ok (.iload_n 1, 1) := by decide +kernel
theorem dJ9_min_7cf53_10 : decode cJ9_min_7cf53 10 = .ok (.ireturn, 1) := by decide +kernel
set_option maxRecDepth 20000 in
theorem ggL_law_X5_init : GoodIn wsL_law wsX5_init := goodIn_r _ [8, 9, 10, 11, 12, 13, 14, 15, 16, 17, 18, 19, 20, 21, 22, 23, 24, 25, 26, 27, 28, 29, 30, 31, 32, 33, 34, 35, 36, 37, 38, 39, 40, 41, 42, 43, 44, 45, 46, 47, 48, 49, 50, 51, 52, 53, 54, 55, 56, 57, 58, 59, 60, 61, 62, 63, 64, 65, 66, 67, 68, 69, 70, 71, 72, 73, 596, 597, 564, 565, 566, 567, 568, 569, 570, 598, 599, 600, 601, 602, 603, 604, 605, 606, 607, 608, 609, 610, 611, 612, 613, 614, 615, 616, 617, 618, 619, 620, 621, 622, 623, 624] (by decide +kernel) (by decide +kernel)
set_option maxRecDepth 20000 in
theorem gL_law_X5_init : GoodIn wsL_law (wsX5_init) := ggL_law_X5_init
set_option maxRecDepth 20000 in
theorem ggL_law_X6_init : GoodIn wsL_law wsX6_init := goodIn_r _ [76, 77, 10, 11, 25, 78, 79, 80, 81, 82, 83, 84, 85, 86, 87, 88, 89, 90, 91, 92, 93, 94, 95, 96, 97, 98, 571, 572, 573, 574, 575, 576, 577, 578, 579, 580, 581, 582, 583, 584, 585, 586, 587, 588, 589, 590, 591, 592, 593, 594, 595] (by decide +kernel) (by decide +kernel)
set_option maxRecDepth 20000 in
theorem gL_law_X6_init : GoodIn wsL_law (wsX6_init) := ggL_law_X6_init
set_option maxRecDepth 20000 in
theorem ggL_law_X5_put : GoodIn wsL_law wsX5_put := goodIn_r _ [102, 15, 103, 104, 105, 2, 106, 107, 108, 109, 110, 111, 112, 23, 113, 114, 115, 116, 117, 14, 118, 119, 36, 120, 121, 122, 123, 38, 124, 125, 126, 42, 127, 128, 129, 130, 131, 132, 133, 134, 19, 135, 136, 137, 18, 138, 139, 140, 141, 142, 47, 58, 48, 49, 50, 143, 144, 145, 146, 147, 148, 149, 150, 151, 152, 153, 51, 52, 53, 54, 56, 57, 154, 155, 156, 157, 158, 159, 160, 161, 162, 163, 164, 165, 166, 167, 168, 22, 169, 170, 171, 63, 172, 173, 174, 175, 176, 177, 178, 179, 180, 62, 181, 182, 183, 184, 185, 186, 187, 188, 189, 190, 191, 192, 193, 194, 195, 196, 197, 198, 199, 200, 201, 202, 203, 204, 205, 206, 207, 564, 565, 566, 567, 568, 569, 570, 596, 597, 612, 613, 619, 620, 621, 622, 623, 624, 598, 599, 600, 601, 602, 603, 604, 605, 606, 607, 608, 609, 610, 611] (by decide +kernel) (by decide +kernel)
set_option maxRecDepth 20000 in
theorem gL_law_X5_put : GoodIn wsL_law (wsV RL 13 RX5 yX5_put wsX5_put) := goodIn_app (goodIn_of _ (by decide +kernel)) ggL_law_X5_put
set_option maxRecDepth 20000 in
theorem ggL_law_X6_put : GoodIn wsL_law wsX6_put := goodIn_r _ [211, 212, 78, 79, 92, 213, 214, 5, 215, 216, 217, 218, 219, 220, 221, 222, 223, 224, 225, 87, 226, 227, 228, 229, 80, 230, 231, 232, 233, 91, 234, 235, 236, 237, 238, 239, 240, 88, 89, 241, 242, 243, 244, 245, 246, 247, 85, 84, 83, 248, 249, 250, 251, 90, 252, 253, 254, 255, 256, 257, 258, 259, 81, 82, 86, 260, 261, 262, 263, 264, 265, 266, 267, 268, 269, 270, 571, 572, 573, 574, 575, 576, 577, 578, 579, 580, 581, 582, 583, 584, 585, 586, 587, 588, 589, 590, 591, 592, 593, 594, 595] (by decide +kernel) (by decide +kernel)
set_option maxRecDepth 20000 in
theorem gL_law_X6_put : GoodIn wsL_law (wsV RL 17 RX6 yX6_put wsX6_put) := goodIn_app (goodIn_of _ (by decide +kernel)) ggL_law_X6_put
set_option maxRecDepth 20000 in
theorem ggL_law_X5_change : GoodIn wsL_law wsX5_change := goodIn_r _ [274, 15, 112, 275, 276, 277, 2, 278, 103, 104, 105, 106, 107, 108, 109, 110, 111, 23, 113, 114, 279, 122, 123, 38, 124, 125, 126, 42, 127, 128, 129, 130, 131, 132, 133, 134, 19, 135, 136, 137, 18, 138, 139, 140, 141, 142, 47, 58, 48, 49, 50, 143, 144, 145, 146, 147, 148, 149, 150, 151, 152, 153, 51, 52, 53, 54, 56, 57, 154, 155, 156, 157, 158, 159, 160, 161, 162, 163, 164, 165, 166, 167, 168, 22, 169, 170, 171, 63, 172, 173, 174, 175, 176, 177, 178, 179, 180, 62, 181, 182, 183, 184, 185, 186, 187, 188, 189, 190, 191, 192, 193, 194, 195, 196, 197, 198, 199, 200, 201, 202, 203, 204, 205, 206, 207, 564, 565, 566, 567, 568, 569, 570, 596, 597, 612, 613, 619, 620, 621, 622, 623, 624, 598, 599, 600, 601, 602, 603, 604, 605, 606, 607, 608, 609, 610, 611] (by decide +kernel) (by decide +kernel)
set_option maxRecDepth 20000 in
theorem gL_law_X5_change : GoodIn wsL_law (wsV RL 18 RX5 yX5_change wsX5_change) := goodIn_app (goodIn_of _ (by decide +kernel)) ggL_law_X5_change
set_option maxRecDepth 20000 in
theorem ggL_law_X6_change : GoodIn wsL_law wsX6_change := goodIn_r _ [283, 78, 284, 285, 286, 5, 287, 212, 213, 214, 215, 216, 217, 218, 219, 220, 221, 222, 223, 224, 225, 92, 87, 226, 227, 228, 229, 80, 230, 231, 232, 233, 91, 234, 235, 236, 237, 238, 239, 240, 88, 89, 241, 242, 243, 244, 245, 246, 247, 85, 84, 83, 248, 249, 250, 251, 90, 252, 253, 254, 255, 256, 257, 258, 259, 81, 82, 86, 260, 261, 262, 263, 264, 265, 266, 267, 268, 269, 270, 571, 572, 573, 574, 575, 576, 577, 578, 579, 580, 581, 582, 583, 584, 585, 586, 587, 588, 589, 590, 591, 592, 593, 594, 595] (by decide +kernel) (by decide +kernel)
set_option maxRecDepth 20000 in
theorem gL_law_X6_change : GoodIn wsL_law (wsV RL 21 RX6 yX6_change wsX6_change) := goodIn_app (goodIn_of _ (by decide +kernel)) ggL_law_X6_change
set_option maxRecDepth 20000 in
theorem ggL_law_X5_take : GoodIn wsL_law wsX5_take := goodIn_r _ [291, 15, 275, 276, 277, 2, 278, 103, 108, 109, 110, 111, 112, 23, 113, 114, 292, 293, 294, 14, 295, 119, 36, 131, 132, 133, 134, 19, 135, 136, 137, 18, 138, 139, 140, 141, 142, 47, 58, 48, 49, 50, 143, 144, 145, 146, 147, 148, 149, 150, 151, 152, 153, 51, 52, 53, 54, 56, 57, 154, 155, 156, 38, 157, 126, 42, 158, 159, 160, 161, 127, 162, 163, 164, 165, 166, 167, 168, 22, 169, 170, 171, 63, 172, 173, 174, 175, 176, 177, 178, 179, 180, 62, 181, 182, 183, 184, 185, 186, 187, 188, 189, 190, 191, 192, 193, 194, 195, 196, 197, 198, 199, 200, 201, 202, 203, 204, 205, 206, 207, 564, 565, 566, 567, 568, 569, 570, 596, 597, 612, 613, 619, 620, 621, 622, 623, 624, 598, 599, 600, 601, 602, 603, 604, 605, 606, 607, 608, 609, 610, 611] (by decide +kernel) (by decide +kernel)
set_option maxRecDepth 20000 in
theorem gL_law_X5_take : GoodIn wsL_law (wsV RL 22 RX5 yX5_take wsX5_take) := goodIn_app (goodIn_of _ (by decide +kernel)) ggL_law_X5_take
set_option maxRecDepth 20000 in
theorem ggL_law_X6_take : GoodIn wsL_law wsX6_take := goodIn_r _ [299, 212, 78, 79, 92, 284, 285, 286, 5, 287, 213, 214, 215, 222, 223, 224, 225, 87, 226, 227, 228, 229, 80, 230, 231, 232, 233, 91, 234, 235, 236, 237, 238, 239, 240, 88, 89, 219, 220, 221, 241, 242, 243, 244, 245, 246, 247, 85, 84, 83, 248, 249, 250, 251, 90, 252, 253, 254, 255, 256, 257, 258, 259, 81, 82, 86, 260, 261, 262, 263, 264, 265, 266, 267, 268, 269, 270, 571, 572, 573, 574, 575, 576, 577, 578, 579, 580, 581, 582, 583, 584, 585, 586, 587, 588, 589, 590, 591, 592, 593, 594, 595] (by decide +kernel) (by decide +kernel)
set_option maxRecDepth 20000 in
theorem gL_law_X6_take : GoodIn wsL_law (wsV RL 26 RX6 yX6_take wsX6_take) := goodIn_app (goodIn_of _ (by decide +kernel)) ggL_law_X6_take
set_option maxRecDepth 20000 in
theorem ggL_law_X5_style : GoodIn wsL_law wsX5_style := goodIn_r _ [303, 23, 304, 15, 19, 305, 306, 2, 307, 308, 309, 166, 167, 168, 22, 169, 170, 171, 63, 172, 173, 174, 175, 176, 177, 178, 179, 180, 62, 181, 182, 183, 184, 185, 186, 187, 188, 189, 190, 191, 192, 193, 194, 195, 196, 197, 198, 199, 200, 201, 202, 203, 564, 565, 566, 567, 568, 569, 570, 612, 613, 596, 597, 619, 620, 621, 622, 623, 624, 598, 599, 600, 601, 602, 603, 604, 605, 606, 607, 608, 609, 610, 611] (by decide +kernel) (by decide +kernel)
set_option maxRecDepth 20000 in
theorem gL_law_X5_style : GoodIn wsL_law (wsV RL 27 RX5 yX5_style wsX5_style) := goodIn_app (goodIn_of _ (by decide +kernel)) ggL_law_X5_style
set_option maxRecDepth 20000 in
theorem ggL_law_X6_style : GoodIn wsL_law wsX6_style := goodIn_r _ [313, 80, 213, 214, 5, 215, 314, 315, 316, 571, 572, 573, 574, 575, 576, 577, 578, 579, 580, 581, 582, 583, 584, 585, 586, 587, 588, 589, 590, 591, 592, 593, 594, 595] (by decide +kernel) (by decide +kernel)
set_option maxRecDepth 20000 in
theorem gL_law_X6_style : GoodIn wsL_law (wsV RL 30 RX6 yX6_style wsX6_style) := goodIn_app (goodIn_of _ (by decide +kernel)) ggL_law_X6_style
set_option maxRecDepth 20000 in
theorem ggL_law_X5_ofLine : GoodIn wsL_law wsX5_ofLine := goodIn_r _ [320, 15, 112, 321, 23, 113, 322, 19, 323, 324, 325, 275, 276, 277, 2, 278, 103, 326, 155, 156, 38, 157, 126, 42, 564, 565, 566, 567, 568, 569, 570, 596, 597, 619, 620, 621, 622, 623, 624, 612, 613, 598, 599, 600, 601, 602, 603, 604, 605, 606, 607, 608, 609, 610, 611] (by decide +kernel) (by decide +kernel)
set_option maxRecDepth 20000 in
theorem gL_law_X5_ofLine : GoodIn wsL_law (wsV RL 31 RX5 yX5_ofLine wsX5_ofLine) := goodIn_app (goodIn_of _ (by decide +kernel)) ggL_law_X5_ofLine
set_option maxRecDepth 20000 in
theorem ggL_law_X6_ofLine : GoodIn wsL_law wsX6_ofLine := goodIn_r _ [330, 78, 87, 88, 89, 79, 284, 285, 286, 5, 287, 212, 213, 214, 215, 226, 227, 228, 229, 80, 230, 231, 232, 233, 91, 234, 235, 236, 237, 238, 239, 240, 219, 220, 221, 241, 242, 243, 244, 245, 246, 247, 85, 84, 83, 248, 249, 250, 251, 90, 252, 253, 254, 255, 256, 257, 258, 259, 81, 82, 86, 260, 261, 262, 263, 264, 265, 266, 331, 332, 333, 334, 571, 572, 573, 574, 575, 576, 577, 578, 579, 580, 581, 582, 583, 584, 585, 586, 587, 588, 589, 590, 591, 592, 593, 594, 595] (by decide +kernel) (by decide +kernel)
set_option maxRecDepth 20000 in
theorem gL_law_X6_ofLine : GoodIn wsL_law (wsV RL 34 RX6 yX6_ofLine wsX6_ofLine) := goodIn_app (goodIn_of _ (by decide +kernel)) ggL_law_X6_ofLine
set_option maxRecDepth 20000 in
theorem ggL_law_X5_opener : GoodIn wsL_law wsX5_opener := goodIn_r _ [338, 19, 339, 340, 23, 341, 342, 343, 344, 2, 345, 346, 347, 195, 196, 22, 197, 63, 198, 199, 348, 201, 202, 203, 349, 350, 351, 352, 180, 189, 190, 191, 192, 62, 193, 564, 565, 566, 567, 568, 569, 570, 598, 599, 600, 601, 602, 603, 604, 605, 606, 607, 608, 609, 610, 611, 612, 613] (by decide +kernel) (by decide +kernel)
set_option maxRecDepth 20000 in
theorem gL_law_X5_opener : GoodIn wsL_law (wsV RL 35 RX5 yX5_opener wsX5_opener) := goodIn_app (goodIn_of _ (by decide +kernel)) ggL_law_X5_opener
set_option maxRecDepth 20000 in
theorem ggL_law_X6_opener : GoodIn wsL_law wsX6_opener := goodIn_r _ [356, 234, 81, 82, 83, 84, 85, 86, 226, 227, 228, 5, 229, 80, 230, 231, 232, 233, 91, 235, 236, 212, 237, 238, 239, 240, 78, 88, 89, 87, 219, 220, 221, 241, 242, 243, 244, 245, 246, 247, 248, 249, 250, 251, 90, 252, 253, 254, 255, 256, 257, 258, 259, 260, 261, 262, 263, 264, 265, 266, 213, 214, 215, 571, 572, 573, 574, 575, 576, 577, 578, 579, 580, 581, 582, 583, 584, 585, 586, 587, 588, 589, 590, 591, 592, 593, 594, 595] (by decide +kernel) (by decide +kernel)
set_option maxRecDepth 20000 in
theorem gL_law_X6_opener : GoodIn wsL_law (wsV RL 38 RX6 yX6_opener wsX6_opener) := goodIn_app (goodIn_of _ (by decide +kernel)) ggL_law_X6_opener
set_option maxRecDepth 20000 in
theorem ggL_law_X5_unlike : GoodIn wsL_law wsX5_unlike := goodIn_r _ [360, 15, 103, 112, 23, 275, 276, 277, 2, 278, 361, 362, 363, 38, 364, 43, 126, 365, 366, 367, 368, 325, 113, 564, 565, 566, 567, 568, 569, 570, 596, 597, 619, 620, 621, 622, 623, 624, 612, 613] (by decide +kernel) (by decide +kernel)
set_option maxRecDepth 20000 in
theorem gL_law_X5_unlike : GoodIn wsL_law (wsV RL 39 RX5 yX5_unlike wsX5_unlike) := goodIn_app (goodIn_of _ (by decide +kernel)) ggL_law_X5_unlike
set_option maxRecDepth 20000 in
theorem ggL_law_X6_unlike : GoodIn wsL_law wsX6_unlike := goodIn_r _ [372, 212, 87, 79, 284, 285, 286, 5, 287, 213, 214, 215, 226, 227, 228, 229, 80, 230, 231, 232, 233, 91, 234, 235, 236, 237, 238, 239, 240, 78, 88, 89, 219, 220, 221, 241, 242, 243, 244, 245, 246, 247, 85, 84, 83, 248, 249, 250, 251, 90, 252, 253, 254, 255, 256, 257, 258, 259, 81, 82, 86, 260, 261, 262, 263, 264, 265, 266, 373, 374, 375, 376, 571, 572, 573, 574, 575, 576, 577, 578, 579, 580, 581, 582, 583, 584, 585, 586, 587, 588, 589, 590, 591, 592, 593, 594, 595] (by decide +kernel) (by decide +kernel)
set_option maxRecDepth 20000 in
theorem gL_law_X6_unlike : GoodIn wsL_law (wsV RL 42 RX6 yX6_unlike wsX6_unlike) := goodIn_app (goodIn_of _ (by decide +kernel)) ggL_law_X6_unlike
set_option maxRecDepth 20000 in
theorem ggL_law_X5_see : GoodIn wsL_law wsX5_see := goodIn_r _ [380, 15, 112, 325, 275, 276, 277, 2, 278, 103, 564, 565, 566, 567, 568, 569, 570, 596, 597, 619, 620, 621, 622, 623, 624] (by decide +kernel) (by decide +kernel)
set_option maxRecDepth 20000 in
theorem gL_law_X5_see : GoodIn wsL_law (wsV RL 43 RX5 yX5_see wsX5_see) := goodIn_app (goodIn_of _ (by decide +kernel)) ggL_law_X5_see
set_option maxRecDepth 20000 in
theorem ggL_law_X6_see : GoodIn wsL_law wsX6_see := goodIn_r _ [384, 79, 284, 285, 286, 5, 287, 212, 213, 214, 215, 571, 572, 573, 574, 575, 576, 577, 578, 579, 580, 581, 582, 583, 584, 585, 586, 587, 588, 589, 590, 591, 592, 593, 594, 595] (by decide +kernel) (by decide +kernel)
set_option maxRecDepth 20000 in
theorem gL_law_X6_see : GoodIn wsL_law (wsV RL 46 RX6 yX6_see wsX6_see) := goodIn_app (goodIn_of _ (by decide +kernel)) ggL_law_X6_see
set_option maxRecDepth 20000 in
theorem ggL_law_X5_fits : GoodIn wsL_law wsX5_fits := goodIn_r _ [388, 15, 103, 24, 389, 390, 2, 391, 305, 306, 307, 308, 309, 392, 393, 394, 395, 19, 64, 65, 66, 22, 67, 62, 166, 167, 168, 169, 170, 171, 63, 172, 173, 174, 175, 176, 177, 178, 179, 180, 181, 182, 183, 184, 185, 186, 187, 188, 189, 190, 191, 192, 193, 194, 195, 196, 197, 198, 199, 200, 201, 202, 203, 365, 366, 367, 368, 112, 325, 113, 361, 362, 363, 38, 364, 43, 126, 564, 565, 566, 567, 568, 569, 570, 596, 597, 612, 613, 619, 620, 621, 622, 623, 624, 598, 599, 600, 601, 602, 603, 604, 605, 606, 607, 608, 609, 610, 611] (by decide +kernel) (by decide +kernel)
set_option maxRecDepth 20000 in
theorem gL_law_X5_fits : GoodIn wsL_law (wsV RL 47 RX5 yX5_fits wsX5_fits) := goodIn_app (goodIn_of _ (by decide +kernel)) ggL_law_X5_fits
set_option maxRecDepth 20000 in
theorem ggL_law_X6_fits : GoodIn wsL_law wsX6_fits := goodIn_r _ [399, 212, 87, 79, 400, 401, 5, 402, 314, 315, 316, 213, 214, 215, 230, 231, 232, 233, 91, 234, 235, 236, 237, 238, 239, 240, 78, 88, 89, 219, 220, 221, 241, 242, 243, 244, 245, 246, 247, 85, 84, 83, 248, 249, 250, 251, 90, 252, 253, 254, 255, 256, 257, 258, 259, 81, 82, 86, 260, 261, 262, 263, 264, 265, 266, 373, 374, 375, 376, 571, 572, 573, 574, 575, 576, 577, 578, 579, 580, 581, 582, 583, 584, 585, 586, 587, 588, 589, 590, 591, 592, 593, 594, 595] (by decide +kernel) (by decide +kernel)
set_option maxRecDepth 20000 in
theorem gL_law_X6_fits : GoodIn wsL_law (wsV RL 51 RX6 yX6_fits wsX6_fits) := goodIn_app (goodIn_of _ (by decide +kernel)) ggL_law_X6_fits
set_option maxRecDepth 20000 in
theorem ggL_law_X5_score : GoodIn wsL_law wsX5_score := goodIn_r _ [406, 389, 390, 2, 391, 305, 306, 307, 308, 309, 392, 393, 394, 395, 24, 15, 19, 64, 65, 66, 22, 67, 62, 166, 167, 168, 169, 170, 171, 63, 172, 173, 174, 175, 176, 177, 178, 179, 180, 181, 182, 183, 184, 185, 186, 187, 188, 189, 190, 191, 192, 193, 194, 195, 196, 197, 198, 199, 200, 201, 202, 203, 407, 408, 409, 410, 103, 323, 411, 412, 413, 414, 365, 366, 367, 368, 112, 325, 113, 361, 362, 363, 38, 364, 43, 126, 415, 416, 417, 564, 565, 566, 567, 568, 569, 570, 612, 613, 596, 597, 619, 620, 621, 622, 623, 624, 598, 599, 600, 601, 602, 603, 604, 605, 606, 607, 608, 609, 610, 611] (by decide +kernel) (by decide +kernel)
set_option maxRecDepth 20000 in
theorem gL_law_X5_score : GoodIn wsL_law (wsV RL 52 RX5 yX5_score wsX5_score) := goodIn_app (goodIn_of _ (by decide +kernel)) ggL_law_X5_score
set_option maxRecDepth 20000 in
theorem ggL_law_X6_score : GoodIn wsL_law wsX6_score := goodIn_r _ [421, 400, 401, 5, 402, 314, 315, 316, 213, 214, 215, 422, 423, 424, 425, 212, 88, 87, 79, 230, 231, 232, 233, 91, 234, 235, 236, 237, 238, 239, 240, 78, 89, 219, 220, 221, 241, 242, 243, 244, 245, 246, 247, 85, 84, 83, 248, 249, 250, 251, 90, 252, 253, 254, 255, 256, 257, 258, 259, 81, 82, 86, 260, 261, 262, 263, 264, 265, 266, 373, 374, 375, 376, 426, 427, 428, 429, 571, 572, 573, 574, 575, 576, 577, 578, 579, 580, 581, 582, 583, 584, 585, 586, 587, 588, 589, 590, 591, 592, 593, 594, 595] (by decide +kernel) (by decide +kernel)
set_option maxRecDepth 20000 in
theorem gL_law_X6_score : GoodIn wsL_law (wsV RL 56 RX6 yX6_score wsX6_score) := goodIn_app (goodIn_of _ (by decide +kernel)) ggL_law_X6_score
set_option maxRecDepth 20000 in
theorem ggL_law_X5_guess : GoodIn wsL_law wsX5_guess := goodIn_r _ [433, 26, 434, 435, 436, 437, 2, 438, 15, 103, 112, 361, 362, 363, 38, 364, 43, 126, 439, 440, 441, 442, 308, 309, 392, 393, 394, 395, 24, 19, 64, 65, 66, 22, 67, 62, 166, 167, 168, 169, 170, 171, 63, 172, 173, 174, 175, 176, 177, 178, 179, 180, 181, 182, 183, 184, 185, 186, 187, 188, 189, 190, 191, 192, 193, 194, 195, 196, 197, 198, 199, 200, 201, 202, 203, 443, 444, 445, 446, 304, 407, 408, 409, 410, 323, 411, 412, 413, 414, 365, 366, 367, 368, 325, 113, 415, 416, 417, 564, 565, 566, 567, 568, 569, 570, 596, 597, 619, 620, 621, 622, 623, 624, 612, 613, 598, 599, 600, 601, 602, 603, 604, 605, 606, 607, 608, 609, 610, 611] (by decide +kernel) (by decide +kernel)
set_option maxRecDepth 20000 in
theorem gL_law_X5_guess : GoodIn wsL_law (wsV RL 57 RX5 yX5_guess wsX5_guess) := goodIn_app (goodIn_of _ (by decide +kernel)) ggL_law_X5_guess
set_option maxRecDepth 20000 in
theorem ggL_law_X6_guess : GoodIn wsL_law wsX6_guess := goodIn_r _ [450, 93, 213, 214, 5, 215, 451, 452, 453, 454, 212, 373, 374, 375, 376, 79, 78, 422, 423, 424, 425, 88, 87, 230, 231, 232, 233, 91, 234, 235, 236, 237, 238, 239, 240, 89, 219, 220, 221, 241, 242, 243, 244, 245, 246, 247, 85, 84, 83, 248, 249, 250, 251, 90, 252, 253, 254, 255, 256, 257, 258, 259, 81, 82, 86, 260, 261, 262, 263, 264, 265, 266, 426, 427, 428, 429, 571, 572, 573, 574, 575, 576, 577, 578, 579, 580, 581, 582, 583, 584, 585, 586, 587, 588, 589, 590, 591, 592, 593, 594, 595] (by decide +kernel) (by decide +kernel)
set_option maxRecDepth 20000 in
theorem gL_law_X6_guess : GoodIn wsL_law (wsV RL 60 RX6 yX6_guess wsX6_guess) := goodIn_app (goodIn_of _ (by decide +kernel)) ggL_law_X6_guess
set_option maxRecDepth 20000 in
theorem ggL_law_X5_follow : GoodIn wsL_law wsX5_follow := goodIn_r _ [458, 23, 26, 15, 19, 435, 436, 437, 2, 438, 103, 112, 361, 362, 363, 38, 364, 43, 126, 439, 440, 441, 442, 434, 308, 309, 392, 393, 394, 395, 24, 64, 65, 66, 22, 67, 62, 166, 167, 168, 169, 170, 171, 63, 172, 173, 174, 175, 176, 177, 178, 179, 180, 181, 182, 183, 184, 185, 186, 187, 188, 189, 190, 191, 192, 193, 194, 195, 196, 197, 198, 199, 200, 201, 202, 203, 443, 444, 445, 446, 304, 407, 408, 409, 410, 323, 411, 412, 413, 414, 365, 366, 367, 368, 325, 113, 108, 109, 110, 111, 114, 204, 205, 206, 207, 564, 565, 566, 567, 568, 569, 570, 596, 597, 619, 620, 621, 622, 623, 624, 612, 613, 598, 599, 600, 601, 602, 603, 604, 605, 606, 607, 608, 609, 610, 611] (by decide +kernel) (by decide +kernel)
set_option maxRecDepth 20000 in
theorem gL_law_X5_follow : GoodIn wsL_law (wsV RL 61 RX5 yX5_follow wsX5_follow) := goodIn_app (goodIn_of _ (by decide +kernel)) ggL_law_X5_follow
set_option maxRecDepth 20000 in
theorem ggL_law_X6_follow : GoodIn wsL_law wsX6_follow := goodIn_r _ [462, 80, 93, 451, 452, 453, 5, 454, 212, 373, 374, 375, 376, 79, 78, 422, 423, 424, 425, 88, 87, 230, 231, 232, 233, 91, 234, 235, 236, 237, 238, 239, 240, 89, 219, 220, 221, 241, 242, 243, 244, 245, 246, 247, 85, 84, 83, 248, 249, 250, 251, 90, 252, 253, 254, 255, 256, 257, 258, 259, 81, 82, 86, 260, 261, 262, 263, 264, 265, 266, 222, 223, 224, 225, 92, 226, 227, 228, 229, 267, 268, 269, 270, 571, 572, 573, 574, 575, 576, 577, 578, 579, 580, 581, 582, 583, 584, 585, 586, 587, 588, 589, 590, 591, 592, 593, 594, 595] (by decide +kernel) (by decide +kernel)
set_option maxRecDepth 20000 in
theorem gL_law_X6_follow : GoodIn wsL_law (wsV RL 65 RX6 yX6_follow wsX6_follow) := goodIn_app (goodIn_of _ (by decide +kernel)) ggL_law_X6_follow
set_option maxRecDepth 20000 in
theorem ggL_law_X5_pocket : GoodIn wsL_law wsX5_pocket := goodIn_r _ [466, 28, 467, 468, 2, 469, 470, 471, 472, 30, 473, 474, 475, 476, 477, 478, 479, 71, 72, 73, 564, 565, 566, 567, 568, 569, 570, 614, 615, 616, 617, 618] (by decide +kernel) (by decide +kernel)
set_option maxRecDepth 20000 in
theorem gL_law_X5_pocket : GoodIn wsL_law (wsV RL 66 RX5 yX5_pocket wsX5_pocket) := goodIn_app (goodIn_of _ (by decide +kernel)) ggL_law_X5_pocket
set_option maxRecDepth 20000 in
theorem ggL_law_X6_pocket : GoodIn wsL_law wsX6_pocket := goodIn_r _ [483, 94, 95, 96, 484, 485, 5, 486, 213, 214, 215, 571, 572, 573, 574, 575, 576, 577, 578, 579, 580, 581, 582, 583, 584, 585, 586, 587, 588, 589, 590, 591, 592, 593, 594, 595] (by decide +kernel) (by decide +kernel)
set_option maxRecDepth 20000 in
theorem gL_law_X6_pocket : GoodIn wsL_law (wsV RL 70 RX6 yX6_pocket wsX6_pocket) := goodIn_app (goodIn_of _ (by decide +kernel)) ggL_law_X6_pocket
set_option maxRecDepth 20000 in
theorem ggL_law_X5_store : GoodIn wsL_law wsX5_store := goodIn_r _ [490, 28, 491, 23, 19, 339, 467, 468, 2, 469, 342, 343, 344, 345, 346, 492, 493, 494, 30, 495, 475, 349, 350, 351, 22, 352, 180, 189, 190, 191, 192, 62, 193, 496, 497, 498, 499, 474, 347, 195, 196, 197, 63, 198, 199, 500, 477, 478, 479, 71, 72, 73, 564, 565, 566, 567, 568, 569, 570, 614, 615, 616, 617, 618, 598, 599, 600, 601, 602, 603, 604, 605, 606, 607, 608, 609, 610, 611, 612, 613] (by decide +kernel) (by decide +kernel)
set_option maxRecDepth 20000 in
theorem gL_law_X5_store : GoodIn wsL_law (wsV RL 71 RX5 yX5_store wsX5_store) := goodIn_app (goodIn_of _ (by decide +kernel)) ggL_law_X5_store
set_option maxRecDepth 20000 in
theorem ggL_law_X6_store : GoodIn wsL_law wsX6_store := goodIn_r _ [504, 234, 94, 85, 95, 96, 81, 97, 83, 98, 226, 227, 228, 5, 229, 80, 230, 231, 232, 233, 91, 235, 236, 212, 237, 238, 239, 240, 78, 88, 89, 87, 219, 220, 221, 241, 242, 243, 244, 245, 246, 247, 84, 248, 249, 250, 251, 90, 252, 253, 254, 255, 256, 257, 258, 259, 82, 86, 260, 261, 262, 263, 264, 265, 266, 484, 485, 486, 213, 214, 215, 505, 506, 507, 571, 572, 573, 574, 575, 576, 577, 578, 579, 580, 581, 582, 583, 584, 585, 586, 587, 588, 589, 590, 591, 592, 593, 594, 595] (by decide +kernel) (by decide +kernel)
set_option maxRecDepth 20000 in
theorem gL_law_X6_store : GoodIn wsL_law (wsV RL 74 RX6 yX6_store wsX6_store) := goodIn_app (goodIn_of _ (by decide +kernel)) ggL_law_X6_store
set_option maxRecDepth 20000 in
theorem ggL_law_X5_copy : GoodIn wsL_law wsX5_copy := goodIn_r _ [511, 28, 491, 467, 468, 2, 469, 512, 513, 514, 30, 515, 474, 475, 71, 72, 73, 476, 477, 478, 479, 564, 565, 566, 567, 568, 569, 570, 614, 615, 616, 617, 618] (by decide +kernel) (by decide +kernel)
set_option maxRecDepth 20000 in
theorem gL_law_X5_copy : GoodIn wsL_law (wsV RL 75 RX5 yX5_copy wsX5_copy) := goodIn_app (goodIn_of _ (by decide +kernel)) ggL_law_X5_copy
set_option maxRecDepth 20000 in
theorem ggL_law_X6_copy : GoodIn wsL_law wsX6_copy := goodIn_r _ [519, 94, 95, 96, 97, 98, 484, 485, 5, 486, 213, 214, 215, 571, 572, 573, 574, 575, 576, 577, 578, 579, 580, 581, 582, 583, 584, 585, 586, 587, 588, 589, 590, 591, 592, 593, 594, 595] (by decide +kernel) (by decide +kernel)
set_option maxRecDepth 20000 in
theorem gL_law_X6_copy : GoodIn wsL_law (wsV RL 78 RX6 yX6_copy wsX6_copy) := goodIn_app (goodIn_of _ (by decide +kernel)) ggL_law_X6_copy
set_option maxRecDepth 20000 in
theorem ggL_law_X5_ofPocket : GoodIn wsL_law wsX5_ofPocket := goodIn_r _ [523, 28, 491, 467, 468, 2, 469, 492, 493, 494, 30, 495, 475, 524, 525, 526, 527, 71, 72, 73, 564, 565, 566, 567, 568, 569, 570, 614, 615, 616, 617, 618] (by decide +kernel) (by decide +kernel)
set_option maxRecDepth 20000 in
theorem gL_law_X5_ofPocket : GoodIn wsL_law (wsV RL 79 RX5 yX5_ofPocket wsX5_ofPocket) := goodIn_app (goodIn_of _ (by decide +kernel)) ggL_law_X5_ofPocket
set_option maxRecDepth 20000 in
theorem ggL_law_X6_ofPocket : GoodIn wsL_law wsX6_ofPocket := goodIn_r _ [531, 94, 96, 97, 98, 484, 485, 5, 486, 213, 214, 215, 571, 572, 573, 574, 575, 576, 577, 578, 579, 580, 581, 582, 583, 584, 585, 586, 587, 588, 589, 590, 591, 592, 593, 594, 595] (by decide +kernel) (by decide +kernel)
set_option maxRecDepth 20000 in
theorem gL_law_X6_ofPocket : GoodIn wsL_law (wsV RL 82 RX6 yX6_ofPocket wsX6_ofPocket) := goodIn_app (goodIn_of _ (by decide +kernel)) ggL_law_X6_ofPocket
set_option maxRecDepth 20000 in
theorem ggL_law_X5_many : GoodIn wsL_law wsX5_many := goodIn_r _ [535, 15, 103, 19, 346, 536, 537, 538, 18, 539, 139, 57, 540, 541, 542, 2, 543, 324, 544, 545, 546, 547, 112, 325, 548, 549, 550, 551, 322, 564, 565, 566, 567, 568, 569, 570, 596, 597, 598, 599, 600, 601, 602, 603, 604, 605, 606, 607, 608, 609, 610, 611, 619, 620, 621, 622, 623, 624] (by decide +kernel) (by decide +kernel)
set_option maxRecDepth 20000 in
theorem gL_law_X5_many : GoodIn wsL_law (wsV RL 83 RX5 yX5_many wsX5_many) := goodIn_app (goodIn_of _ (by decide +kernel)) ggL_law_X5_many
set_option maxRecDepth 20000 in
theorem ggL_law_X6_many : GoodIn wsL_law wsX6_many := goodIn_r _ [555, 212, 234, 226, 227, 228, 5, 229, 80, 230, 231, 232, 233, 91, 235, 236, 237, 238, 239, 240, 78, 88, 89, 87, 219, 220, 221, 241, 242, 243, 244, 245, 246, 247, 85, 84, 83, 248, 249, 250, 251, 90, 252, 253, 254, 255, 256, 257, 258, 259, 81, 82, 86, 260, 261, 262, 263, 264, 265, 266, 556, 557, 558, 559, 560, 561, 562, 563, 79, 571, 572, 573, 574, 575, 576, 577, 578, 579, 580, 581, 582, 583, 584, 585, 586, 587, 588, 589, 590, 591, 592, 593, 594, 595] (by decide +kernel) (by decide +kernel)
set_option maxRecDepth 20000 in
theorem gL_law_X6_many : GoodIn wsL_law (wsV RL 86 RX6 yX6_many wsX6_many) := goodIn_app (goodIn_of _ (by decide +kernel)) ggL_law_X6_many
end
section
theorem dL_law_0 : decode cL_law 0 = .ok (.new 7, 3) := by decide +kernel
theorem dL_law_3 : decode cL_law 3 = .ok (.dup, 1) := by decide +kernel
theorem dL_law_4 : decode cL_law 4 = .ok (.invokespecial 9, 3) := by decide +kernel
theorem dL_law_7 : decode cL_law 7 = .ok (.astore_n 1, 1) := by decide +kernel
theorem dL_law_8 : decode cL_law 8 = .ok (.new 10, 3) := by decide +kernel
theorem dL_law_11 : decode cL_law 11 = .ok (.dup, 1) := by decide +kernel
theorem dL_law_12 : decode cL_law 12 = .ok (.invokespecial 12, 3) := by decide +kernel
theorem dL_law_15 : decode cL_law 15 = .ok (.astore_n 2, 1) := by decide +kernel
theorem dL_law_16 : decode cL_law 16 = .ok (.iconst 0, 1) := by decide +kernel
theorem dL_law_17 : decode cL_law 17 = .ok (.istore_n 3, 1) := by decide +kernel
theorem dL_law_18 : decode cL_law 18 = .ok (.iload_n 3, 1) := by decide +kernel
theorem dL_law_19 : decode cL_law 19 = .ok (.aload_n 0, 1) := by decide +kernel
theorem dL_law_20 : decode cL_law 20 = .ok (.arraylength, 1) := by decide +kernel
theorem dL_law_21 : decode cL_law 21 = .ok (.bipush 6, 2) := by decide +kernel
theorem dL_law_23 : decode cL_law 23 = .ok (.isub, 1) := by decide +kernel
theorem dL_law_24 : decode cL_law 24 = .ok (.if_icmp .gt 679, 3) := by decide +kernel
theorem dL_law_27 : decode cL_law 27 = .ok (.aload_n 0, 1) := by decide +kernel
theorem dL_law_28 : decode cL_law 28 = .ok (.iload_n 3, 1) := by decide +kernel
theorem dL_law_29 : decode cL_law 29 = .ok (.iaload, 1) := by decide +kernel
theorem dL_law_30 : decode cL_law 30 = .ok (.bipush 31, 2) := by decide +kernel
theorem dL_law_32 : decode cL_law 32 = .ok (.iand, 1) := by decide +kernel
theorem dL_law_33 : decode cL_law 33 = .ok (.tableswitch 664 0 16 #[83, 116, 149, 172, 205, 238, 271, 294, 327, 380, 443, 466, 479, 522, 565, 598, 641], 83) := by decide +kernel
theorem dL_law_116 : decode cL_law 116 = .ok (.aload_n 1, 1) := by decide +kernel
theorem dL_law_117 : decode cL_law 117 = .ok (.aload_n 0, 1) := by decide +kernel
theorem dL_law_118 : decode cL_law 118 = .ok (.iload_n 3, 1) := by decide +kernel
theorem dL_law_119 : decode cL_law 119 = .ok (.iconst 1, 1) := by decide +kernel
theorem dL_law_120 : decode cL_law 120 = .ok (.iadd, 1) := by decide +kernel
theorem dL_law_121 : decode cL_law 121 = .ok (.iaload, 1) := by decide +kernel
theorem dL_law_122 : decode cL_law 122 = .ok (.aload_n 0, 1) := by decide +kernel
theorem dL_law_123 : decode cL_law 123 = .ok (.iload_n 3, 1) := by decide +kernel
theorem dL_law_124 : decode cL_law 124 = .ok (.iconst 2, 1) := by decide +kernel
theorem dL_law_125 : decode cL_law 125 = .ok (.iadd, 1) := by decide +kernel
theorem dL_law_126 : decode cL_law 126 = .ok (.iaload, 1) := by decide +kernel
theorem dL_law_127 : decode cL_law 127 = .ok (.invokevirtual 13, 3) := by decide +kernel
theorem dL_law_130 : decode cL_law 130 = .ok (.aload_n 2, 1) := by decide +kernel
theorem dL_law_131 : decode cL_law 131 = .ok (.aload_n 0, 1) := by decide +kernel
theorem dL_law_132 : decode cL_law 132 = .ok (.iload_n 3, 1) := by decide +kernel
theorem dL_law_133 : decode cL_law 133 = .ok (.iconst 1, 1) := by decide +kernel
theorem dL_law_134 : decode cL_law 134 = .ok (.iadd, 1) := by decide +kernel
theorem dL_law_135 : decode cL_law 135 = .ok (.iaload, 1) := by decide +kernel
theorem dL_law_136 : decode cL_law 136 = .ok (.aload_n 0, 1) := by decide +kernel
theorem dL_law_137 : decode cL_law 137 = .ok (.iload_n 3, 1) := by decide +kernel
theorem dL_law_138 : decode cL_law 138 = .ok (.iconst 2, 1) := by decide +kernel
theorem dL_law_139 : decode cL_law 139 = .ok (.iadd, 1) := by decide +kernel
theorem dL_law_140 : decode cL_law 140 = .ok (.iaload, 1) := by decide +kernel
theorem dL_law_141 : decode cL_law 141 = .ok (.invokevirtual 17, 3) := by decide +kernel
theorem dL_law_144 : decode cL_law 144 = .ok (.if_icmp .eq 553, 3) := by decide +kernel
theorem dL_law_147 : decode cL_law 147 = .ok (.iconst 0, 1) := by decide +kernel
theorem dL_law_148 : decode cL_law 148 = .ok (.ireturn, 1) := by decide +kernel
theorem dL_law_149 : decode cL_law 149 = .ok (.aload_n 1, 1) := by decide +kernel
theorem dL_law_150 : decode cL_law 150 = .ok (.aload_n 0, 1) := by decide +kernel
theorem dL_law_151 : decode cL_law 151 = .ok (.iload_n 3, 1) := by decide +kernel
theorem dL_law_152 : decode cL_law 152 = .ok (.iconst 1, 1) := by decide +kernel
theorem dL_law_153 : decode cL_law 153 = .ok (.iadd, 1) := by decide +kernel
theorem dL_law_154 : decode cL_law 154 = .ok (.iaload, 1) := by decide +kernel
theorem dL_law_155 : decode cL_law 155 = .ok (.aload_n 0, 1) := by decide +kernel
theorem dL_law_156 : decode cL_law 156 = .ok (.iload_n 3, 1) := by decide +kernel
theorem dL_law_157 : decode cL_law 157 = .ok (.iconst 2, 1) := by decide +kernel
theorem dL_law_158 : decode cL_law 158 = .ok (.iadd, 1) := by decide +kernel
theorem dL_law_159 : decode cL_law 159 = .ok (.iaload, 1) := by decide +kernel
theorem dL_law_160 : decode cL_law 160 = .ok (.invokevirtual 18, 3) := by decide +kernel
theorem dL_law_163 : decode cL_law 163 = .ok (.aload_n 2, 1) := by decide +kernel
theorem dL_law_164 : decode cL_law 164 = .ok (.aload_n 0, 1) := by decide +kernel
theorem dL_law_165 : decode cL_law 165 = .ok (.iload_n 3, 1) := by decide +kernel
theorem dL_law_166 : decode cL_law 166 = .ok (.iconst 1, 1) := by decide +kernel
theorem dL_law_167 : decode cL_law 167 = .ok (.iadd, 1) := by decide +kernel
theorem dL_law_168 : decode cL_law 168 = .ok (.iaload, 1) := by decide +kernel
theorem dL_law_169 : decode cL_law 169 = .ok (.aload_n 0, 1) := by decide +kernel
theorem dL_law_170 : decode cL_law 170 = .ok (.iload_n 3, 1) := by decide +kernel
theorem dL_law_171 : decode cL_law 171 = .ok (.iconst 2, 1) := by decide +kernel
theorem dL_law_172 : decode cL_law 172 = .ok (.iadd, 1) := by decide +kernel
theorem dL_law_173 : decode cL_law 173 = .ok (.iaload, 1) := by decide +kernel
theorem dL_law_174 : decode cL_law 174 = .ok (.invokevirtual 21, 3) := by decide +kernel
theorem dL_law_177 : decode cL_law 177 = .ok (.if_icmp .eq 520, 3) := by decide +kernel
theorem dL_law_180 : decode cL_law 180 = .ok (.iconst 0, 1) := by decide +kernel
theorem dL_law_181 : decode cL_law 181 = .ok (.ireturn, 1) := by decide +kernel
theorem dL_law_182 : decode cL_law 182 = .ok (.aload_n 1, 1) := by decide +kernel
theorem dL_law_183 : decode cL_law 183 = .ok (.aload_n 0, 1) := by decide +kernel
theorem dL_law_184 : decode cL_law 184 = .ok (.iload_n 3, 1) := by decide +kernel
theorem dL_law_185 : decode cL_law 185 = .ok (.iconst 1, 1) := by decide +kernel
theorem dL_law_186 : decode cL_law 186 = .ok (.iadd, 1) := by decide +kernel
theorem dL_law_187 : decode cL_law 187 = .ok (.iaload, 1) := by decide +kernel
theorem dL_law_188 : decode cL_law 188 = .ok (.invokevirtual 22, 3) := by decide +kernel
theorem dL_law_191 : decode cL_law 191 = .ok (.aload_n 2, 1) := by decide +kernel
theorem dL_law_192 : decode cL_law 192 = .ok (.aload_n 0, 1) := by decide +kernel
theorem dL_law_193 : decode cL_law 193 = .ok (.iload_n 3, 1) := by decide +kernel
theorem dL_law_194 : decode cL_law 194 = .ok (.iconst 1, 1) := by decide +kernel
theorem dL_law_195 : decode cL_law 195 = .ok (.iadd, 1) := by decide +kernel
theorem dL_law_196 : decode cL_law 196 = .ok (.iaload, 1) := by decide +kernel
theorem dL_law_197 : decode cL_law 197 = .ok (.invokevirtual 26, 3) := by decide +kernel
theorem dL_law_200 : decode cL_law 200 = .ok (.if_icmp .eq 497, 3) := by decide +kernel
theorem dL_law_203 : decode cL_law 203 = .ok (.iconst 0, 1) := by decide +kernel
theorem dL_law_204 : decode cL_law 204 = .ok (.ireturn, 1) := by decide +kernel
theorem dL_law_205 : decode cL_law 205 = .ok (.aload_n 1, 1) := by decide +kernel
theorem dL_law_206 : decode cL_law 206 = .ok (.aload_n 0, 1) := by decide +kernel
theorem dL_law_207 : decode cL_law 207 = .ok (.iload_n 3, 1) := by decide +kernel
theorem dL_law_208 : decode cL_law 208 = .ok (.iconst 1, 1) := by decide +kernel
theorem dL_law_209 : decode cL_law 209 = .ok (.iadd, 1) := by decide +kernel
theorem dL_law_210 : decode cL_law 210 = .ok (.iaload, 1) := by decide +kernel
theorem dL_law_211 : decode cL_law 211 = .ok (.aload_n 0, 1) := by decide +kernel
theorem dL_law_212 : decode cL_law 212 = .ok (.iload_n 3, 1) := by decide +kernel
theorem dL_law_213 : decode cL_law 213 = .ok (.iconst 2, 1) := by decide +kernel
theorem dL_law_214 : decode cL_law 214 = .ok (.iadd, 1) := by decide +kernel
theorem dL_law_215 : decode cL_law 215 = .ok (.iaload, 1) := by decide +kernel
theorem dL_law_216 : decode cL_law 216 = .ok (.invokevirtual 27, 3) := by decide +kernel
theorem dL_law_219 : decode cL_law 219 = .ok (.aload_n 2, 1) := by decide +kernel
theorem dL_law_220 : decode cL_law 220 = .ok (.aload_n 0, 1) := by decide +kernel
theorem dL_law_221 : decode cL_law 221 = .ok (.iload_n 3, 1) := by decide +kernel
theorem dL_law_222 : decode cL_law 222 = .ok (.iconst 1, 1) := by decide +kernel
theorem dL_law_223 : decode cL_law 223 = .ok (.iadd, 1) := by decide +kernel
theorem dL_law_224 : decode cL_law 224 = .ok (.iaload, 1) := by decide +kernel
theorem dL_law_225 : decode cL_law 225 = .ok (.aload_n 0, 1) := by decide +kernel
theorem dL_law_226 : decode cL_law 226 = .ok (.iload_n 3, 1) := by decide +kernel
theorem dL_law_227 : decode cL_law 227 = .ok (.iconst 2, 1) := by decide +kernel
theorem dL_law_228 : decode cL_law 228 = .ok (.iadd, 1) := by decide +kernel
theorem dL_law_229 : decode cL_law 229 = .ok (.iaload, 1) := by decide +kernel
theorem dL_law_230 : decode cL_law 230 = .ok (.invokevirtual 30, 3) := by decide +kernel
theorem dL_law_233 : decode cL_law 233 = .ok (.if_icmp .eq 464, 3) := by decide +kernel
theorem dL_law_236 : decode cL_law 236 = .ok (.iconst 0, 1) := by decide +kernel
theorem dL_law_237 : decode cL_law 237 = .ok (.ireturn, 1) := by decide +kernel
theorem dL_law_238 : decode cL_law 238 = .ok (.aload_n 1, 1) := by decide +kernel
theorem dL_law_239 : decode cL_law 239 = .ok (.aload_n 0, 1) := by decide +kernel
theorem dL_law_240 : decode cL_law 240 = .ok (.iload_n 3, 1) := by decide +kernel
theorem dL_law_241 : decode cL_law 241 = .ok (.iconst 1, 1) := by decide +kernel
theorem dL_law_242 : decode cL_law 242 = .ok (.iadd, 1) := by decide +kernel
theorem dL_law_243 : decode cL_law 243 = .ok (.iaload, 1) := by decide +kernel
theorem dL_law_244 : decode cL_law 244 = .ok (.aload_n 0, 1) := by decide +kernel
theorem dL_law_245 : decode cL_law 245 = .ok (.iload_n 3, 1) := by decide +kernel
theorem dL_law_246 : decode cL_law 246 = .ok (.iconst 2, 1) := by decide +kernel
theorem dL_law_247 : decode cL_law 247 = .ok (.iadd, 1) := by decide +kernel
theorem dL_law_248 : decode cL_law 248 = .ok (.iaload, 1) := by decide +kernel
theorem dL_law_249 : decode cL_law 249 = .ok (.invokevirtual 31, 3) := by decide +kernel
theorem dL_law_252 : decode cL_law 252 = .ok (.aload_n 2, 1) := by decide +kernel
theorem dL_law_253 : decode cL_law 253 = .ok (.aload_n 0, 1) := by decide +kernel
theorem dL_law_254 : decode cL_law 254 = .ok (.iload_n 3, 1) := by decide +kernel
theorem dL_law_255 : decode cL_law 255 = .ok (.iconst 1, 1) := by decide +kernel
theorem dL_law_256 : decode cL_law 256 = .ok (.iadd, 1) := by decide +kernel
theorem dL_law_257 : decode cL_law 257 = .ok (.iaload, 1) := by decide +kernel
theorem dL_law_258 : decode cL_law 258 = .ok (.aload_n 0, 1) := by decide +kernel
theorem dL_law_259 : decode cL_law 259 = .ok (.iload_n 3, 1) := by decide +kernel
theorem dL_law_260 : decode cL_law 260 = .ok (.iconst 2, 1) := by decide +kernel
theorem dL_law_261 : decode cL_law 261 = .ok (.iadd, 1) := by decide +kernel
theorem dL_law_262 : decode cL_law 262 = .ok (.iaload, 1) := by decide +kernel
theorem dL_law_263 : decode cL_law 263 = .ok (.invokevirtual 34, 3) := by decide +kernel
theorem dL_law_266 : decode cL_law 266 = .ok (.if_icmp .eq 431, 3) := by decide +kernel
theorem dL_law_269 : decode cL_law 269 = .ok (.iconst 0, 1) := by decide +kernel
theorem dL_law_270 : decode cL_law 270 = .ok (.ireturn, 1) := by decide +kernel
theorem dL_law_271 : decode cL_law 271 = .ok (.aload_n 1, 1) := by decide +kernel
theorem dL_law_272 : decode cL_law 272 = .ok (.aload_n 0, 1) := by decide +kernel
theorem dL_law_273 : decode cL_law 273 = .ok (.iload_n 3, 1) := by decide +kernel
theorem dL_law_274 : decode cL_law 274 = .ok (.iconst 1, 1) := by decide +kernel
theorem dL_law_275 : decode cL_law 275 = .ok (.iadd, 1) := by decide +kernel
theorem dL_law_276 : decode cL_law 276 = .ok (.iaload, 1) := by decide +kernel
theorem dL_law_277 : decode cL_law 277 = .ok (.aload_n 0, 1) := by decide +kernel
theorem dL_law_278 : decode cL_law 278 = .ok (.iload_n 3, 1) := by decide +kernel
theorem dL_law_279 : decode cL_law 279 = .ok (.iconst 2, 1) := by decide +kernel
theorem dL_law_280 : decode cL_law 280 = .ok (.iadd, 1) := by decide +kernel
theorem dL_law_281 : decode cL_law 281 = .ok (.iaload, 1) := by decide +kernel
theorem dL_law_282 : decode cL_law 282 = .ok (.invokevirtual 35, 3) := by decide +kernel
theorem dL_law_285 : decode cL_law 285 = .ok (.aload_n 2, 1) := by decide +kernel
theorem dL_law_286 : decode cL_law 286 = .ok (.aload_n 0, 1) := by decide +kernel
theorem dL_law_287 : decode cL_law 287 = .ok (.iload_n 3, 1) := by decide +kernel
theorem dL_law_288 : decode cL_law 288 = .ok (.iconst 1, 1) := by decide +kernel
theorem dL_law_289 : decode cL_law 289 = .ok (.iadd, 1) := by decide +kernel
theorem dL_law_290 : decode cL_law 290 = .ok (.iaload, 1) := by decide +kernel
theorem dL_law_291 : decode cL_law 291 = .ok (.aload_n 0, 1) := by decide +kernel
theorem dL_law_292 : decode cL_law 292 = .ok (.iload_n 3, 1) := by decide +kernel
theorem dL_law_293 : decode cL_law 293 = .ok (.iconst 2, 1) := by decide +kernel
theorem dL_law_294 : decode cL_law 294 = .ok (.iadd, 1) := by decide +kernel
theorem dL_law_295 : decode cL_law 295 = .ok (.iaload, 1) := by decide +kernel
theorem dL_law_296 : decode cL_law 296 = .ok (.invokevirtual 38, 3) := by decide +kernel
theorem dL_law_299 : decode cL_law 299 = .ok (.if_icmp .eq 398, 3) := by decide +kernel
theorem dL_law_302 : decode cL_law 302 = .ok (.iconst 0, 1) := by decide +kernel
theorem dL_law_303 : decode cL_law 303 = .ok (.ireturn, 1) := by decide +kernel
theorem dL_law_304 : decode cL_law 304 = .ok (.aload_n 1, 1) := by decide +kernel
theorem dL_law_305 : decode cL_law 305 = .ok (.aload_n 0, 1) := by decide +kernel
theorem dL_law_306 : decode cL_law 306 = .ok (.iload_n 3, 1) := by decide +kernel
theorem dL_law_307 : decode cL_law 307 = .ok (.iconst 1, 1) := by decide +kernel
theorem dL_law_308 : decode cL_law 308 = .ok (.iadd, 1) := by decide +kernel
theorem dL_law_309 : decode cL_law 309 = .ok (.iaload, 1) := by decide +kernel
theorem dL_law_310 : decode cL_law 310 = .ok (.invokevirtual 39, 3) := by decide +kernel
theorem dL_law_313 : decode cL_law 313 = .ok (.aload_n 2, 1) := by decide +kernel
theorem dL_law_314 : decode cL_law 314 = .ok (.aload_n 0, 1) := by decide +kernel
theorem dL_law_315 : decode cL_law 315 = .ok (.iload_n 3, 1) := by decide +kernel
theorem dL_law_316 : decode cL_law 316 = .ok (.iconst 1, 1) := by decide +kernel
theorem dL_law_317 : decode cL_law 317 = .ok (.iadd, 1) := by decide +kernel
theorem dL_law_318 : decode cL_law 318 = .ok (.iaload, 1) := by decide +kernel
theorem dL_law_319 : decode cL_law 319 = .ok (.invokevirtual 42, 3) := by decide +kernel
theorem dL_law_322 : decode cL_law 322 = .ok (.if_icmp .eq 375, 3) := by decide +kernel
theorem dL_law_325 : decode cL_law 325 = .ok (.iconst 0, 1) := by decide +kernel
theorem dL_law_326 : decode cL_law 326 = .ok (.ireturn, 1) := by decide +kernel
theorem dL_law_327 : decode cL_law 327 = .ok (.aload_n 1, 1) := by decide +kernel
theorem dL_law_328 : decode cL_law 328 = .ok (.aload_n 0, 1) := by decide +kernel
theorem dL_law_329 : decode cL_law 329 = .ok (.iload_n 3, 1) := by decide +kernel
theorem dL_law_330 : decode cL_law 330 = .ok (.iconst 1, 1) := by decide +kernel
theorem dL_law_331 : decode cL_law 331 = .ok (.iadd, 1) := by decide +kernel
theorem dL_law_332 : decode cL_law 332 = .ok (.iaload, 1) := by decide +kernel
theorem dL_law_333 : decode cL_law 333 = .ok (.aload_n 0, 1) := by decide +kernel
theorem dL_law_334 : decode cL_law 334 = .ok (.iload_n 3, 1) := by decide +kernel
theorem dL_law_335 : decode cL_law 335 = .ok (.iconst 2, 1) := by decide +kernel
theorem dL_law_336 : decode cL_law 336 = .ok (.iadd, 1) := by decide +kernel
theorem dL_law_337 : decode cL_law 337 = .ok (.iaload, 1) := by decide +kernel
theorem dL_law_338 : decode cL_law 338 = .ok (.invokevirtual 43, 3) := by decide +kernel
theorem dL_law_341 : decode cL_law 341 = .ok (.aload_n 2, 1) := by decide +kernel
theorem dL_law_342 : decode cL_law 342 = .ok (.aload_n 0, 1) := by decide +kernel
theorem dL_law_343 : decode cL_law 343 = .ok (.iload_n 3, 1) := by decide +kernel
theorem dL_law_344 : decode cL_law 344 = .ok (.iconst 1, 1) := by decide +kernel
theorem dL_law_345 : decode cL_law 345 = .ok (.iadd, 1) := by decide +kernel
theorem dL_law_346 : decode cL_law 346 = .ok (.iaload, 1) := by decide +kernel
theorem dL_law_347 : decode cL_law 347 = .ok (.aload_n 0, 1) := by decide +kernel
theorem dL_law_348 : decode cL_law 348 = .ok (.iload_n 3, 1) := by decide +kernel
theorem dL_law_349 : decode cL_law 349 = .ok (.iconst 2, 1) := by decide +kernel
theorem dL_law_350 : decode cL_law 350 = .ok (.iadd, 1) := by decide +kernel
theorem dL_law_351 : decode cL_law 351 = .ok (.iaload, 1) := by decide +kernel
theorem dL_law_352 : decode cL_law 352 = .ok (.invokevirtual 46, 3) := by decide +kernel
theorem dL_law_355 : decode cL_law 355 = .ok (.if_icmp .eq 342, 3) := by decide +kernel
theorem dL_law_358 : decode cL_law 358 = .ok (.iconst 0, 1) := by decide +kernel
theorem dL_law_359 : decode cL_law 359 = .ok (.ireturn, 1) := by decide +kernel
theorem dL_law_360 : decode cL_law 360 = .ok (.aload_n 1, 1) := by decide +kernel
theorem dL_law_361 : decode cL_law 361 = .ok (.aload_n 0, 1) := by decide +kernel
theorem dL_law_362 : decode cL_law 362 = .ok (.iload_n 3, 1) := by decide +kernel
theorem dL_law_363 : decode cL_law 363 = .ok (.iconst 1, 1) := by decide +kernel
theorem dL_law_364 : decode cL_law 364 = .ok (.iadd, 1) := by decide +kernel
theorem dL_law_365 : decode cL_law 365 = .ok (.iaload, 1) := by decide +kernel
theorem dL_law_366 : decode cL_law 366 = .ok (.aload_n 0, 1) := by decide +kernel
theorem dL_law_367 : decode cL_law 367 = .ok (.iload_n 3, 1) := by decide +kernel
theorem dL_law_368 : decode cL_law 368 = .ok (.iconst 2, 1) := by decide +kernel
theorem dL_law_369 : decode cL_law 369 = .ok (.iadd, 1) := by decide +kernel
theorem dL_law_370 : decode cL_law 370 = .ok (.iaload, 1) := by decide +kernel
theorem dL_law_371 : decode cL_law 371 = .ok (.aload_n 0, 1) := by decide +kernel
theorem dL_law_372 : decode cL_law 372 = .ok (.iload_n 3, 1) := by decide +kernel
theorem dL_law_373 : decode cL_law 373 = .ok (.iconst 3, 1) := by decide +kernel
theorem dL_law_374 : decode cL_law 374 = .ok (.iadd, 1) := by decide +kernel
theorem dL_law_375 : decode cL_law 375 = .ok (.iaload, 1) := by decide +kernel
theorem dL_law_376 : decode cL_law 376 = .ok (.aload_n 0, 1) := by decide +kernel
theorem dL_law_377 : decode cL_law 377 = .ok (.iload_n 3, 1) := by decide +kernel
theorem dL_law_378 : decode cL_law 378 = .ok (.iconst 4, 1) := by decide +kernel
theorem dL_law_379 : decode cL_law 379 = .ok (.iadd, 1) := by decide +kernel
theorem dL_law_380 : decode cL_law 380 = .ok (.iaload, 1) := by decide +kernel
theorem dL_law_381 : decode cL_law 381 = .ok (.invokevirtual 47, 3) := by decide +kernel
theorem dL_law_384 : decode cL_law 384 = .ok (.aload_n 2, 1) := by decide +kernel
theorem dL_law_385 : decode cL_law 385 = .ok (.aload_n 0, 1) := by decide +kernel
theorem dL_law_386 : decode cL_law 386 = .ok (.iload_n 3, 1) := by decide +kernel
theorem dL_law_387 : decode cL_law 387 = .ok (.iconst 1, 1) := by decide +kernel
theorem dL_law_388 : decode cL_law 388 = .ok (.iadd, 1) := by decide +kernel
theorem dL_law_389 : decode cL_law 389 = .ok (.iaload, 1) := by decide +kernel
theorem dL_law_390 : decode cL_law 390 = .ok (.aload_n 0, 1) := by decide +kernel
theorem dL_law_391 : decode cL_law 391 = .ok (.iload_n 3, 1) := by decide +kernel
theorem dL_law_392 : decode cL_law 392 = .ok (.iconst 2, 1) := by decide +kernel
theorem dL_law_393 : decode cL_law 393 = .ok (.iadd, 1) := by decide +kernel
theorem dL_law_394 : decode cL_law 394 = .ok (.iaload, 1) := by decide +kernel
theorem dL_law_395 : decode cL_law 395 = .ok (.aload_n 0, 1) := by decide +kernel
theorem dL_law_396 : decode cL_law 396 = .ok (.iload_n 3, 1) := by decide +kernel
theorem dL_law_397 : decode cL_law 397 = .ok (.iconst 3, 1) := by decide +kernel
theorem dL_law_398 : decode cL_law 398 = .ok (.iadd, 1) := by decide +kernel
theorem dL_law_399 : decode cL_law 399 = .ok (.iaload, 1) := by decide +kernel
theorem dL_law_400 : decode cL_law 400 = .ok (.aload_n 0, 1) := by decide +kernel
theorem dL_law_401 : decode cL_law 401 = .ok (.iload_n 3, 1) := by decide +kernel
theorem dL_law_402 : decode cL_law 402 = .ok (.iconst 4, 1) := by decide +kernel
theorem dL_law_403 : decode cL_law 403 = .ok (.iadd, 1) := by decide +kernel
theorem dL_law_404 : decode cL_law 404 = .ok (.iaload, 1) := by decide +kernel
theorem dL_law_405 : decode cL_law 405 = .ok (.invokevirtual 51, 3) := by decide +kernel
theorem dL_law_408 : decode cL_law 408 = .ok (.if_icmp .eq 289, 3) := by decide +kernel
theorem dL_law_411 : decode cL_law 411 = .ok (.iconst 0, 1) := by decide +kernel
theorem dL_law_412 : decode cL_law 412 = .ok (.ireturn, 1) := by decide +kernel
theorem dL_law_413 : decode cL_law 413 = .ok (.aload_n 1, 1) := by decide +kernel
theorem dL_law_414 : decode cL_law 414 = .ok (.aload_n 0, 1) := by decide +kernel
theorem dL_law_415 : decode cL_law 415 = .ok (.iload_n 3, 1) := by decide +kernel
theorem dL_law_416 : decode cL_law 416 = .ok (.iconst 1, 1) := by decide +kernel
theorem dL_law_417 : decode cL_law 417 = .ok (.iadd, 1) := by decide +kernel
theorem dL_law_418 : decode cL_law 418 = .ok (.iaload, 1) := by decide +kernel
theorem dL_law_419 : decode cL_law 419 = .ok (.aload_n 0, 1) := by decide +kernel
theorem dL_law_420 : decode cL_law 420 = .ok (.iload_n 3, 1) := by decide +kernel
theorem dL_law_421 : decode cL_law 421 = .ok (.iconst 2, 1) := by decide +kernel
theorem dL_law_422 : decode cL_law 422 = .ok (.iadd, 1) := by decide +kernel
theorem dL_law_423 : decode cL_law 423 = .ok (.iaload, 1) := by decide +kernel
theorem dL_law_424 : decode cL_law 424 = .ok (.aload_n 0, 1) := by decide +kernel
theorem dL_law_425 : decode cL_law 425 = .ok (.iload_n 3, 1) := by decide +kernel
theorem dL_law_426 : decode cL_law 426 = .ok (.iconst 3, 1) := by decide +kernel
theorem dL_law_427 : decode cL_law 427 = .ok (.iadd, 1) := by decide +kernel
theorem dL_law_428 : decode cL_law 428 = .ok (.iaload, 1) := by decide +kernel
theorem dL_law_429 : decode cL_law 429 = .ok (.aload_n 0, 1) := by decide +kernel
theorem dL_law_430 : decode cL_law 430 = .ok (.iload_n 3, 1) := by decide +kernel
theorem dL_law_431 : decode cL_law 431 = .ok (.iconst 4, 1) := by decide +kernel
theorem dL_law_432 : decode cL_law 432 = .ok (.iadd, 1) := by decide +kernel
theorem dL_law_433 : decode cL_law 433 = .ok (.iaload, 1) := by decide +kernel
theorem dL_law_434 : decode cL_law 434 = .ok (.aload_n 0, 1) := by decide +kernel
theorem dL_law_435 : decode cL_law 435 = .ok (.iload_n 3, 1) := by decide +kernel
theorem dL_law_436 : decode cL_law 436 = .ok (.iconst 5, 1) := by decide +kernel
theorem dL_law_437 : decode cL_law 437 = .ok (.iadd, 1) := by decide +kernel
theorem dL_law_438 : decode cL_law 438 = .ok (.iaload, 1) := by decide +kernel
theorem dL_law_439 : decode cL_law 439 = .ok (.invokevirtual 52, 3) := by decide +kernel
theorem dL_law_442 : decode cL_law 442 = .ok (.aload_n 2, 1) := by decide +kernel
theorem dL_law_443 : decode cL_law 443 = .ok (.aload_n 0, 1) := by decide +kernel
theorem dL_law_444 : decode cL_law 444 = .ok (.iload_n 3, 1) := by decide +kernel
theorem dL_law_445 : decode cL_law 445 = .ok (.iconst 1, 1) := by decide +kernel
theorem dL_law_446 : decode cL_law 446 = .ok (.iadd, 1) := by decide +kernel
theorem dL_law_447 : decode cL_law 447 = .ok (.iaload, 1) := by decide +kernel
theorem dL_law_448 : decode cL_law 448 = .ok (.aload_n 0, 1) := by decide +kernel
theorem dL_law_449 : decode cL_law 449 = .ok (.iload_n 3, 1) := by decide +kernel
theorem dL_law_450 : decode cL_law 450 = .ok (.iconst 2, 1) := by decide +kernel
theorem dL_law_451 : decode cL_law 451 = .ok (.iadd, 1) := by decide +kernel
theorem dL_law_452 : decode cL_law 452 = .ok (.iaload, 1) := by decide +kernel
theorem dL_law_453 : decode cL_law 453 = .ok (.aload_n 0, 1) := by decide +kernel
theorem dL_law_454 : decode cL_law 454 = .ok (.iload_n 3, 1) := by decide +kernel
theorem dL_law_455 : decode cL_law 455 = .ok (.iconst 3, 1) := by decide +kernel
theorem dL_law_456 : decode cL_law 456 = .ok (.iadd, 1) := by decide +kernel
theorem dL_law_457 : decode cL_law 457 = .ok (.iaload, 1) := by decide +kernel
theorem dL_law_458 : decode cL_law 458 = .ok (.aload_n 0, 1) := by decide +kernel
theorem dL_law_459 : decode cL_law 459 = .ok (.iload_n 3, 1) := by decide +kernel
theorem dL_law_460 : decode cL_law 460 = .ok (.iconst 4, 1) := by decide +kernel
theorem dL_law_461 : decode cL_law 461 = .ok (.iadd, 1) := by decide +kernel
theorem dL_law_462 : decode cL_law 462 = .ok (.iaload, 1) := by decide +kernel
theorem dL_law_463 : decode cL_law 463 = .ok (.aload_n 0, 1) := by decide +kernel
theorem dL_law_464 : decode cL_law 464 = .ok (.iload_n 3, 1) := by decide +kernel
theorem dL_law_465 : decode cL_law 465 = .ok (.iconst 5, 1) := by decide +kernel
theorem dL_law_466 : decode cL_law 466 = .ok (.iadd, 1) := by decide +kernel
theorem dL_law_467 : decode cL_law 467 = .ok (.iaload, 1) := by decide +kernel
theorem dL_law_468 : decode cL_law 468 = .ok (.invokevirtual 56, 3) := by decide +kernel
theorem dL_law_471 : decode cL_law 471 = .ok (.if_icmp .eq 226, 3) := by decide +kernel
theorem dL_law_474 : decode cL_law 474 = .ok (.iconst 0, 1) := by decide +kernel
theorem dL_law_475 : decode cL_law 475 = .ok (.ireturn, 1) := by decide +kernel
theorem dL_law_476 : decode cL_law 476 = .ok (.aload_n 1, 1) := by decide +kernel
theorem dL_law_477 : decode cL_law 477 = .ok (.aload_n 0, 1) := by decide +kernel
theorem dL_law_478 : decode cL_law 478 = .ok (.iload_n 3, 1) := by decide +kernel
theorem dL_law_479 : decode cL_law 479 = .ok (.iconst 1, 1) := by decide +kernel
theorem dL_law_480 : decode cL_law 480 = .ok (.iadd, 1) := by decide +kernel
theorem dL_law_481 : decode cL_law 481 = .ok (.iaload, 1) := by decide +kernel
theorem dL_law_482 : decode cL_law 482 = .ok (.invokevirtual 57, 3) := by decide +kernel
theorem dL_law_485 : decode cL_law 485 = .ok (.aload_n 2, 1) := by decide +kernel
theorem dL_law_486 : decode cL_law 486 = .ok (.aload_n 0, 1) := by decide +kernel
theorem dL_law_487 : decode cL_law 487 = .ok (.iload_n 3, 1) := by decide +kernel
theorem dL_law_488 : decode cL_law 488 = .ok (.iconst 1, 1) := by decide +kernel
theorem dL_law_489 : decode cL_law 489 = .ok (.iadd, 1) := by decide +kernel
theorem dL_law_490 : decode cL_law 490 = .ok (.iaload, 1) := by decide +kernel
theorem dL_law_491 : decode cL_law 491 = .ok (.invokevirtual 60, 3) := by decide +kernel
theorem dL_law_494 : decode cL_law 494 = .ok (.if_icmp .eq 203, 3) := by decide +kernel
theorem dL_law_497 : decode cL_law 497 = .ok (.iconst 0, 1) := by decide +kernel
theorem dL_law_498 : decode cL_law 498 = .ok (.ireturn, 1) := by decide +kernel
theorem dL_law_499 : decode cL_law 499 = .ok (.aload_n 1, 1) := by decide +kernel
theorem dL_law_500 : decode cL_law 500 = .ok (.invokevirtual 61, 3) := by decide +kernel
theorem dL_law_503 : decode cL_law 503 = .ok (.aload_n 2, 1) := by decide +kernel
theorem dL_law_504 : decode cL_law 504 = .ok (.invokevirtual 65, 3) := by decide +kernel
theorem dL_law_507 : decode cL_law 507 = .ok (.if_icmp .eq 190, 3) := by decide +kernel
theorem dL_law_510 : decode cL_law 510 = .ok (.iconst 0, 1) := by decide +kernel
theorem dL_law_511 : decode cL_law 511 = .ok (.ireturn, 1) := by decide +kernel
theorem dL_law_512 : decode cL_law 512 = .ok (.aload_n 1, 1) := by decide +kernel
theorem dL_law_513 : decode cL_law 513 = .ok (.aload_n 0, 1) := by decide +kernel
theorem dL_law_514 : decode cL_law 514 = .ok (.iload_n 3, 1) := by decide +kernel
theorem dL_law_515 : decode cL_law 515 = .ok (.iconst 1, 1) := by decide +kernel
theorem dL_law_516 : decode cL_law 516 = .ok (.iadd, 1) := by decide +kernel
theorem dL_law_517 : decode cL_law 517 = .ok (.iaload, 1) := by decide +kernel
theorem dL_law_518 : decode cL_law 518 = .ok (.aload_n 0, 1) := by decide +kernel
theorem dL_law_519 : decode cL_law 519 = .ok (.iload_n 3, 1) := by decide +kernel
theorem dL_law_520 : decode cL_law 520 = .ok (.iconst 2, 1) := by decide +kernel
theorem dL_law_521 : decode cL_law 521 = .ok (.iadd, 1) := by decide +kernel
theorem dL_law_522 : decode cL_law 522 = .ok (.iaload, 1) := by decide +kernel
theorem dL_law_523 : decode cL_law 523 = .ok (.aload_n 0, 1) := by decide +kernel
theorem dL_law_524 : decode cL_law 524 = .ok (.iload_n 3, 1) := by decide +kernel
theorem dL_law_525 : decode cL_law 525 = .ok (.iconst 3, 1) := by decide +kernel
theorem dL_law_526 : decode cL_law 526 = .ok (.iadd, 1) := by decide +kernel
theorem dL_law_527 : decode cL_law 527 = .ok (.iaload, 1) := by decide +kernel
theorem dL_law_528 : decode cL_law 528 = .ok (.invokevirtual 66, 3) := by decide +kernel
theorem dL_law_531 : decode cL_law 531 = .ok (.aload_n 2, 1) := by decide +kernel
theorem dL_law_532 : decode cL_law 532 = .ok (.aload_n 0, 1) := by decide +kernel
theorem dL_law_533 : decode cL_law 533 = .ok (.iload_n 3, 1) := by decide +kernel
theorem dL_law_534 : decode cL_law 534 = .ok (.iconst 1, 1) := by decide +kernel
theorem dL_law_535 : decode cL_law 535 = .ok (.iadd, 1) := by decide +kernel
theorem dL_law_536 : decode cL_law 536 = .ok (.iaload, 1) := by decide +kernel
theorem dL_law_537 : decode cL_law 537 = .ok (.aload_n 0, 1) := by decide +kernel
theorem dL_law_538 : decode cL_law 538 = .ok (.iload_n 3, 1) := by decide +kernel
theorem dL_law_539 : decode cL_law 539 = .ok (.iconst 2, 1) := by decide +kernel
theorem dL_law_540 : decode cL_law 540 = .ok (.iadd, 1) := by decide +kernel
theorem dL_law_541 : decode cL_law 541 = .ok (.iaload, 1) := by decide +kernel
theorem dL_law_542 : decode cL_law 542 = .ok (.aload_n 0, 1) := by decide +kernel
theorem dL_law_543 : decode cL_law 543 = .ok (.iload_n 3, 1) := by decide +kernel
theorem dL_law_544 : decode cL_law 544 = .ok (.iconst 3, 1) := by decide +kernel
theorem dL_law_545 : decode cL_law 545 = .ok (.iadd, 1) := by decide +kernel
theorem dL_law_546 : decode cL_law 546 = .ok (.iaload, 1) := by decide +kernel
theorem dL_law_547 : decode cL_law 547 = .ok (.invokevirtual 70, 3) := by decide +kernel
theorem dL_law_550 : decode cL_law 550 = .ok (.if_icmp .eq 147, 3) := by decide +kernel
theorem dL_law_553 : decode cL_law 553 = .ok (.iconst 0, 1) := by decide +kernel
theorem dL_law_554 : decode cL_law 554 = .ok (.ireturn, 1) := by decide +kernel
theorem dL_law_555 : decode cL_law 555 = .ok (.aload_n 1, 1) := by decide +kernel
theorem dL_law_556 : decode cL_law 556 = .ok (.aload_n 0, 1) := by decide +kernel
theorem dL_law_557 : decode cL_law 557 = .ok (.iload_n 3, 1) := by decide +kernel
theorem dL_law_558 : decode cL_law 558 = .ok (.iconst 1, 1) := by decide +kernel
theorem dL_law_559 : decode cL_law 559 = .ok (.iadd, 1) := by decide +kernel
theorem dL_law_560 : decode cL_law 560 = .ok (.iaload, 1) := by decide +kernel
theorem dL_law_561 : decode cL_law 561 = .ok (.aload_n 0, 1) := by decide +kernel
theorem dL_law_562 : decode cL_law 562 = .ok (.iload_n 3, 1) := by decide +kernel
theorem dL_law_563 : decode cL_law 563 = .ok (.iconst 2, 1) := by decide +kernel
theorem dL_law_564 : decode cL_law 564 = .ok (.iadd, 1) := by decide +kernel
theorem dL_law_565 : decode cL_law 565 = .ok (.iaload, 1) := by decide +kernel
theorem dL_law_566 : decode cL_law 566 = .ok (.aload_n 0, 1) := by decide +kernel
theorem dL_law_567 : decode cL_law 567 = .ok (.iload_n 3, 1) := by decide +kernel
theorem dL_law_568 : decode cL_law 568 = .ok (.iconst 3, 1) := by decide +kernel
theorem dL_law_569 : decode cL_law 569 = .ok (.iadd, 1) := by decide +kernel
theorem dL_law_570 : decode cL_law 570 = .ok (.iaload, 1) := by decide +kernel
theorem dL_law_571 : decode cL_law 571 = .ok (.invokevirtual 71, 3) := by decide +kernel
theorem dL_law_574 : decode cL_law 574 = .ok (.aload_n 2, 1) := by decide +kernel
theorem dL_law_575 : decode cL_law 575 = .ok (.aload_n 0, 1) := by decide +kernel
theorem dL_law_576 : decode cL_law 576 = .ok (.iload_n 3, 1) := by decide +kernel
theorem dL_law_577 : decode cL_law 577 = .ok (.iconst 1, 1) := by decide +kernel
theorem dL_law_578 : decode cL_law 578 = .ok (.iadd, 1) := by decide +kernel
theorem dL_law_579 : decode cL_law 579 = .ok (.iaload, 1) := by decide +kernel
theorem dL_law_580 : decode cL_law 580 = .ok (.aload_n 0, 1) := by decide +kernel
theorem dL_law_581 : decode cL_law 581 = .ok (.iload_n 3, 1) := by decide +kernel
theorem dL_law_582 : decode cL_law 582 = .ok (.iconst 2, 1) := by decide +kernel
theorem dL_law_583 : decode cL_law 583 = .ok (.iadd, 1) := by decide +kernel
theorem dL_law_584 : decode cL_law 584 = .ok (.iaload, 1) := by decide +kernel
theorem dL_law_585 : decode cL_law 585 = .ok (.aload_n 0, 1) := by decide +kernel
theorem dL_law_586 : decode cL_law 586 = .ok (.iload_n 3, 1) := by decide +kernel
theorem dL_law_587 : decode cL_law 587 = .ok (.iconst 3, 1) := by decide +kernel
theorem dL_law_588 : decode cL_law 588 = .ok (.iadd, 1) := by decide +kernel
theorem dL_law_589 : decode cL_law 589 = .ok (.iaload, 1) := by decide +kernel
theorem dL_law_590 : decode cL_law 590 = .ok (.invokevirtual 74, 3) := by decide +kernel
theorem dL_law_593 : decode cL_law 593 = .ok (.if_icmp .eq 104, 3) := by decide +kernel
theorem dL_law_596 : decode cL_law 596 = .ok (.iconst 0, 1) := by decide +kernel
theorem dL_law_597 : decode cL_law 597 = .ok (.ireturn, 1) := by decide +kernel
theorem dL_law_598 : decode cL_law 598 = .ok (.aload_n 1, 1) := by decide +kernel
theorem dL_law_599 : decode cL_law 599 = .ok (.aload_n 0, 1) := by decide +kernel
theorem dL_law_600 : decode cL_law 600 = .ok (.iload_n 3, 1) := by decide +kernel
theorem dL_law_601 : decode cL_law 601 = .ok (.iconst 1, 1) := by decide +kernel
theorem dL_law_602 : decode cL_law 602 = .ok (.iadd, 1) := by decide +kernel
theorem dL_law_603 : decode cL_law 603 = .ok (.iaload, 1) := by decide +kernel
theorem dL_law_604 : decode cL_law 604 = .ok (.aload_n 0, 1) := by decide +kernel
theorem dL_law_605 : decode cL_law 605 = .ok (.iload_n 3, 1) := by decide +kernel
theorem dL_law_606 : decode cL_law 606 = .ok (.iconst 2, 1) := by decide +kernel
theorem dL_law_607 : decode cL_law 607 = .ok (.iadd, 1) := by decide +kernel
theorem dL_law_608 : decode cL_law 608 = .ok (.iaload, 1) := by decide +kernel
theorem dL_law_609 : decode cL_law 609 = .ok (.invokevirtual 75, 3) := by decide +kernel
theorem dL_law_612 : decode cL_law 612 = .ok (.aload_n 2, 1) := by decide +kernel
theorem dL_law_613 : decode cL_law 613 = .ok (.aload_n 0, 1) := by decide +kernel
theorem dL_law_614 : decode cL_law 614 = .ok (.iload_n 3, 1) := by decide +kernel
theorem dL_law_615 : decode cL_law 615 = .ok (.iconst 1, 1) := by decide +kernel
theorem dL_law_616 : decode cL_law 616 = .ok (.iadd, 1) := by decide +kernel
theorem dL_law_617 : decode cL_law 617 = .ok (.iaload, 1) := by decide +kernel
theorem dL_law_618 : decode cL_law 618 = .ok (.aload_n 0, 1) := by decide +kernel
theorem dL_law_619 : decode cL_law 619 = .ok (.iload_n 3, 1) := by decide +kernel
theorem dL_law_620 : decode cL_law 620 = .ok (.iconst 2, 1) := by decide +kernel
theorem dL_law_621 : decode cL_law 621 = .ok (.iadd, 1) := by decide +kernel
theorem dL_law_622 : decode cL_law 622 = .ok (.iaload, 1) := by decide +kernel
theorem dL_law_623 : decode cL_law 623 = .ok (.invokevirtual 78, 3) := by decide +kernel
theorem dL_law_626 : decode cL_law 626 = .ok (.if_icmp .eq 71, 3) := by decide +kernel
theorem dL_law_629 : decode cL_law 629 = .ok (.iconst 0, 1) := by decide +kernel
theorem dL_law_630 : decode cL_law 630 = .ok (.ireturn, 1) := by decide +kernel
theorem dL_law_631 : decode cL_law 631 = .ok (.aload_n 1, 1) := by decide +kernel
theorem dL_law_632 : decode cL_law 632 = .ok (.aload_n 0, 1) := by decide +kernel
theorem dL_law_633 : decode cL_law 633 = .ok (.iload_n 3, 1) := by decide +kernel
theorem dL_law_634 : decode cL_law 634 = .ok (.iconst 1, 1) := by decide +kernel
theorem dL_law_635 : decode cL_law 635 = .ok (.iadd, 1) := by decide +kernel
theorem dL_law_636 : decode cL_law 636 = .ok (.iaload, 1) := by decide +kernel
theorem dL_law_637 : decode cL_law 637 = .ok (.aload_n 0, 1) := by decide +kernel
theorem dL_law_638 : decode cL_law 638 = .ok (.iload_n 3, 1) := by decide +kernel
theorem dL_law_639 : decode cL_law 639 = .ok (.iconst 2, 1) := by decide +kernel
theorem dL_law_640 : decode cL_law 640 = .ok (.iadd, 1) := by decide +kernel
theorem dL_law_641 : decode cL_law 641 = .ok (.iaload, 1) := by decide +kernel
theorem dL_law_642 : decode cL_law 642 = .ok (.aload_n 0, 1) := by decide +kernel
theorem dL_law_643 : decode cL_law 643 = .ok (.iload_n 3, 1) := by decide +kernel
theorem dL_law_644 : decode cL_law 644 = .ok (.iconst 3, 1) := by decide +kernel
theorem dL_law_645 : decode cL_law 645 = .ok (.iadd, 1) := by decide +kernel
theorem dL_law_646 : decode cL_law 646 = .ok (.iaload, 1) := by decide +kernel
theorem dL_law_647 : decode cL_law 647 = .ok (.invokevirtual 79, 3) := by decide +kernel
theorem dL_law_650 : decode cL_law 650 = .ok (.aload_n 2, 1) := by decide +kernel
theorem dL_law_651 : decode cL_law 651 = .ok (.aload_n 0, 1) := by decide +kernel
theorem dL_law_652 : decode cL_law 652 = .ok (.iload_n 3, 1) := by decide +kernel
theorem dL_law_653 : decode cL_law 653 = .ok (.iconst 1, 1) := by decide +kernel
theorem dL_law_654 : decode cL_law 654 = .ok (.iadd, 1) := by decide +kernel
theorem dL_law_655 : decode cL_law 655 = .ok (.iaload, 1) := by decide +kernel
theorem dL_law_656 : decode cL_law 656 = .ok (.aload_n 0, 1) := by decide +kernel
theorem dL_law_657 : decode cL_law 657 = .ok (.iload_n 3, 1) := by decide +kernel
theorem dL_law_658 : decode cL_law 658 = .ok (.iconst 2, 1) := by decide +kernel
theorem dL_law_659 : decode cL_law 659 = .ok (.iadd, 1) := by decide +kernel
theorem dL_law_660 : decode cL_law 660 = .ok (.iaload, 1) := by decide +kernel
theorem dL_law_661 : decode cL_law 661 = .ok (.aload_n 0, 1) := by decide +kernel
theorem dL_law_662 : decode cL_law 662 = .ok (.iload_n 3, 1) := by decide +kernel
theorem dL_law_663 : decode cL_law 663 = .ok (.iconst 3, 1) := by decide +kernel
theorem dL_law_664 : decode cL_law 664 = .ok (.iadd, 1) := by decide +kernel
theorem dL_law_665 : decode cL_law 665 = .ok (.iaload, 1) := by decide +kernel
theorem dL_law_666 : decode cL_law 666 = .ok (.invokevirtual 82, 3) := by decide +kernel
theorem dL_law_669 : decode cL_law 669 = .ok (.if_icmp .eq 28, 3) := by decide +kernel
theorem dL_law_672 : decode cL_law 672 = .ok (.iconst 0, 1) := by decide +kernel
theorem dL_law_673 : decode cL_law 673 = .ok (.ireturn, 1) := by decide +kernel
theorem dL_law_674 : decode cL_law 674 = .ok (.aload_n 1, 1) := by decide +kernel
theorem dL_law_675 : decode cL_law 675 = .ok (.aload_n 0, 1) := by decide +kernel
theorem dL_law_676 : decode cL_law 676 = .ok (.iload_n 3, 1) := by decide +kernel
theorem dL_law_677 : decode cL_law 677 = .ok (.iconst 1, 1) := by decide +kernel
theorem dL_law_678 : decode cL_law 678 = .ok (.iadd, 1) := by decide +kernel
theorem dL_law_679 : decode cL_law 679 = .ok (.iaload, 1) := by decide +kernel
theorem dL_law_680 : decode cL_law 680 = .ok (.invokevirtual 83, 3) := by decide +kernel
theorem dL_law_683 : decode cL_law 683 = .ok (.aload_n 2, 1) := by decide +kernel
theorem dL_law_684 : decode cL_law 684 = .ok (.aload_n 0, 1) := by decide +kernel
theorem dL_law_685 : decode cL_law 685 = .ok (.iload_n 3, 1) := by decide +kernel
theorem dL_law_686 : decode cL_law 686 = .ok (.iconst 1, 1) := by decide +kernel
theorem dL_law_687 : decode cL_law 687 = .ok (.iadd, 1) := by decide +kernel
theorem dL_law_688 : decode cL_law 688 = .ok (.iaload, 1) := by decide +kernel
theorem dL_law_689 : decode cL_law 689 = .ok (.invokevirtual 86, 3) := by decide +kernel
theorem dL_law_692 : decode cL_law 692 = .ok (.if_icmp .eq 5, 3) := by decide +kernel
theorem dL_law_695 : decode cL_law 695 = .ok (.iconst 0, 1) := by decide +kernel
theorem dL_law_696 : decode cL_law 696 = .ok (.ireturn, 1) := by decide +kernel
theorem dL_law_697 : decode cL_law 697 = .ok (.iinc 3 6, 3) := by decide +kernel
theorem dL_law_700 : decode cL_law 700 = .ok (.goto (-682), 3) := by decide +kernel
theorem dL_law_703 : decode cL_law 703 = .ok (.iconst 1, 1) := by decide +kernel
theorem dL_law_704 : decode cL_law 704 = .ok (.ireturn, 1) := by decide +kernel
abbrev vwCl : List vw_C := [(RX0, TX0, 2), (RX1, TX1, 6), (RX2, TX2, 14), (RX3, TX3, 5), (RX4, TX4, 2), (RX5, TX5, 7), (RX6, TX6, 25)]
end
section
/-! own rows over the kit: one table of array kinds, statics, calls in place, rows over natural numbers -/
abbrev cEnv : Type := ClassId × ClassId × ClassId × ClassId
abbrev TYS (E : cEnv) : List (ClassId × FieldType) := [(E.1, .int), (E.2.1, .boolean), (E.2.2.1, .object RX1), (E.2.2.2, .object RX3)]
abbrev KK (G : va_G) (E : cEnv) (U : State) : Prop := va_K G vwCl (TYS E) U
def wdN (j : Nat) : Nat := if j = 0 then 0 else if j = 1 then 3 else if j = 7 then 2 else if j = 9 then 4 else 1
def leN (j : Nat) : Nat := if j < 2 then 1 else 0
def moN (j : Nat) : Nat := if j < 2 then 8 else 1
def s1 (nm : String) (N : Nat) (f : Nat → Nat) (A : Nat → Prop) (U : State) (H : Heap) : Prop := ∃ t : Nat, va_Z RX5 nm "[I" (.ref t) A U H ∧ va_T .int t N (fun j => .int (nI (f j))) A U H
theorem s1.moved {nm : String} {N : Nat} {f : Nat → Nat} {A : Nat → Prop} {u U : State} {H : Heap} (hvm : u.vm.Alike U.vm) (h : s1 nm N f A u H) : s1 nm N f A U H := by
  obtain ⟨t, h1, h2⟩ := h
  exact ⟨t, h1.moved hvm, h2.moved hvm⟩
theorem s1.kept {nm : String} {N : Nat} {f : Nat → Nat} {A : Nat → Prop} {U : State} {H H1 : Heap} (h : s1 nm N f A U H) (hq : ∀ a : Nat, a < H.size → ¬ A a → H1[a]? = H[a]?) : s1 nm N f A U H1 := by
  obtain ⟨t, h1, h2⟩ := h
  exact ⟨t, h1.kept hq, h2.kept hq⟩
theorem s1.narrow {nm : String} {N : Nat} {f : Nat → Nat} {A B : Nat → Prop} {U : State} {H : Heap} (h : s1 nm N f A U H) (hAB : ∀ q, B q → A q) : s1 nm N f B U H := by
  obtain ⟨t, h1, h2⟩ := h
  exact ⟨t, h1.narrow hAB, h2.narrow hAB⟩
def SW (A : Nat → Prop) (U : State) (H : Heap) : Prop := s1 "WIDTHS" 10 wdN A U H ∧ s1 "LEAST" 4 leN A U H ∧ s1 "MOST" 4 moN A U H
theorem SW.moved {A : Nat → Prop} {u U : State} {H : Heap} (hvm : u.vm.Alike U.vm) (h : SW A u H) : SW A U H := ⟨h.1.moved hvm, h.2.1.moved hvm, h.2.2.moved hvm⟩
theorem SW.kept {A : Nat → Prop} {U : State} {H H1 : Heap} (h : SW A U H) (hq : ∀ a : Nat, a < H.size → ¬ A a → H1[a]? = H[a]?) : SW A U H1 := ⟨h.1.kept hq, h.2.1.kept hq, h.2.2.kept hq⟩
theorem SW.narrow {A B : Nat → Prop} {U : State} {H : Heap} (h : SW A U H) (hAB : ∀ q, B q → A q) : SW B U H := ⟨h.1.narrow hAB, h.2.1.narrow hAB, h.2.2.narrow hAB⟩
/-- what a method that writes nothing asks of its start: its cells, the tables, the statics -/
def PR (G : va_G) (E : cEnv) (wc : va_W) (U : State) : Prop := va_P G vwCl wc U.heap ∧ KK G E U ∧ SW (fun _ => False) U U.heap
theorem PR.blind {G : va_G} {E : cEnv} {wc : va_W} {av : List Value} : FrameBlind (va_Pc av (PR G E wc)) := fun a U g mk q =>
  ⟨q.1, q.2.1, va_K.moved (u := U) (U := U.calling g mk a) (Vm.Alike.refl U.vm) q.2.2.1, SW.moved (u := U) (U := U.calling g mk a) (Vm.Alike.refl U.vm) q.2.2.2⟩
theorem PR.pre {G : va_G} {E : cEnv} {wc : va_W} {av : List Value} {s : State} {A : Nat → Prop} {H : Heap} {locs : List Loc} (hK : KK G E s) (hZ : SW A s s.heap) (hS : va_S A s.heap H locs) (hP : va_P G vwCl wc H) : ∀ U : State, U.heap = H → s.WarmedH U.vm → va_Pc av (PR G E wc) av.toArray U := by
  intro U hU hW
  refine ⟨rfl, by rw [hU]; exact hP, va_K.moved hW.alike hK, ?_⟩
  rw [hU]
  exact ((hZ.kept hS.2.1).narrow (fun _ h => h.elim)).moved hW.alike
/-- what a method that writes asks of its start -/
def PW (G : va_G) (E : cEnv) (wc : va_W) (sz : Nat) (U : State) : Prop := U.heap.size = sz ∧ va_P G vwCl wc U.heap ∧ KK G E U ∧ va_D (fun _ => True) wc ∧ SW (va_A wc sz) U U.heap
theorem PW.blind {G : va_G} {E : cEnv} {wc : va_W} {sz : Nat} {av : List Value} : FrameBlind (va_Pc av (PW G E wc sz)) := fun a U g mk q =>
  ⟨q.1, q.2.1, q.2.2.1, va_K.moved (u := U) (U := U.calling g mk a) (Vm.Alike.refl U.vm) q.2.2.2.1, q.2.2.2.2.1, SW.moved (u := U) (U := U.calling g mk a) (Vm.Alike.refl U.vm) q.2.2.2.2.2⟩
theorem PW.pre {G : va_G} {E : cEnv} {wc : va_W} {av : List Value} {s : State} {A : Nat → Prop} {H : Heap} {locs : List Loc} (hK : KK G E s) (hZ : SW A s s.heap) (hS : va_S A s.heap H locs) (hP : va_P G vwCl wc H) (hD : va_D A wc) (hF : ∀ q, va_A wc H.size q → A q) : ∀ U : State, U.heap = H → s.WarmedH U.vm → va_Pc av (PW G E wc H.size) av.toArray U := by
  intro U hU hW
  refine ⟨rfl, by rw [hU], by rw [hU]; exact hP, va_K.moved hW.alike hK, hD.weaken (fun _ _ _ _ => trivial), ?_⟩
  rw [hU]
  exact ((hZ.kept hS.2.1).narrow hF).moved hW.alike
/-- cells put back where they were -/
def setAll : va_W → List Nat → va_W → va_W
  | ws, i :: is, e :: es => setAll (ws.set i e) is es
  | ws, _, _ => ws
theorem setAll_at : ∀ (is : List Nat) (ws w1 : va_W) (k : Nat) (q : Nat × va_E), is.length = w1.length → (setAll ws is w1)[k]? = some q → (ws[k]? = some q ∧ k ∉ is) ∨ ∃ j : Nat, is[j]? = some k ∧ w1[j]? = some q
  | [], ws, w1, k, q, _, h => by
    cases w1 <;> exact Or.inl ⟨h, List.not_mem_nil⟩
  | i :: is, ws, [], k, q, hl, h => by simp at hl
  | i :: is, ws, e :: es, k, q, hl, h => by
    have h' : (setAll (ws.set i e) is es)[k]? = some q := h
    rcases setAll_at is (ws.set i e) es k q (by simpa using hl) h' with ⟨h1, h2⟩ | ⟨j, h1, h2⟩
    · by_cases hk : i = k
      · subst hk
        have hlt : i < ws.length := by
          have := (List.getElem?_eq_some_iff.mp h1).1
          simpa using this
        rw [List.getElem?_set_self hlt] at h1
        exact Or.inr ⟨0, rfl, h1⟩
      · rw [List.getElem?_set_ne hk] at h1
        exact Or.inl ⟨h1, fun hm => by
          rcases List.mem_cons.mp hm with e1 | e1
          · exact hk e1.symm
          · exact h2 e1⟩
    · exact Or.inr ⟨j + 1, by simpa using h1, by simpa using h2⟩
theorem set_fst {ws : va_W} {i : Nat} {e : Nat × va_E} (h : ∀ p, ws[i]? = some p → p.1 = e.1) : (ws.set i e).map Prod.fst = ws.map Prod.fst := by
  apply List.ext_getElem?
  intro k
  rw [List.getElem?_map, List.getElem?_map]
  by_cases hk : i = k
  · subst hk
    by_cases hl : i < ws.length
    · rw [List.getElem?_set_self hl, List.getElem?_eq_getElem hl]
      simp [h _ (List.getElem?_eq_getElem hl)]
    · rw [List.getElem?_eq_none (by simpa using Nat.not_lt.mp hl), List.getElem?_eq_none (by simpa using Nat.not_lt.mp hl)]
  · rw [List.getElem?_set_ne hk]
theorem setAll_fst : ∀ (is : List Nat) (ws wc w1 : va_W), is.map (fun i => ws[i]?) = wc.map some → va_nd is = true → w1.map Prod.fst = wc.map Prod.fst → (setAll ws is w1).map Prod.fst = ws.map Prod.fst
  | [], ws, wc, w1, _, _, _ => by cases w1 <;> rfl
  | i :: is, ws, [], w1, h, _, _ => by simp at h
  | i :: is, ws, c :: wc, [], _, _, h => by simp at h
  | i :: is, ws, c :: wc, e :: es, h, hn, ha => by
    have hn2 : i ∉ is ∧ va_nd is = true := by
      unfold va_nd at hn
      simpa using hn
    simp only [List.map_cons, List.cons.injEq] at h ha
    have h1 : (ws.set i e).map Prod.fst = ws.map Prod.fst := set_fst (fun p hp => by rw [h.1] at hp; rw [ha.1]; exact congrArg Prod.fst (Option.some.inj hp).symm)
    have h2 : is.map (fun j => (ws.set i e)[j]?) = wc.map some := by
      rw [← h.2]
      apply List.map_congr_left
      intro j hj
      have hij : i ≠ j := fun q => hn2.1 (by rw [q]; exact hj)
      rw [List.getElem?_set_ne hij]
    show (setAll (ws.set i e) is es).map Prod.fst = _
    rw [setAll_fst is (ws.set i e) wc es h2 hn2.2 ha.2, h1]
theorem va_D.fst {A : Nat → Prop} {ws ws' : va_W} (h : va_D A ws) (he : ws'.map Prod.fst = ws.map Prod.fst) : va_D A ws' := by
  have key : ∀ (k : Nat) (q : Nat × va_E), ws'[k]? = some q → ∃ p, ws[k]? = some p ∧ p.1 = q.1 := by
    intro k q hk
    have h1 : (ws'.map Prod.fst)[k]? = some q.1 := by rw [List.getElem?_map, hk]; rfl
    rw [he, List.getElem?_map] at h1
    cases hp : ws[k]? with
    | none => rw [hp] at h1; cases h1
    | some p => rw [hp] at h1; exact ⟨p, rfl, Option.some.inj h1⟩
  refine ⟨fun i j x y hx hy hxy => ?_, fun k q hk => ?_⟩
  · obtain ⟨p1, a1, b1⟩ := key i x hx
    obtain ⟨p2, a2, b2⟩ := key j y hy
    exact h.1 i j p1 p2 a1 a2 (by rw [b1, b2, hxy])
  · obtain ⟨p1, a1, b1⟩ := key k q hk
    rw [← b1]
    exact h.2 k p1 a1
theorem k_join {A0 : Nat → Prop} {G : va_G} {cl : List vw_C} {ws wc w1 : va_W} {H H1 : Heap} (hP : va_P G cl ws H) (hD : va_D A0 ws) (is : List Nat) (hC : is.map (fun i => ws[i]?) = wc.map some) (hn : va_nd is = true) (ha : w1.map Prod.fst = wc.map Prod.fst)
    (hk : ∀ q : Nat, q < H.size → ¬ va_A wc H.size q → H1[q]? = H[q]?) (hP1 : va_P G cl w1 H1) : va_P G cl (setAll ws is w1) H1 ∧ va_D A0 (setAll ws is w1) := by
  have hlen : is.length = w1.length := by
    have h1 := congrArg List.length hC
    have h2 := congrArg List.length ha
    simp at h1 h2
    omega
  refine ⟨fun k q hq => ?_, hD.fst (setAll_fst is ws wc w1 hC hn ha)⟩
  rcases setAll_at is ws w1 k q hlen hq with ⟨h1, h2⟩ | ⟨j, h1, h2⟩
  · have hl := (hP k q h1).lt
    refine (hP k q h1).kept (hk q.1 hl (fun hA => ?_))
    rcases hA with ⟨k2, e, h3⟩ | h3
    · obtain ⟨i, h4, h5⟩ := va_in_of is hC h3
      have hij := hD.1 k i q (q.1, e) h1 h5 rfl
      subst hij
      exact h2 (List.mem_of_getElem? h4)
    · omega
  · exact hP1 j q h2
end
section
section KW
variable {p : Program} {l : Launch} {e : Env} {R : Room} {s : State} {m : MethodId} {args : Array Value} {below : List Frame} {meth : Method} {c : Code} {H : Heap} {locs : List Loc} {cells slots : Nat} {Q : State → Prop}
variable {cc : ByteArray} {pc : Nat} {ls : Array Slot} {rest : List Value}
theorem k_iadd (hexec : p.tables.exec = Jvm.exec) (hb : c.code = cc) {a b : Nat} (hdg : decode cc pc = .ok (.iadd, 1)) (k : W p l e R s m args below meth c H locs cells slots Q (F0 m (pc + 1) ls (.int (nI (a + b)) :: rest))) : W p l e R s m args below meth c H locs cells slots Q (F0 m pc ls (.int (nI b) :: .int (nI a) :: rest)) := lv_iadd hexec hb hdg (by rw [nI_add]; exact k)
theorem k_isub (hexec : p.tables.exec = Jvm.exec) (hb : c.code = cc) {a b : Nat} (h : b ≤ a) (hdg : decode cc pc = .ok (.isub, 1)) (k : W p l e R s m args below meth c H locs cells slots Q (F0 m (pc + 1) ls (.int (nI (a - b)) :: rest))) : W p l e R s m args below meth c H locs cells slots Q (F0 m pc ls (.int (nI b) :: .int (nI a) :: rest)) := lv_isub hexec hb hdg (by rw [pk_sub h]; exact k)
theorem k_imul (hexec : p.tables.exec = Jvm.exec) (hb : c.code = cc) {a b : Nat} (hdg : decode cc pc = .ok (.imul, 1)) (k : W p l e R s m args below meth c H locs cells slots Q (F0 m (pc + 1) ls (.int (nI (a * b)) :: rest))) : W p l e R s m args below meth c H locs cells slots Q (F0 m pc ls (.int (nI b) :: .int (nI a) :: rest)) := lv_imul hexec hb hdg (by rw [pk_mul]; exact k)
theorem k_idiv (hexec : p.tables.exec = Jvm.exec) (hb : c.code = cc) {a b : Nat} (ha : a < 2 ^ 31) (h0 : 0 < b) (hb2 : b < 2 ^ 31) (hdg : decode cc pc = .ok (.idiv, 1)) (k : W p l e R s m args below meth c H locs cells slots Q (F0 m (pc + 1) ls (.int (nI (a / b)) :: rest))) : W p l e R s m args below meth c H locs cells slots Q (F0 m pc ls (.int (nI b) :: .int (nI a) :: rest)) := lv_idiv hexec hb hdg (nI_ne0 h0 hb2) (by rw [pk_div ha h0 hb2]; exact k)
theorem k_irem (hexec : p.tables.exec = Jvm.exec) (hb : c.code = cc) {a b : Nat} (ha : a < 2 ^ 31) (h0 : 0 < b) (hb2 : b < 2 ^ 31) (hdg : decode cc pc = .ok (.irem, 1)) (k : W p l e R s m args below meth c H locs cells slots Q (F0 m (pc + 1) ls (.int (nI (a % b)) :: rest))) : W p l e R s m args below meth c H locs cells slots Q (F0 m pc ls (.int (nI b) :: .int (nI a) :: rest)) := lv_irem hexec hb hdg (nI_ne0 h0 hb2) (by rw [pk_rem ha h0 hb2]; exact k)
theorem n_icmp_eq (hexec : p.tables.exec = Jvm.exec) (hb : c.code = cc) {a b : Nat} (ha : a < 2 ^ 31) (hb2 : b < 2 ^ 31) {off : Int} {tgt : Nat} (hdg : decode cc pc = .ok (.if_icmp .eq off, 3)) (ht : (pc : Int) + off = (tgt : Int)) (kt : a = b → W p l e R s m args below meth c H locs cells slots Q (F0 m tgt ls rest)) (kf : ¬ a = b → W p l e R s m args below meth c H locs cells slots Q (F0 m (pc + 3) ls rest)) : W p l e R s m args below meth c H locs cells slots Q (F0 m pc ls (.int (nI b) :: .int (nI a) :: rest)) := lv_icmp_eq hexec hb hdg ht (fun h => kt ((nI_eq ha hb2).mp h)) (fun h => kf (fun q => h (by rw [q])))
theorem n_icmp_ne (hexec : p.tables.exec = Jvm.exec) (hb : c.code = cc) {a b : Nat} (ha : a < 2 ^ 31) (hb2 : b < 2 ^ 31) {off : Int} {tgt : Nat} (hdg : decode cc pc = .ok (.if_icmp .ne off, 3)) (ht : (pc : Int) + off = (tgt : Int)) (kt : ¬ a = b → W p l e R s m args below meth c H locs cells slots Q (F0 m tgt ls rest)) (kf : a = b → W p l e R s m args below meth c H locs cells slots Q (F0 m (pc + 3) ls rest)) : W p l e R s m args below meth c H locs cells slots Q (F0 m pc ls (.int (nI b) :: .int (nI a) :: rest)) := lv_icmp_ne hexec hb hdg ht (fun h => kt (fun q => h (by rw [q]))) (fun h => kf ((nI_eq ha hb2).mp h))
theorem n_icmp_lt (hexec : p.tables.exec = Jvm.exec) (hb : c.code = cc) {a b : Nat} (ha : a < 2 ^ 31) (hb2 : b < 2 ^ 31) {off : Int} {tgt : Nat} (hdg : decode cc pc = .ok (.if_icmp .lt off, 3)) (ht : (pc : Int) + off = (tgt : Int)) (kt : a < b → W p l e R s m args below meth c H locs cells slots Q (F0 m tgt ls rest)) (kf : b ≤ a → W p l e R s m args below meth c H locs cells slots Q (F0 m (pc + 3) ls rest)) : W p l e R s m args below meth c H locs cells slots Q (F0 m pc ls (.int (nI b) :: .int (nI a) :: rest)) := lv_icmp_lt hexec hb hdg ht (fun h => kt ((nI_ltI ha hb2).mp h)) (fun h => kf (Nat.not_lt.mp (fun q => h ((nI_ltI ha hb2).mpr q))))
theorem n_icmp_ge (hexec : p.tables.exec = Jvm.exec) (hb : c.code = cc) {a b : Nat} (ha : a < 2 ^ 31) (hb2 : b < 2 ^ 31) {off : Int} {tgt : Nat} (hdg : decode cc pc = .ok (.if_icmp .ge off, 3)) (ht : (pc : Int) + off = (tgt : Int)) (kt : b ≤ a → W p l e R s m args below meth c H locs cells slots Q (F0 m tgt ls rest)) (kf : a < b → W p l e R s m args below meth c H locs cells slots Q (F0 m (pc + 3) ls rest)) : W p l e R s m args below meth c H locs cells slots Q (F0 m pc ls (.int (nI b) :: .int (nI a) :: rest)) := lv_icmp_ge hexec hb hdg ht (fun h => kt ((nI_leI hb2 ha).mp h)) (fun h => kf (Nat.not_le.mp (fun q => h ((nI_leI hb2 ha).mpr q))))
theorem n_icmp_gt (hexec : p.tables.exec = Jvm.exec) (hb : c.code = cc) {a b : Nat} (ha : a < 2 ^ 31) (hb2 : b < 2 ^ 31) {off : Int} {tgt : Nat} (hdg : decode cc pc = .ok (.if_icmp .gt off, 3)) (ht : (pc : Int) + off = (tgt : Int)) (kt : b < a → W p l e R s m args below meth c H locs cells slots Q (F0 m tgt ls rest)) (kf : a ≤ b → W p l e R s m args below meth c H locs cells slots Q (F0 m (pc + 3) ls rest)) : W p l e R s m args below meth c H locs cells slots Q (F0 m pc ls (.int (nI b) :: .int (nI a) :: rest)) := lv_icmp_gt hexec hb hdg ht (fun h => kt ((nI_ltI hb2 ha).mp h)) (fun h => kf (Nat.not_lt.mp (fun q => h ((nI_ltI hb2 ha).mpr q))))
theorem n_icmp_le (hexec : p.tables.exec = Jvm.exec) (hb : c.code = cc) {a b : Nat} (ha : a < 2 ^ 31) (hb2 : b < 2 ^ 31) {off : Int} {tgt : Nat} (hdg : decode cc pc = .ok (.if_icmp .le off, 3)) (ht : (pc : Int) + off = (tgt : Int)) (kt : a ≤ b → W p l e R s m args below meth c H locs cells slots Q (F0 m tgt ls rest)) (kf : b < a → W p l e R s m args below meth c H locs cells slots Q (F0 m (pc + 3) ls rest)) : W p l e R s m args below meth c H locs cells slots Q (F0 m pc ls (.int (nI b) :: .int (nI a) :: rest)) := lv_icmp_le hexec hb hdg ht (fun h => kt ((nI_leI ha hb2).mp h)) (fun h => kf (Nat.not_le.mp (fun q => h ((nI_leI ha hb2).mpr q))))
theorem n_if_eq (hexec : p.tables.exec = Jvm.exec) (hb : c.code = cc) {a : Nat} (ha : a < 2 ^ 31) {off : Int} {tgt : Nat} (hdg : decode cc pc = .ok (.ifCond .eq off, 3)) (ht : (pc : Int) + off = (tgt : Int)) (kt : a = 0 → W p l e R s m args below meth c H locs cells slots Q (F0 m tgt ls rest)) (kf : 0 < a → W p l e R s m args below meth c H locs cells slots Q (F0 m (pc + 3) ls rest)) : W p l e R s m args below meth c H locs cells slots Q (F0 m pc ls (.int (nI a) :: rest)) := lv_if_eq hexec hb hdg ht (fun h => kt ((nI_eq ha (by decide)).mp (by rw [h, nI_0]))) (fun h => kf (Nat.pos_of_ne_zero (fun q => h (by rw [q, nI_0]))))
theorem n_if_ne (hexec : p.tables.exec = Jvm.exec) (hb : c.code = cc) {a : Nat} (ha : a < 2 ^ 31) {off : Int} {tgt : Nat} (hdg : decode cc pc = .ok (.ifCond .ne off, 3)) (ht : (pc : Int) + off = (tgt : Int)) (kt : 0 < a → W p l e R s m args below meth c H locs cells slots Q (F0 m tgt ls rest)) (kf : a = 0 → W p l e R s m args below meth c H locs cells slots Q (F0 m (pc + 3) ls rest)) : W p l e R s m args below meth c H locs cells slots Q (F0 m pc ls (.int (nI a) :: rest)) := lv_if_ne hexec hb hdg ht (fun h => kt (Nat.pos_of_ne_zero (fun q => h (by rw [q, nI_0])))) (fun h => kf ((nI_eq ha (by decide)).mp (by rw [h, nI_0])))
theorem n_if_lt (hexec : p.tables.exec = Jvm.exec) (hb : c.code = cc) {a : Nat} (ha : a < 2 ^ 31) {off : Int} {tgt : Nat} (hdg : decode cc pc = .ok (.ifCond .lt off, 3)) (ht : (pc : Int) + off = (tgt : Int)) (kf : W p l e R s m args below meth c H locs cells slots Q (F0 m (pc + 3) ls rest)) : W p l e R s m args below meth c H locs cells slots Q (F0 m pc ls (.int (nI a) :: rest)) := lv_if_lt hexec hb hdg ht (fun h => absurd h (nI_pos ha)) (fun _ => kf)
theorem n_if_ge (hexec : p.tables.exec = Jvm.exec) (hb : c.code = cc) {a : Nat} (ha : a < 2 ^ 31) {off : Int} {tgt : Nat} (hdg : decode cc pc = .ok (.ifCond .ge off, 3)) (ht : (pc : Int) + off = (tgt : Int)) (kt : W p l e R s m args below meth c H locs cells slots Q (F0 m tgt ls rest)) : W p l e R s m args below meth c H locs cells slots Q (F0 m pc ls (.int (nI a) :: rest)) := lv_if_ge hexec hb hdg ht (fun _ => kt) (fun h => absurd (nI_pos' ha) h)
theorem n_if_gt (hexec : p.tables.exec = Jvm.exec) (hb : c.code = cc) {a : Nat} (ha : a < 2 ^ 31) {off : Int} {tgt : Nat} (hdg : decode cc pc = .ok (.ifCond .gt off, 3)) (ht : (pc : Int) + off = (tgt : Int)) (kt : 0 < a → W p l e R s m args below meth c H locs cells slots Q (F0 m tgt ls rest)) (kf : a = 0 → W p l e R s m args below meth c H locs cells slots Q (F0 m (pc + 3) ls rest)) : W p l e R s m args below meth c H locs cells slots Q (F0 m pc ls (.int (nI a) :: rest)) := lv_if_gt hexec hb hdg ht (fun h => kt ((nI_ltI (by decide) ha).mp (by rw [nI_0]; exact h))) (fun h => kf (Nat.eq_zero_of_not_pos (fun q => h (by rw [← nI_0]; exact (nI_ltI (by decide) ha).mpr q))))
theorem n_if_le (hexec : p.tables.exec = Jvm.exec) (hb : c.code = cc) {a : Nat} (ha : a < 2 ^ 31) {off : Int} {tgt : Nat} (hdg : decode cc pc = .ok (.ifCond .le off, 3)) (ht : (pc : Int) + off = (tgt : Int)) (kt : a = 0 → W p l e R s m args below meth c H locs cells slots Q (F0 m tgt ls rest)) (kf : 0 < a → W p l e R s m args below meth c H locs cells slots Q (F0 m (pc + 3) ls rest)) : W p l e R s m args below meth c H locs cells slots Q (F0 m pc ls (.int (nI a) :: rest)) := lv_if_le hexec hb hdg ht (fun h => kt (Nat.le_zero.mp ((nI_leI ha (by decide)).mp (by rw [nI_0]; exact h)))) (fun h => kf (Nat.pos_of_ne_zero (fun q => h (by rw [q, nI_0]; exact Int32.le_refl 0))))
variable {D : va_G} {cl : List vw_C} {A : Nat → Prop} {a : Nat} {tys : List (ClassId × FieldType)} {ws : va_W} {H0 : Heap}
theorem k_iald (hexec : p.tables.exec = Jvm.exec) (hb : c.code = cc) (hK : va_K D cl tys s) (hP : va_P D cl ws H) (q0 t0 : Nat) {cA : ClassId} {n : Nat} {f : Nat → Int32} (ha : ws[q0]? = some (a, .inl (cA, n, .inl f))) (ht : tys[t0]? = some (cA, .int)) {j : Nat} (hj : j < n) (hn : n < 2 ^ 31) (hdg : decode cc pc = .ok (.iaload, 1))
    (kk : W p l e R s m args below meth c H locs cells slots Q (F0 m (pc + 1) ls (.int (f j) :: rest))) : W p l e R s m args below meth c H locs cells slots Q (F0 m pc ls (.int (nI j) :: .ref a :: rest)) := va_iald hexec hb hK hP q0 t0 ha ht (vp_in_nI hj hn) hdg (by rw [nI_clamp (Nat.lt_trans hj hn)]; exact kk)
theorem k_zald (hexec : p.tables.exec = Jvm.exec) (hb : c.code = cc) (hK : va_K D cl tys s) (hP : va_P D cl ws H) (q0 t0 : Nat) {cA : ClassId} {n : Nat} {f : Nat → Int32} (ha : ws[q0]? = some (a, .inl (cA, n, .inl f))) (ht : tys[t0]? = some (cA, .boolean)) {j : Nat} (hj : j < n) (hn : n < 2 ^ 31) (hdg : decode cc pc = .ok (.baload, 1))
    (kk : W p l e R s m args below meth c H locs cells slots Q (F0 m (pc + 1) ls (.int (f j) :: rest))) : W p l e R s m args below meth c H locs cells slots Q (F0 m pc ls (.int (nI j) :: .ref a :: rest)) := va_zald hexec hb hK hP q0 t0 ha ht (vp_in_nI hj hn) hdg (by rw [nI_clamp (Nat.lt_trans hj hn)]; exact kk)
theorem k_iast (hexec : p.tables.exec = Jvm.exec) (hb : c.code = cc) (hK : va_K D cl tys s) (hP : va_P D cl ws H) (hD : va_D A ws) (hS : va_S A H0 H locs) (q0 t0 : Nat) {cA : ClassId} {n : Nat} {f : Nat → Int32} (ha : ws[q0]? = some (a, .inl (cA, n, .inl f))) (ht : tys[t0]? = some (cA, .int)) {j : Nat} {x : Int32} (hj : j < n) (hn : n < 2 ^ 31) (hdg : decode cc pc = .ok (.iastore, 1))
    (kk : ∀ (H1 : Heap) (locs1 : List Loc), va_P D cl (ws.set q0 (a, .inl (cA, n, .inl (upd f j x)))) H1 → va_D A (ws.set q0 (a, .inl (cA, n, .inl (upd f j x)))) → va_S A H0 H1 locs1 → W p l e R s m args below meth c H1 locs1 cells slots Q (F0 m (pc + 1) ls rest)) : W p l e R s m args below meth c H locs cells slots Q (F0 m pc ls (.int x :: .int (nI j) :: .ref a :: rest)) := va_iast hexec hb hK hP hD hS q0 t0 ha ht (vp_in_nI hj hn) hdg (by rw [nI_clamp (Nat.lt_trans hj hn)]; exact kk)
theorem k_aald (hexec : p.tables.exec = Jvm.exec) (hb : c.code = cc) (hK : va_K D cl tys s) (hP : va_P D cl ws H) (q0 t0 : Nat) {cA : ClassId} {C : String} {n : Nat} {f : Nat → Nat} (ha : ws[q0]? = some (a, .inl (cA, n, .inr (.inr (.inr (.inr (fun k => some (f k)))))))) (ht : tys[t0]? = some (cA, .object C)) {j : Nat} (hj : j < n) (hn : n < 2 ^ 31) (hdg : decode cc pc = .ok (.aaload, 1))
    (kk : W p l e R s m args below meth c H locs cells slots Q (F0 m (pc + 1) ls (.ref (f j) :: rest))) : W p l e R s m args below meth c H locs cells slots Q (F0 m pc ls (.int (nI j) :: .ref a :: rest)) := va_aldq hexec hb hK hP q0 t0 ha ht (vp_in_nI hj hn) hdg (by rw [nI_clamp (Nat.lt_trans hj hn)]; exact kk)
theorem k_ti {t N : Nat} {f : Nat → Nat} (hexec : p.tables.exec = Jvm.exec) (hb : c.code = cc) (hT : va_T .int t N (fun j => .int (nI (f j))) A s s.heap) (hS : va_S A s.heap H locs) {j : Nat} (hj : j < N) (hn : N < 2 ^ 31) (hdg : decode cc pc = .ok (.iaload, 1))
    (kk : W p l e R s m args below meth c H locs cells slots Q (F0 m (pc + 1) ls (.int (nI (f j)) :: rest))) : W p l e R s m args below meth c H locs cells slots Q (F0 m pc ls (.int (nI j) :: .ref t :: rest)) := va_ti hexec hb hT hS (vp_in_nI hj hn) (by rw [nI_clamp (Nat.lt_trans hj hn)]) hdg kk
end KW
section KC
variable {p : Program} {l : Launch} {e : Env} {R : Room} {s : State} {m : MethodId} {args : Array Value} {below : List Frame} {meth : Method} {c : Code} {H : Heap} {locs : List Loc} {cells slots : Nat} {Q : State → Prop}
variable {cc : ByteArray} {pc : Nat} {ls : Array Slot} {rest st0 As : List Value} {A : Nat → Prop} {ws wc : va_W} {G : va_G} {E : cEnv}
variable {bytes : ByteArray} {nL maxL index n : Nat} {own C : String} {y : MethodName} {ret : Option FieldType} {rm : Room} {Ts wl ws' : List Cond} {b : Nat}
/-- a call that writes nothing, of an instance -/
theorem rv_i {post : Int32 → Prop} (S : CallFix p m c cc nL s args Ts own) (hK : KK G E s) (hZ : SW A s s.heap) (hS : va_S A s.heap H locs) (hM : Met l y wl rm (va_Pc (.ref b :: As) (PR G E wc)) (vp_Si post) 0 0 (fun _ => False)) (hG : GoodIn Ts (wsV own index C y wl)) (hw : wl = Cond.code y bytes maxL ret :: ws') (hrc : rm.cells = 0) (hrs : rm.slots = 0)
    (hd : y.cls = C ∧ y.cls ≠ "java/lang/invoke/MethodHandle" ∧ y.cls ≠ "java/lang/invoke/VarHandle" ∧ (parseMethodDescriptor y.desc).map (fun d => d.parameters.length) = some n) (hR : rm.frames + 1 ≤ R.frames ∧ 8 + (maxL + 11) + rm.locals ≤ R.locals) (hP : va_P G vwCl wc H) {ci q0 : Nat} {fs : List Value} {T : u_T} {N : Nat} (hc : vwCl[ci]? = some (C, T, N)) (he : wc[q0]? = some (b, .inr (ci, fs)))
    (hl : ls.size = nL) (hn : As.length = n) (hst : st0 = As.reverse ++ .ref b :: rest) (hW : (rest.map fun v => v.category).sum ≤ 8) (hdg : decode cc pc = .ok (.invokevirtual index, 3)) (hf : cells + 0 ≤ R.cells ∧ slots + 0 ≤ R.slots)
    (kk : ∀ r : Int32, post r → W p l e R s m args below meth c H locs cells slots Q (F0 m (pc + 3) ls (.int r :: rest))) : W p l e R s m args below meth c H locs cells slots Q (F0 m pc ls st0) :=
  vp_callSi (W.runV S hM (cwV n S.2.2.2.2 hG hw hrc hrs hd hR) ⟨PR.blind, va_recv hK hP hc he, PR.pre hK hZ hS hP⟩ rfl hn hl hst (lv_room hW) hdg hf) kk
/-- a call that writes nothing, of a static method -/
theorem rs_i {post : Int32 → Prop} (S : CallFix p m c cc nL s args Ts own) (hK : KK G E s) (hZ : SW A s s.heap) (hS : va_S A s.heap H locs) (hM : Met l y wl rm (va_Pc As (PR G E wc)) (vp_Si post) 0 0 (fun _ => False)) (hG : GoodIn Ts (wsS own index y wl)) (hw : wl = Cond.code y bytes maxL ret :: ws') (hrc : rm.cells = 0) (hrs : rm.slots = 0)
    (hd : y.cls = own ∧ y.cls ≠ "java/lang/invoke/MethodHandle" ∧ y.cls ≠ "java/lang/invoke/VarHandle" ∧ (parseMethodDescriptor y.desc).map (fun d => d.parameters.length) = some n) (hR : rm.frames + 1 ≤ R.frames ∧ 8 + (maxL + 11) + rm.locals ≤ R.locals) (hP : va_P G vwCl wc H)
    (hl : ls.size = nL) (hn : As.length = n) (hst : st0 = As.reverse ++ rest) (hW : (rest.map fun v => v.category).sum ≤ 8) (hdg : decode cc pc = .ok (.invokestatic index, 3)) (hf : cells + 0 ≤ R.cells ∧ slots + 0 ≤ R.slots)
    (kk : ∀ r : Int32, post r → W p l e R s m args below meth c H locs cells slots Q (F0 m (pc + 3) ls (.int r :: rest))) : W p l e R s m args below meth c H locs cells slots Q (F0 m pc ls st0) :=
  vp_callSi (W.runS S hM (cwS n S.2.2.2.2 hG hw hrc hrs hd hR) ⟨PR.blind, PR.pre hK hZ hS hP⟩ rfl hn hl hst (lv_room hW) hdg hf) kk
/-- a call that writes, of an instance, without an answer: its cells come back where they were -/
theorem wv_v {Sg : Type} {post : Sg → Prop} {wn : Sg → va_W} (S : CallFix p m c cc nL s args Ts own) (hK : KK G E s) (hZ : SW A s s.heap) (hS : va_S A s.heap H locs) (hA : ∀ q, s.heap.size ≤ q → A q) (hM : ∀ sz, Met l y wl rm (va_Pc (.ref b :: As) (PW G E wc sz)) (va_Qv post (fun u t => va_P G vwCl (wn u) t.heap) (va_A wc sz)) 0 0 (va_A wc sz)) (hG : GoodIn Ts (wsV own index C y wl)) (hw : wl = Cond.code y bytes maxL ret :: ws') (hrc : rm.cells = 0) (hrs : rm.slots = 0)
    (hd : y.cls = C ∧ y.cls ≠ "java/lang/invoke/MethodHandle" ∧ y.cls ≠ "java/lang/invoke/VarHandle" ∧ (parseMethodDescriptor y.desc).map (fun d => d.parameters.length) = some n) (hR : rm.frames + 1 ≤ R.frames ∧ 8 + (maxL + 11) + rm.locals ≤ R.locals) (hP : va_P G vwCl ws H) (hD : va_D A ws) (is : List Nat) (hC : is.map (fun i => ws[i]?) = wc.map some) (hnd : va_nd is = true) (ha : ∀ u, (wn u).map Prod.fst = wc.map Prod.fst) {ci q0 : Nat} {fs : List Value} {T : u_T} {N : Nat} (hc : vwCl[ci]? = some (C, T, N)) (he : ws[q0]? = some (b, .inr (ci, fs)))
    (hl : ls.size = nL) (hn : As.length = n) (hst : st0 = As.reverse ++ .ref b :: rest) (hW : (rest.map fun v => v.category).sum ≤ 8) (hdg : decode cc pc = .ok (.invokevirtual index, 3)) (hf : cells + 0 ≤ R.cells ∧ slots + 0 ≤ R.slots)
    (kk : ∀ (u : Sg) (H1 : Heap) (locs1 : List Loc), post u → va_P G vwCl (setAll ws is (wn u)) H1 → va_D A (setAll ws is (wn u)) → va_S A s.heap H1 locs1 → W p l e R s m args below meth c H1 locs1 cells slots Q (F0 m (pc + 3) ls rest)) : W p l e R s m args below meth c H locs cells slots Q (F0 m pc ls st0) := by
  have hF := va_free (wc := wc) hD hS hA is hC
  have hPc : va_P G vwCl wc H := fun k q hk => by
    obtain ⟨i, -, h2⟩ := va_in_of is hC hk
    exact hP i q h2
  have hDc : va_D A wc := hD.sub is hnd hC
  refine va_callv (va_runV S (hM H.size) (cwV n S.2.2.2.2 hG hw hrc hrs hd hR) ⟨PW.blind, va_recv hK hP hc he, PW.pre hK hZ hS hPc hDc hF⟩ rfl hn hl hst (lv_room hW) hdg hf) hS (fun q _ h => hF q h) (fun q h => hF q h) ?_
  intro u t H1 locs1 ht _ hp hB _ hk1 hS1
  rw [ht] at hB
  obtain ⟨h1, h2⟩ := k_join hP hD is hC hnd (ha u) hk1 hB
  exact kk u H1 locs1 hp h1 h2 hS1
theorem wv_i {Sg : Type} {post : Int32 → Sg → Prop} {wn : Sg → va_W} (S : CallFix p m c cc nL s args Ts own) (hK : KK G E s) (hZ : SW A s s.heap) (hS : va_S A s.heap H locs) (hA : ∀ q, s.heap.size ≤ q → A q) (hM : ∀ sz, Met l y wl rm (va_Pc (.ref b :: As) (PW G E wc sz)) (va_Qi post (fun u t => va_P G vwCl (wn u) t.heap) (va_A wc sz)) 0 0 (va_A wc sz)) (hG : GoodIn Ts (wsV own index C y wl)) (hw : wl = Cond.code y bytes maxL ret :: ws') (hrc : rm.cells = 0) (hrs : rm.slots = 0)
    (hd : y.cls = C ∧ y.cls ≠ "java/lang/invoke/MethodHandle" ∧ y.cls ≠ "java/lang/invoke/VarHandle" ∧ (parseMethodDescriptor y.desc).map (fun d => d.parameters.length) = some n) (hR : rm.frames + 1 ≤ R.frames ∧ 8 + (maxL + 11) + rm.locals ≤ R.locals) (hP : va_P G vwCl ws H) (hD : va_D A ws) (is : List Nat) (hC : is.map (fun i => ws[i]?) = wc.map some) (hnd : va_nd is = true) (ha : ∀ u, (wn u).map Prod.fst = wc.map Prod.fst) {ci q0 : Nat} {fs : List Value} {T : u_T} {N : Nat} (hc : vwCl[ci]? = some (C, T, N)) (he : ws[q0]? = some (b, .inr (ci, fs)))
    (hl : ls.size = nL) (hn : As.length = n) (hst : st0 = As.reverse ++ .ref b :: rest) (hW : (rest.map fun v => v.category).sum ≤ 8) (hdg : decode cc pc = .ok (.invokevirtual index, 3)) (hf : cells + 0 ≤ R.cells ∧ slots + 0 ≤ R.slots)
    (kk : ∀ (r : Int32) (u : Sg) (H1 : Heap) (locs1 : List Loc), post r u → va_P G vwCl (setAll ws is (wn u)) H1 → va_D A (setAll ws is (wn u)) → va_S A s.heap H1 locs1 → W p l e R s m args below meth c H1 locs1 cells slots Q (F0 m (pc + 3) ls (.int r :: rest))) : W p l e R s m args below meth c H locs cells slots Q (F0 m pc ls st0) := by
  have hF := va_free (wc := wc) hD hS hA is hC
  have hPc : va_P G vwCl wc H := fun k q hk => by
    obtain ⟨i, -, h2⟩ := va_in_of is hC hk
    exact hP i q h2
  have hDc : va_D A wc := hD.sub is hnd hC
  refine va_calli (va_runV S (hM H.size) (cwV n S.2.2.2.2 hG hw hrc hrs hd hR) ⟨PW.blind, va_recv hK hP hc he, PW.pre hK hZ hS hPc hDc hF⟩ rfl hn hl hst (lv_room hW) hdg hf) hS (fun q _ h => hF q h) (fun q h => hF q h) ?_
  intro r u t H1 locs1 ht _ hp hB _ hk1 hS1
  rw [ht] at hB
  obtain ⟨h1, h2⟩ := k_join hP hD is hC hnd (ha u) hk1 hB
  exact kk r u H1 locs1 hp h1 h2 hS1
end KC
theorem k_inc (k : Nat) : nI k + Int32.ofInt 1 = nI (k + 1) := nI_1 k
theorem k_dec (k : Nat) : nI (k + 1) + Int32.ofInt (-1) = nI k := pk_m1 k
theorem k_out (x : Int32) (hi : Nat) (hh : hi + 1 < 2 ^ 31) (h : ∀ j : Nat, j ≤ hi → ¬ x = nI j) : x.toInt < 0 ∨ (hi : Int) < x.toInt := by
  rcases pk_ix x (n := hi + 1) hh with h1 | h1 | ⟨j, h1, h2⟩
  · left
    exact Int32.lt_iff_toInt_lt.mp h1
  · right
    have h2 := Int32.le_iff_toInt_le.mp h1
    rw [nI_toInt hh] at h2
    omega
  · exact absurd h2 (h j (by omega))
theorem k_nneg {k : Nat} {z : Int32} (hz : z < 0) (hk : k < 2 ^ 31) : ¬ nI k = z := fun q => nI_pos hk (by rw [q]; exact hz)
theorem nar_b {x : Int32} (h : x = nI 0 ∨ x = nI 1) : narrow .boolean (.int x) = .int x := by rcases h with rfl | rfl <;> rfl
end
section
/-! numbers in ranges -/
theorem w_ix {x : Int32} {n : Nat} (hn : n < 2 ^ 31) : (nI 0 ≤ x ∧ x ≤ nI n - nI 1) ↔ ∃ j : Nat, j < n ∧ x = nI j := by
  constructor
  · rintro ⟨h1, h2⟩
    rw [nI_0] at h1
    obtain ⟨j, hj, rfl⟩ := nI_of (x := x) (fun q => by
      have a := Int32.le_iff_toInt_le.mp h1
      have b := Int32.lt_iff_toInt_lt.mp q
      omega)
    refine ⟨j, ?_, rfl⟩
    rcases Nat.eq_zero_or_pos n with q | q
    · subst q
      exfalso
      have a := Int32.le_iff_toInt_le.mp h2
      rw [nI_toInt hj] at a
      have : (nI 0 - nI 1).toInt = -1 := by decide
      omega
    · rw [pk_sub (show 1 ≤ n by omega)] at h2
      have := (nI_leI hj (by omega)).mp h2
      omega
  · rintro ⟨j, hj, rfl⟩
    refine ⟨nI_le (Nat.zero_le _) (by omega), ?_⟩
    rw [pk_sub (show 1 ≤ n by omega)]
    exact nI_le (by omega) (by omega)
theorem w_rg {x : Int32} {a b : Nat} (ha : a < 2 ^ 31) (hb : b < 2 ^ 31) : (nI a ≤ x ∧ x ≤ nI b) ↔ ∃ j : Nat, a ≤ j ∧ j ≤ b ∧ x = nI j := by
  constructor
  · rintro ⟨h1, h2⟩
    obtain ⟨j, hj, rfl⟩ := nI_of (x := x) (fun q => by
      have a1 := Int32.le_iff_toInt_le.mp h1
      have b1 := Int32.lt_iff_toInt_lt.mp q
      rw [nI_toInt ha] at a1
      have : (0 : Int32).toInt = 0 := by decide
      omega)
    exact ⟨j, (nI_leI ha hj).mp h1, (nI_leI hj hb).mp h2, rfl⟩
  · rintro ⟨j, h1, h2, rfl⟩
    exact ⟨nI_le h1 (by omega), nI_le h2 hb⟩
theorem w_ix2 {x : Int32} {n : Nat} (hn : n < 2 ^ 31) : (¬ x < 0 ∧ ¬ nI n ≤ x) ↔ ∃ j : Nat, j < n ∧ x = nI j := by
  constructor
  · rintro ⟨h1, h2⟩
    rcases pk_ix x hn with q | q | q
    · exact absurd q h1
    · exact absurd q h2
    · exact q
  · rintro ⟨j, hj, rfl⟩
    exact ⟨nI_pos (by omega), fun q => by have := (nI_leI hn (by omega)).mp q; omega⟩
theorem i_lt {a b : Int32} : a < b ↔ a.toInt < b.toInt := Int32.lt_iff_toInt_lt
theorem i_le {a b : Int32} : a ≤ b ↔ a.toInt ≤ b.toInt := Int32.le_iff_toInt_le
end
section
/-! digits of a told number -/
def len (t : Nat) : Nat := if t = 0 then 0 else len (t / 10) + 1
termination_by t
decreasing_by omega
theorem len_0 : len 0 = 0 := by rw [len]; rfl
theorem len_s {t : Nat} (h : 0 < t) : len t = len (t / 10) + 1 := by rw [len, if_neg (by omega)]
theorem len_pos {t : Nat} (h : 0 < t) : 0 < len t := by rw [len_s h]; omega
theorem len_z {t : Nat} : len t = 0 ↔ t = 0 := by
  constructor
  · intro h
    rcases Nat.eq_zero_or_pos t with q | q
    · exact q
    · have := len_pos q; omega
  · intro h; rw [h, len_0]
theorem len_lt : ∀ (n t : Nat), t < 10 ^ n ↔ len t ≤ n
  | 0, t => by
    rw [Nat.pow_zero]
    constructor
    · intro h; rw [show t = 0 by omega, len_0]; omega
    · intro h; have := len_z.mp (show len t = 0 by omega); omega
  | n + 1, t => by
    rcases Nat.eq_zero_or_pos t with q | q
    · subst q
      rw [len_0]
      exact ⟨fun _ => Nat.zero_le _, fun _ => Nat.pow_pos (by omega)⟩
    · rw [len_s q]
      have ih := len_lt n (t / 10)
      rw [Nat.pow_succ]
      constructor
      · intro h
        have := ih.mp (by omega)
        omega
      · intro h
        have := ih.mpr (by omega)
        omega
theorem len_ge {t : Nat} (h : 0 < t) : 10 ^ (len t - 1) ≤ t := by
  rcases Nat.lt_or_ge t (10 ^ (len t - 1)) with q | q
  · have h1 := (len_lt _ _).mp q
    have h2 := len_pos h
    omega
  · exact q
/-- no digit is 0 -/
def nzb (t : Nat) : Bool := if t = 0 then true else (t % 10 != 0) && nzb (t / 10)
termination_by t
decreasing_by omega
theorem nzb_0 : nzb 0 = true := by rw [nzb]; rfl
theorem nzb_s {t : Nat} (h : 0 < t) : nzb t = ((t % 10 != 0) && nzb (t / 10)) := by rw [nzb, if_neg (by omega)]
theorem nzb_div {t : Nat} (h : nzb t = true) : ∀ k : Nat, nzb (t / 10 ^ k) = true
  | 0 => by simpa using h
  | k + 1 => by
    have ih := nzb_div h k
    rw [Nat.pow_succ, ← Nat.div_div_eq_div_mul]
    rcases Nat.eq_zero_or_pos (t / 10 ^ k) with q | q
    · rw [q]; exact nzb_0
    · rw [nzb_s q] at ih
      simp only [Bool.and_eq_true] at ih
      exact ih.2
/-- the token at a place -/
def tok (t k : Nat) : Nat := t / 10 ^ (len t - 1 - k) % 10
theorem tok_lt (t k : Nat) : tok t k < 10 := Nat.mod_lt _ (by omega)
theorem tok_pos {t k : Nat} (h : nzb t = true) (hk : k < len t) : 0 < tok t k := by
  have h0 : 0 < t := by
    rcases Nat.eq_zero_or_pos t with q | q
    · rw [q, len_0] at hk; omega
    · exact q
  have h1 := nzb_div h (len t - 1 - k)
  have h2 : 0 < t / 10 ^ (len t - 1 - k) := by
    apply Nat.div_pos _ (Nat.pow_pos (by omega))
    exact Nat.le_trans (Nat.pow_le_pow_right (by omega) (by omega)) (len_ge h0)
  rw [nzb_s h2] at h1
  simp only [Bool.and_eq_true, bne_iff_ne, ne_eq] at h1
  show 0 < t / 10 ^ (len t - 1 - k) % 10
  omega
/-- what is told as tokens -/
def okT (x : Int32) : Prop := ∃ t : Nat, t < 1000000000 ∧ nzb t = true ∧ x = nI t
def wd1 (k : Nat) : Nat := if k = 1 then 3 else if k = 7 then 2 else if k = 9 then 4 else 1
theorem wd1_eq {k : Nat} (h : 0 < k) : wd1 k = wdN k := by unfold wd1 wdN; rw [if_neg (by omega : ¬ k = 0)]
/-- the width of the first i tokens -/
def wsum (t : Nat) : Nat → Nat
  | 0 => 0
  | i + 1 => wsum t i + wdN (tok t i)
/-- a setting's range, a style's, a pocket's kind -/
def okS (k : Nat) (x : Int32) : Prop := if k < 2 then (nI 1 ≤ x ∧ x ≤ nI 8) else (nI 0 ≤ x ∧ x ≤ nI 1)
def okSt (x0 x1 x2 x3 : Int32) : Prop := okS 0 x0 ∧ okS 1 x1 ∧ okS 2 x2 ∧ okS 3 x3
def tkO (x y : Int32) : Prop := y = 0 ∨ x = y ∨ (y = nI 2 ∧ x = nI 3)
end
section
/-! the worlds: cells of the reference -/
abbrev rW (E : cEnv) (a : Nat → Nat) (ln op dp la : Nat) (row seen sty lineO tokO atO baseO kindO partO colO openO strayO stk bys was gsd cellsO sortO kLine kAt kKind : Nat → Int32) : va_W := [(a 0, .inr (6, [.int (nI ln), .ref (a 1), .ref (a 2), .ref (a 3), .int (nI op), .ref (a 5), .ref (a 6), .ref (a 7), .ref (a 8), .ref (a 9), .ref (a 10), .ref (a 11), .ref (a 12), .ref (a 13), .int (nI dp), .ref (a 15), .int (nI la), .ref (a 17), .ref (a 18), .ref (a 19), .ref (a 20), .ref (a 21), .ref (a 22), .ref (a 23), .ref (a 24)])),
  (a 1, .inl (E.1, 20, .inl row)),
  (a 2, .inl (E.1, 20, .inl seen)),
  (a 3, .inl (E.1, 4, .inl sty)),
  (a 5, .inl (E.1, 180, .inl lineO)),
  (a 6, .inl (E.1, 180, .inl tokO)),
  (a 7, .inl (E.1, 180, .inl atO)),
  (a 8, .inl (E.1, 180, .inl baseO)),
  (a 9, .inl (E.1, 180, .inl kindO)),
  (a 10, .inl (E.1, 180, .inl partO)),
  (a 11, .inl (E.1, 20, .inl colO)),
  (a 12, .inl (E.1, 20, .inl openO)),
  (a 13, .inl (E.1, 20, .inl strayO)),
  (a 15, .inl (E.1, 180, .inl stk)),
  (a 17, .inl (E.1, 4, .inl bys)),
  (a 18, .inl (E.1, 20, .inl was)),
  (a 19, .inl (E.1, 5, .inl gsd)),
  (a 20, .inl (E.1, 3, .inl cellsO)),
  (a 21, .inl (E.1, 3, .inl sortO)),
  (a 22, .inl (E.1, 18, .inl kLine)),
  (a 23, .inl (E.1, 18, .inl kAt)),
  (a 24, .inl (E.1, 18, .inl kKind))]
end
section
/-! what lies on what: the tokens gone through, as numbers -/
def pr (t n : Nat) : Nat → Nat
  | 0 => n
  | j + 1 => if tok t (n - (j + 1)) = 9 then n - j else pr t n j
/-- how many tokens are there: up to a note and with it -/
def pres (t : Nat) : Nat := pr t (len t) (len t)
def isP (t p : Nat) : Prop := p ≤ len t ∧ (∀ i, i + 1 < p → tok t i ≠ 9) ∧ (p < len t → 0 < p ∧ tok t (p - 1) = 9)
theorem pr_ok (t n : Nat) : ∀ j, j ≤ n → n - j ≤ pr t n j ∧ pr t n j ≤ n ∧ (∀ i, n - j ≤ i → i + 1 < pr t n j → tok t i ≠ 9) ∧ (pr t n j < n → n - j < pr t n j ∧ tok t (pr t n j - 1) = 9)
  | 0, _ => by
    show n - 0 ≤ n ∧ n ≤ n ∧ _ ∧ _
    exact ⟨by omega, by omega, fun i h1 h2 => absurd h2 (by show ¬ i + 1 < n; omega), fun h => absurd h (by show ¬ n < n; omega)⟩
  | j + 1, hj => by
    have ih := pr_ok t n j (by omega)
    unfold pr
    by_cases h : tok t (n - (j + 1)) = 9
    · rw [if_pos h]
      refine ⟨by omega, by omega, fun i h1 h2 => by omega, fun _ => ⟨by omega, ?_⟩⟩
      rw [show n - j - 1 = n - (j + 1) by omega]
      exact h
    · rw [if_neg h]
      refine ⟨by omega, ih.2.1, fun i h1 h2 => ?_, fun q => ⟨by have := (ih.2.2.2 q).1; omega, (ih.2.2.2 q).2⟩⟩
      by_cases hi : i = n - (j + 1)
      · rw [hi]; exact h
      · exact ih.2.2.1 i (by omega) h2
theorem pres_ok (t : Nat) : isP t (pres t) := by
  have h := pr_ok t (len t) (len t) (Nat.le_refl _)
  refine ⟨h.2.1, fun i hi => h.2.2.1 i (by omega) hi, fun q => ?_⟩
  have := h.2.2.2 q
  rw [Nat.sub_self] at this
  exact this
theorem isP_one {t p q : Nat} (hp : isP t p) (hq : isP t q) : p = q := by
  rcases Nat.lt_trichotomy p q with h | h | h
  · have h1 := hp.2.2 (Nat.lt_of_lt_of_le h hq.1)
    exact absurd h1.2 (hq.2.1 (p - 1) (by omega))
  · exact h
  · have h1 := hq.2.2 (Nat.lt_of_lt_of_le h hp.1)
    exact absurd h1.2 (hp.2.1 (q - 1) (by omega))
theorem pres_le (t : Nat) : pres t ≤ len t := (pres_ok t).1
theorem pres_pos {t : Nat} (h : 0 < len t) : 0 < pres t := by
  rcases Nat.eq_zero_or_pos (pres t) with q | q
  · have := ((pres_ok t).2.2 (by omega)).1
    omega
  · exact q
abbrev NS : Type := Nat × Nat × Nat × (Nat → Nat → Nat)
abbrev nO (S : NS) : Nat := S.1
abbrev nD (S : NS) : Nat := S.2.1
abbrev nL (S : NS) : Nat := S.2.2.1
abbrev nF (S : NS) : Nat → Nat → Nat := S.2.2.2
/-- rows: 0 sort, 1 line, 2 token, 3 width ahead, 4 followed, 5 partner's line and 1, 6 what is on the stack, 7 stray, 8 top and 1, 9 depth, 10 last -/
def up2 (F : Nat → Nat → Nat) (k i v : Nat) : Nat → Nat → Nat := fun x y => if x = k ∧ y = i then v else F x y
theorem up2_k {F : Nat → Nat → Nat} {k i v x y : Nat} (h : x ≠ k) : up2 F k i v x y = F x y := by
  unfold up2; rw [if_neg (fun q => h q.1)]
theorem up2_i {F : Nat → Nat → Nat} {k i v x y : Nat} (h : y ≠ i) : up2 F k i v x y = F x y := by
  unfold up2; rw [if_neg (fun q => h q.2)]
theorem up2_s {F : Nat → Nat → Nat} {k i v : Nat} : up2 F k i v k i = v := by
  unfold up2; rw [if_pos ⟨rfl, rfl⟩]
def folw (t i : Nat) : Nat := if i + 1 < pres t ∧ tok t (i + 1) ≠ 9 then 1 else 0
def nOpen (t li i : Nat) (S : NS) : NS :=
  (nO S + 1, nD S + 1, nL S, up2 (up2 (up2 (up2 (up2 (up2 (up2 (nF S) 0 (nO S) (tok t i)) 1 (nO S) li) 2 (nO S) i) 3 (nO S) (wsum t i)) 4 (nO S) (folw t i)) 5 (nO S) 0) 6 (nD S) (nO S))
def nClose (k li : Nat) (S : NS) : NS :=
  if 0 < nD S ∧ nF S 0 (nF S 6 (nD S - 1)) = k then (nO S, nD S - 1, nL S, up2 (nF S) 5 (nF S 6 (nD S - 1)) (li + 1)) else (nO S, nD S, nL S, up2 (nF S) 7 li (nF S 7 li + 1))
def nAct (t li i : Nat) (S : NS) : NS :=
  if tok t i = 2 ∨ tok t i = 4 then nOpen t li i S else if tok t i = 3 then nClose 2 li S else if tok t i = 5 then nClose 4 li S else S
def nTok (t li i : Nat) (S : NS) : NS :=
  (nO (nAct t li i S), nD (nAct t li i S), if tok t i = 9 then nL S else tok t i, nF (nAct t li i S))
def topN (S : NS) : Nat := if nD S = 0 then 0 else nF S 6 (nD S - 1) + 1
def nStart (li : Nat) (S : NS) : NS :=
  (nO S, nD S, nL S, up2 (up2 (up2 (up2 (nF S) 8 li (topN S)) 9 li (nD S)) 10 li (nL S)) 7 li 0)
def nLine (t li : Nat) (S : NS) : Nat → NS
  | 0 => S
  | i + 1 => nTok t li i (nLine t li S i)
def nAll (row : Nat → Nat) : Nat → NS
  | 0 => (0, 0, 0, fun _ _ => 0)
  | li + 1 => nLine (row li) li (nStart li (nAll row li)) (pres (row li))
/-- what holds of all these numbers: lines below L, at most b openers -/
def wfN (S : NS) (L b : Nat) : Prop := nD S ≤ nO S ∧ nO S ≤ b ∧ (∀ j, j < nD S → nF S 6 j < nO S) ∧ (∀ k, k < nO S → nF S 1 k < L ∧ (nF S 0 k = 2 ∨ nF S 0 k = 4)) ∧ nL S < 10
theorem wfN.up {S : NS} {L b L2 b2 : Nat} (h : wfN S L b) (hL : L ≤ L2) (hb : b ≤ b2) : wfN S L2 b2 :=
  ⟨h.1, Nat.le_trans h.2.1 hb, h.2.2.1, fun k hk => ⟨Nat.lt_of_lt_of_le (h.2.2.2.1 k hk).1 hL, (h.2.2.2.1 k hk).2⟩, h.2.2.2.2⟩
theorem wfN_start {S : NS} {L b li : Nat} (h : wfN S L b) : wfN (nStart li S) L b := by
  obtain ⟨h1, h2, h3, h4, h5⟩ := h
  refine ⟨h1, h2, fun j hj => ?_, fun k hk => ?_, h5⟩
  · show up2 (up2 (up2 (up2 (nF S) 8 li (topN S)) 9 li (nD S)) 10 li (nL S)) 7 li 0 6 j < nO S
    simp only [up2_k (show (6:Nat) ≠ 7 by decide), up2_k (show (6:Nat) ≠ 10 by decide), up2_k (show (6:Nat) ≠ 9 by decide), up2_k (show (6:Nat) ≠ 8 by decide)]
    exact h3 j hj
  · show up2 (up2 (up2 (up2 (nF S) 8 li (topN S)) 9 li (nD S)) 10 li (nL S)) 7 li 0 1 k < L ∧ (up2 (up2 (up2 (up2 (nF S) 8 li (topN S)) 9 li (nD S)) 10 li (nL S)) 7 li 0 0 k = 2 ∨ up2 (up2 (up2 (up2 (nF S) 8 li (topN S)) 9 li (nD S)) 10 li (nL S)) 7 li 0 0 k = 4)
    simp only [up2_k (show (1:Nat) ≠ 7 by decide), up2_k (show (1:Nat) ≠ 10 by decide), up2_k (show (1:Nat) ≠ 9 by decide), up2_k (show (1:Nat) ≠ 8 by decide), up2_k (show (0:Nat) ≠ 7 by decide), up2_k (show (0:Nat) ≠ 10 by decide), up2_k (show (0:Nat) ≠ 9 by decide), up2_k (show (0:Nat) ≠ 8 by decide)]
    exact h4 k hk
theorem nOpen_F {t li i : Nat} {S : NS} (x y : Nat) : nF (nOpen t li i S) x y = if x = 6 ∧ y = nD S then nO S else if x = 5 ∧ y = nO S then 0 else if x = 4 ∧ y = nO S then folw t i else if x = 3 ∧ y = nO S then wsum t i else if x = 2 ∧ y = nO S then i else if x = 1 ∧ y = nO S then li else if x = 0 ∧ y = nO S then tok t i else nF S x y := rfl
theorem wfN_open {t li i : Nat} {S : NS} {L b : Nat} (h : wfN S L b) (hli : li < L) (ht : tok t i = 2 ∨ tok t i = 4) : wfN (nOpen t li i S) L (b + 1) := by
  obtain ⟨h1, h2, h3, h4, h5⟩ := h
  refine ⟨by show nD S + 1 ≤ nO S + 1; omega, by show nO S + 1 ≤ b + 1; omega, fun j hj => ?_, fun k hk => ?_, h5⟩
  · have hj : j < nD S + 1 := hj
    show nF (nOpen t li i S) 6 j < nO S + 1
    rw [nOpen_F]
    by_cases q : j = nD S
    · rw [if_pos ⟨rfl, q⟩]; omega
    · rw [if_neg (fun z => q z.2)]
      simp only [show ¬ ((6:Nat) = 5) by decide, show ¬ ((6:Nat) = 4) by decide, show ¬ ((6:Nat) = 3) by decide, show ¬ ((6:Nat) = 2) by decide, show ¬ ((6:Nat) = 1) by decide, show ¬ ((6:Nat) = 0) by decide, false_and, if_false]
      have := h3 j (by omega)
      omega
  · have hk : k < nO S + 1 := hk
    show nF (nOpen t li i S) 1 k < L ∧ (nF (nOpen t li i S) 0 k = 2 ∨ nF (nOpen t li i S) 0 k = 4)
    rw [nOpen_F, nOpen_F]
    simp only [show ¬ ((1:Nat) = 6) by decide, show ¬ ((1:Nat) = 5) by decide, show ¬ ((1:Nat) = 4) by decide, show ¬ ((1:Nat) = 3) by decide, show ¬ ((1:Nat) = 2) by decide, show ¬ ((0:Nat) = 6) by decide, show ¬ ((0:Nat) = 5) by decide, show ¬ ((0:Nat) = 4) by decide, show ¬ ((0:Nat) = 3) by decide, show ¬ ((0:Nat) = 2) by decide, show ¬ ((0:Nat) = 1) by decide, show ¬ ((1:Nat) = 0) by decide, false_and, if_false, true_and]
    by_cases q : k = nO S
    · rw [if_pos q, if_pos q]
      exact ⟨hli, ht⟩
    · rw [if_neg q, if_neg q]
      exact h4 k (by omega)
theorem wfN_close {k li : Nat} {S : NS} {L b : Nat} (h : wfN S L b) : wfN (nClose k li S) L b := by
  obtain ⟨h1, h2, h3, h4, h5⟩ := h
  unfold nClose
  by_cases q : 0 < nD S ∧ nF S 0 (nF S 6 (nD S - 1)) = k
  · rw [if_pos q]
    refine ⟨by show nD S - 1 ≤ nO S; omega, h2, fun j hj => ?_, fun x hx => ?_, h5⟩
    · have hj : j < nD S - 1 := hj
      show up2 (nF S) 5 (nF S 6 (nD S - 1)) (li + 1) 6 j < nO S
      rw [up2_k (by decide)]
      exact h3 j (by omega)
    · show up2 (nF S) 5 (nF S 6 (nD S - 1)) (li + 1) 1 x < L ∧ (up2 (nF S) 5 (nF S 6 (nD S - 1)) (li + 1) 0 x = 2 ∨ up2 (nF S) 5 (nF S 6 (nD S - 1)) (li + 1) 0 x = 4)
      rw [up2_k (by decide), up2_k (by decide)]
      exact h4 x hx
  · rw [if_neg q]
    refine ⟨h1, h2, fun j hj => ?_, fun x hx => ?_, h5⟩
    · show up2 (nF S) 7 li (nF S 7 li + 1) 6 j < nO S
      rw [up2_k (by decide)]
      exact h3 j hj
    · show up2 (nF S) 7 li (nF S 7 li + 1) 1 x < L ∧ (up2 (nF S) 7 li (nF S 7 li + 1) 0 x = 2 ∨ up2 (nF S) 7 li (nF S 7 li + 1) 0 x = 4)
      rw [up2_k (by decide), up2_k (by decide)]
      exact h4 x hx
theorem nAct_L (t li i : Nat) (S : NS) : nL (nAct t li i S) = nL S := by
  unfold nAct nClose
  split
  · rfl
  · split
    · split <;> rfl
    · split
      · split <;> rfl
      · rfl
theorem wfN_act {t li i : Nat} {S : NS} {L b : Nat} (h : wfN S L b) (hli : li < L) : wfN (nAct t li i S) L (b + 1) := by
  unfold nAct
  split
  · next q => exact wfN_open h hli q
  · split
    · exact (wfN_close h).up (Nat.le_refl _) (Nat.le_succ _)
    · split
      · exact (wfN_close h).up (Nat.le_refl _) (Nat.le_succ _)
      · exact h.up (Nat.le_refl _) (Nat.le_succ _)
theorem wfN_tok {t li i : Nat} {S : NS} {L b : Nat} (h : wfN S L b) (hli : li < L) : wfN (nTok t li i S) L (b + 1) := by
  obtain ⟨h1, h2, h3, h4, h5⟩ := wfN_act (t := t) (i := i) h hli
  refine ⟨h1, h2, h3, h4, ?_⟩
  show (if tok t i = 9 then nL S else tok t i) < 10
  split
  · exact h.2.2.2.2
  · exact tok_lt t i
theorem wfN_line {t li : Nat} {S : NS} {L b : Nat} (h : wfN S L b) (hli : li < L) : ∀ i, wfN (nLine t li S i) L (b + i)
  | 0 => h
  | i + 1 => wfN_tok (wfN_line h hli i) hli
theorem wfN_all {row : Nat → Nat} : ∀ li, (∀ j, j < li → row j < 1000000000) → wfN (nAll row li) li (9 * li)
  | 0, _ => ⟨Nat.le_refl _, Nat.le_refl _, fun j hj => absurd hj (Nat.not_lt_zero _), fun k hk => absurd hk (Nat.not_lt_zero _), by show 0 < 10; decide⟩
  | li + 1, hr => by
    have ih := wfN_all li (fun j hj => hr j (by omega))
    have h1 := wfN_line (t := row li) (li := li) (wfN_start (li := li) (ih.up (Nat.le_succ li) (Nat.le_refl _))) (Nat.lt_succ_self li) (pres (row li))
    have h2 := (len_lt 9 (row li)).mp (hr li (Nat.lt_succ_self li))
    have h3 := pres_le (row li)
    exact h1.up (Nat.le_refl _) (by omega)
/-! columns -/
def gO (s : Nat → Int32) (x : Int32) (la : Nat) : Int32 := if la = 1 ∨ la = 5 ∨ la = 6 then x + s 1 else if la = 7 then x + s 0 else x
/-- the column behind an opener: brk x: x a bracket that closes or not -/
def cvB (s : Nat → Int32) (F : Nat → Nat → Nat) (C : Nat → Int32) (k la first : Nat) : Int32 :=
  if F 0 k = 4 then
    (if s 2 = nI 1 ∧ F 4 k = 1 then (if first = 5 then C (F 1 k) + nI (F 3 k) else C (F 1 k) + nI (F 3 k) + nI 1)
     else (if first = 5 then C (F 1 k) else C (F 1 k) + s 1))
  else if first = 3 then (if s 3 = nI 1 then C (F 1 k) + s 0 else C (F 1 k)) else gO s (C (F 1 k) + s 0) la
def cvt (s : Nat → Int32) (F : Nat → Nat → Nat) (C : Nat → Int32) (top la first : Nat) : Int32 := if top = 0 then gO s (nI 0) la else cvB s F C (top - 1) la first
theorem cvt_0 {s : Nat → Int32} {F : Nat → Nat → Nat} {C : Nat → Int32} {la first : Nat} : cvt s F C 0 la first = gO s (nI 0) la := rfl
theorem cvt_s {s : Nat → Int32} {F : Nat → Nat → Nat} {C : Nat → Int32} {k la first : Nat} : cvt s F C (k + 1) la first = cvB s F C k la first := rfl
def colAt (s : Nat → Int32) (row : Nat → Nat) (li : Nat) (C : Nat → Int32) : Int32 := if row li = 0 then nI 0 else cvt s (nF (nAll row li)) C (topN (nAll row li)) (nL (nAll row li)) (tok (row li) 0)
def cols (s : Nat → Int32) (row : Nat → Nat) : Nat → (Nat → Int32)
  | 0 => fun _ => nI 0
  | li + 1 => upd (cols s row li) li (colAt s row li (cols s row li))
theorem add_n0 (x : Int32) : x + nI 0 = x := by rw [nI_0]; exact Int32.add_zero x
theorem upd_s {f : Nat → Int32} {k : Nat} {x : Int32} : upd f k x k = x := pk_us
theorem upd_n {f : Nat → Int32} {k j : Nat} {x : Int32} (h : j ≠ k) : upd f k x j = f j := pk_un h
theorem cols_lt {s : Nat → Int32} {row : Nat → Nat} {j li : Nat} (h : j < li) : cols s row (li + 1) j = cols s row li j := upd_n (by omega)
theorem cols_at {s : Nat → Int32} {row : Nat → Nat} {j : Nat} : ∀ {m : Nat}, j < m → cols s row m j = colAt s row j (cols s row j)
  | 0, h => absurd h (Nat.not_lt_zero _)
  | m + 1, h => by
    by_cases q : j = m
    · subst q; exact upd_s
    · rw [cols_lt (by omega)]; exact cols_at (by omega)
theorem cols_le {s : Nat → Int32} {row : Nat → Nat} {j m n : Nat} (h : j < m) (h2 : m ≤ n) : cols s row n j = cols s row m j := by rw [cols_at h, cols_at (by omega : j < n)]
/-! the reference's rows against these numbers -/
def pv (x : Nat) : Int32 := if x = 0 then -9 else nI (x - 1)
def kd (s2 : Int32) (F : Nat → Nat → Nat) (k : Nat) : Nat := if F 0 k = 2 then 1 else if s2 = nI 1 ∧ F 4 k = 1 then 3 else 2
theorem kd_lt (s2 : Int32) (F : Nat → Nat → Nat) (k : Nat) : kd s2 F k < 4 := by
  unfold kd
  split
  · omega
  · split <;> omega
theorem kd_1 {s2 : Int32} {F : Nat → Nat → Nat} {k : Nat} : kd s2 F k = 1 ↔ F 0 k = 2 := by
  unfold kd
  constructor
  · intro h
    by_cases q : F 0 k = 2
    · exact q
    · rw [if_neg q] at h
      split at h <;> omega
  · intro h; rw [if_pos h]
theorem kd_3 {s2 : Int32} {F : Nat → Nat → Nat} {k : Nat} (hb : F 0 k = 4) : kd s2 F k = 3 ↔ (s2 = nI 1 ∧ F 4 k = 1) := by
  unfold kd
  rw [if_neg (by omega)]
  constructor
  · intro h
    by_cases q : s2 = nI 1 ∧ F 4 k = 1
    · exact q
    · rw [if_neg q] at h; omega
  · intro h; rw [if_pos h]
def RR (s2 : Int32) (S : NS) (C : Nat → Int32) (mm : Nat) (lineO tokO atO baseO kindO partO colO openO strayO stk : Nat → Int32) : Prop :=
  (∀ k, k < nO S → lineO k = nI (nF S 1 k) ∧ tokO k = nI (nF S 2 k) ∧ atO k = C (nF S 1 k) + nI (nF S 3 k) ∧ baseO k = C (nF S 1 k) ∧ kindO k = nI (kd s2 (nF S) k) ∧ partO k = pv (nF S 5 k)) ∧
  (∀ j, j < mm → colO j = C j ∧ openO j = nI (nF S 9 j) ∧ strayO j = nI (nF S 7 j)) ∧ (∀ j, j < nD S → stk j = nI (nF S 6 j))
end
section
theorem RR_open {s2 : Int32} {S : NS} {C : Nat → Int32} {mm L b t li i : Nat} {lineO tokO atO baseO kindO partO colO openO strayO stk : Nat → Int32} {kk : Nat} (h : RR s2 S C mm lineO tokO atO baseO kindO partO colO openO strayO stk) (hw : wfN S L b)
    (hk : kk = if tok t i = 2 then 1 else if s2 = nI 1 ∧ folw t i = 1 then 3 else 2) (hC : C li = colO li) :
    RR s2 (nOpen t li i S) C mm (upd lineO (nO S) (nI li)) (upd tokO (nO S) (nI i)) (upd atO (nO S) (C li + nI (wsum t i))) (upd baseO (nO S) (colO li)) (upd kindO (nO S) (nI kk)) (upd partO (nO S) (-9)) colO openO strayO (upd stk (nD S) (nI (nO S))) := by
  obtain ⟨h1, h2, h3⟩ := h
  refine ⟨fun k hk2 => ?_, fun j hj => ?_, fun j hj => ?_⟩
  · have hk2 : k < nO S + 1 := hk2
    have e : kd s2 (nF (nOpen t li i S)) k = if k = nO S then kk else kd s2 (nF S) k := by
      unfold kd
      rw [nOpen_F, nOpen_F]
      simp only [show ¬ ((0:Nat) = 6) by decide, show ¬ ((0:Nat) = 5) by decide, show ¬ ((0:Nat) = 4) by decide, show ¬ ((0:Nat) = 3) by decide, show ¬ ((0:Nat) = 2) by decide, show ¬ ((0:Nat) = 1) by decide, show ¬ ((4:Nat) = 6) by decide, show ¬ ((4:Nat) = 5) by decide, false_and, if_false, true_and, show ¬ ((4:Nat) = 3) by decide, show ¬ ((4:Nat) = 2) by decide, show ¬ ((4:Nat) = 1) by decide, show ¬ ((4:Nat) = 0) by decide]
      by_cases q : k = nO S
      · simp only [q, if_true, hk]
      · simp only [q, if_false]
    rw [nOpen_F, nOpen_F, nOpen_F, nOpen_F, e]
    simp only [show ¬ ((1:Nat) = 6) by decide, show ¬ ((1:Nat) = 5) by decide, show ¬ ((1:Nat) = 4) by decide, show ¬ ((1:Nat) = 3) by decide, show ¬ ((1:Nat) = 2) by decide, show ¬ ((2:Nat) = 6) by decide, show ¬ ((2:Nat) = 5) by decide, show ¬ ((2:Nat) = 4) by decide, show ¬ ((2:Nat) = 3) by decide, show ¬ ((3:Nat) = 6) by decide, show ¬ ((3:Nat) = 5) by decide, show ¬ ((3:Nat) = 4) by decide, show ¬ ((5:Nat) = 6) by decide, show ¬ ((1:Nat) = 0) by decide, show ¬ ((2:Nat) = 1) by decide, show ¬ ((2:Nat) = 0) by decide, show ¬ ((3:Nat) = 2) by decide, show ¬ ((3:Nat) = 1) by decide, show ¬ ((3:Nat) = 0) by decide, show ¬ ((5:Nat) = 4) by decide, show ¬ ((5:Nat) = 3) by decide, show ¬ ((5:Nat) = 2) by decide, show ¬ ((5:Nat) = 1) by decide, show ¬ ((5:Nat) = 0) by decide, false_and, if_false, true_and]
    by_cases q : k = nO S
    · subst q
      simp only [upd_s, if_true, hC]
      refine ⟨?_, ?_, ?_, ?_, ?_, ?_⟩ <;> first | rfl | trivial
    · simp only [upd_n q, q, if_false]
      exact h1 k (by omega)
  · rw [nOpen_F, nOpen_F]
    simp only [show ¬ ((9:Nat) = 6) by decide, show ¬ ((9:Nat) = 5) by decide, show ¬ ((9:Nat) = 4) by decide, show ¬ ((9:Nat) = 3) by decide, show ¬ ((9:Nat) = 2) by decide, show ¬ ((9:Nat) = 1) by decide, show ¬ ((9:Nat) = 0) by decide, show ¬ ((7:Nat) = 6) by decide, show ¬ ((7:Nat) = 5) by decide, show ¬ ((7:Nat) = 4) by decide, show ¬ ((7:Nat) = 3) by decide, show ¬ ((7:Nat) = 2) by decide, show ¬ ((7:Nat) = 1) by decide, show ¬ ((7:Nat) = 0) by decide, false_and, if_false]
    exact h2 j hj
  · have hj : j < nD S + 1 := hj
    rw [nOpen_F]
    simp only [show ¬ ((6:Nat) = 5) by decide, show ¬ ((6:Nat) = 4) by decide, show ¬ ((6:Nat) = 3) by decide, show ¬ ((6:Nat) = 2) by decide, show ¬ ((6:Nat) = 1) by decide, show ¬ ((6:Nat) = 0) by decide, false_and, if_false, true_and]
    by_cases q : j = nD S
    · subst q; simp only [upd_s, if_true]
    · simp only [upd_n q, q, if_false]
      exact h3 j (by omega)
theorem kd_up {s2 : Int32} {F : Nat → Nat → Nat} {x y v k : Nat} (h0 : (0:Nat) ≠ x) (h4 : (4:Nat) ≠ x) : kd s2 (up2 F x y v) k = kd s2 F k := by
  unfold kd
  rw [up2_k h0, up2_k h4]
theorem RR_match {s2 : Int32} {S : NS} {C : Nat → Int32} {mm L b q li : Nat} {lineO tokO atO baseO kindO partO colO openO strayO stk : Nat → Int32} (h : RR s2 S C mm lineO tokO atO baseO kindO partO colO openO strayO stk) (hw : wfN S L b) (hd : 0 < nD S) (hq : nF S 0 (nF S 6 (nD S - 1)) = q) :
    RR s2 (nClose q li S) C mm lineO tokO atO baseO kindO (upd partO (nF S 6 (nD S - 1)) (nI li)) colO openO strayO stk := by
  obtain ⟨h1, h2, h3⟩ := h
  unfold nClose
  rw [if_pos ⟨hd, hq⟩]
  refine ⟨fun k hk => ?_, fun j hj => ?_, fun j hj => ?_⟩
  · show lineO k = nI (up2 (nF S) 5 (nF S 6 (nD S - 1)) (li + 1) 1 k) ∧ tokO k = nI (up2 (nF S) 5 (nF S 6 (nD S - 1)) (li + 1) 2 k) ∧ atO k = C (up2 (nF S) 5 (nF S 6 (nD S - 1)) (li + 1) 1 k) + nI (up2 (nF S) 5 (nF S 6 (nD S - 1)) (li + 1) 3 k) ∧ baseO k = C (up2 (nF S) 5 (nF S 6 (nD S - 1)) (li + 1) 1 k) ∧ kindO k = nI (kd s2 (up2 (nF S) 5 (nF S 6 (nD S - 1)) (li + 1)) k) ∧ upd partO (nF S 6 (nD S - 1)) (nI li) k = pv (up2 (nF S) 5 (nF S 6 (nD S - 1)) (li + 1) 5 k)
    rw [up2_k (by decide), up2_k (by decide), up2_k (by decide), kd_up (by decide) (by decide)]
    have hh := h1 k hk
    refine ⟨hh.1, hh.2.1, hh.2.2.1, hh.2.2.2.1, hh.2.2.2.2.1, ?_⟩
    by_cases z : k = nF S 6 (nD S - 1)
    · rw [← z, upd_s, up2_s]
      rfl
    · rw [upd_n z, up2_i z]
      exact hh.2.2.2.2.2
  · show colO j = C j ∧ openO j = nI (up2 (nF S) 5 (nF S 6 (nD S - 1)) (li + 1) 9 j) ∧ strayO j = nI (up2 (nF S) 5 (nF S 6 (nD S - 1)) (li + 1) 7 j)
    rw [up2_k (by decide), up2_k (by decide)]
    exact h2 j hj
  · have hj : j < nD S - 1 := hj
    show stk j = nI (up2 (nF S) 5 (nF S 6 (nD S - 1)) (li + 1) 6 j)
    rw [up2_k (by decide)]
    exact h3 j (by omega)
theorem RR_stray {s2 : Int32} {S : NS} {C : Nat → Int32} {mm q li : Nat} {lineO tokO atO baseO kindO partO colO openO strayO stk : Nat → Int32} (h : RR s2 S C mm lineO tokO atO baseO kindO partO colO openO strayO stk) (hm : li < mm) (hq : ¬ (0 < nD S ∧ nF S 0 (nF S 6 (nD S - 1)) = q)) :
    RR s2 (nClose q li S) C mm lineO tokO atO baseO kindO partO colO openO (upd strayO li (nI (nF S 7 li + 1))) stk := by
  obtain ⟨h1, h2, h3⟩ := h
  unfold nClose
  rw [if_neg hq]
  refine ⟨fun k hk => ?_, fun j hj => ?_, fun j hj => ?_⟩
  · show lineO k = nI (up2 (nF S) 7 li (nF S 7 li + 1) 1 k) ∧ tokO k = nI (up2 (nF S) 7 li (nF S 7 li + 1) 2 k) ∧ atO k = C (up2 (nF S) 7 li (nF S 7 li + 1) 1 k) + nI (up2 (nF S) 7 li (nF S 7 li + 1) 3 k) ∧ baseO k = C (up2 (nF S) 7 li (nF S 7 li + 1) 1 k) ∧ kindO k = nI (kd s2 (up2 (nF S) 7 li (nF S 7 li + 1)) k) ∧ partO k = pv (up2 (nF S) 7 li (nF S 7 li + 1) 5 k)
    rw [up2_k (by decide), up2_k (by decide), up2_k (by decide), kd_up (by decide) (by decide), up2_k (by decide)]
    exact h1 k hk
  · show colO j = C j ∧ openO j = nI (up2 (nF S) 7 li (nF S 7 li + 1) 9 j) ∧ upd strayO li (nI (nF S 7 li + 1)) j = nI (up2 (nF S) 7 li (nF S 7 li + 1) 7 j)
    rw [up2_k (by decide)]
    have hh := h2 j hj
    refine ⟨hh.1, hh.2.1, ?_⟩
    by_cases z : j = li
    · rw [z, upd_s, up2_s]
    · rw [upd_n z, up2_i z]
      exact hh.2.2
  · show stk j = nI (up2 (nF S) 7 li (nF S 7 li + 1) 6 j)
    rw [up2_k (by decide)]
    exact h3 j hj
theorem RR_last {s2 : Int32} {S S2 : NS} {C : Nat → Int32} {mm : Nat} {lineO tokO atO baseO kindO partO colO openO strayO stk : Nat → Int32} (h : RR s2 S C mm lineO tokO atO baseO kindO partO colO openO strayO stk) (h1 : nO S2 = nO S) (h2 : nD S2 = nD S) (h3 : nF S2 = nF S) : RR s2 S2 C mm lineO tokO atO baseO kindO partO colO openO strayO stk := by
  unfold RR
  rw [h1, h2, h3]
  exact h
/-- a line begins: its column comes, its depth, no strays -/
theorem RR_start {s2 : Int32} {S : NS} {C : Nat → Int32} {li L b : Nat} {v : Int32} {lineO tokO atO baseO kindO partO colO openO strayO stk : Nat → Int32} (h : RR s2 S C li lineO tokO atO baseO kindO partO colO openO strayO stk) (hw : wfN S li b) :
    RR s2 (nStart li S) (upd C li v) (li + 1) lineO tokO atO baseO kindO partO (upd colO li v) (upd openO li (nI (nD S))) (upd strayO li (nI 0)) stk := by
  obtain ⟨h1, h2, h3⟩ := h
  have e : ∀ x y, nF (nStart li S) x y = if x = 7 ∧ y = li then 0 else if x = 10 ∧ y = li then nL S else if x = 9 ∧ y = li then nD S else if x = 8 ∧ y = li then topN S else nF S x y := fun x y => rfl
  have e0 : ∀ x y, x < 7 → nF (nStart li S) x y = nF S x y := fun x y hx => by
    rw [e, if_neg (by omega), if_neg (by omega), if_neg (by omega), if_neg (by omega)]
  refine ⟨fun k hk => ?_, fun j hj => ?_, fun j hj => ?_⟩
  · have hk : k < nO S := hk
    have hl := (hw.2.2.2.1 k hk).1
    have ek : kd s2 (nF (nStart li S)) k = kd s2 (nF S) k := by unfold kd; rw [e0 _ _ (by decide), e0 _ _ (by decide)]
    rw [ek, e0 _ _ (by decide), e0 _ _ (by decide), e0 _ _ (by decide), e0 _ _ (by decide), upd_n (by omega)]
    exact h1 k hk
  · rw [e, e]
    simp only [show ¬ ((9:Nat) = 7) by decide, show ¬ ((9:Nat) = 10) by decide, show ¬ ((7:Nat) = 10) by decide, show ¬ ((7:Nat) = 9) by decide, show ¬ ((7:Nat) = 8) by decide, show ¬ ((9:Nat) = 8) by decide, false_and, if_false, true_and]
    by_cases z : j = li
    · subst z
      simp only [upd_s, if_true]
      refine ⟨?_, ?_, ?_⟩ <;> first | rfl | trivial
    · simp only [upd_n z, z, if_false]
      exact h2 j (by omega)
  · rw [e0 _ _ (by decide)]
    exact h3 j hj
theorem nTok_eq (t li i : Nat) (S : NS) (h : tok t i ≠ 9) : nTok t li i S = (nO (nAct t li i S), nD (nAct t li i S), tok t i, nF (nAct t li i S)) := by unfold nTok; rw [if_neg h]
theorem nTok_eq9 (t li i : Nat) (S : NS) (h : tok t i = 9) : nTok t li i S = S := by
  unfold nTok nAct
  rw [if_pos h]
  simp [h]
theorem folw_n {t i : Nat} (hi : i < pres t) (ht : tok t i ≠ 9) : folw t i = 1 ↔ (i + 1 < len t ∧ tok t (i + 1) ≠ 9) := by
  unfold folw
  have hp := pres_ok t
  constructor
  · intro h
    by_cases q : i + 1 < pres t ∧ tok t (i + 1) ≠ 9
    · exact ⟨by have := hp.1; omega, q.2⟩
    · rw [if_neg q] at h; omega
  · intro h
    rw [if_pos]
    refine ⟨?_, h.2⟩
    rcases Nat.lt_or_ge (i + 1) (pres t) with q | q
    · exact q
    · exfalso
      have e : pres t = i + 1 := by omega
      have := (hp.2.2 (by omega)).2
      rw [e] at this
      exact ht this
end
section
set_option maxHeartbeats 4000000 in
set_option maxRecDepth 100000 in
theorem c_X6_within (l : Launch) (G : va_G) (E : cEnv) (v x y : Int32) : Met l yX6_within wsX6_within ({ frames := 0, cells := 0, slots := 0, locals := 0 }) (va_Pc [.int v, .int x, .int y] (PR G E ([]))) (vp_Si (fun r => (x ≤ v ∧ v ≤ y) ∧ r = nI 1 ∨ ¬ (x ≤ v ∧ v ≤ y) ∧ r = nI 0)) 0 0 (fun _ => False) := by
  refine Met.ofW (cc := cX6_within) (maxL := 3) (ret := (some .boolean)) (by decide) rfl ?_
  intro p e s m args below meth c s₁ B hml hv
  obtain ⟨rfl, hP, hK, hZ⟩ := hv
  have hx := B.exec
  have hb := B.bytes
  have hr := B.returns
  have hts := atoms_spec (ws := wsX6_within) B.pre
  have hown : s.vm.findClass RX6 = some m.cls := findClass_of_methodNamed B.named
  have hlocks := B.notSynchronized
  have hS : va_S (fun _ => False) s.heap s.heap [] := va_S.rf
  have hl := lv_entry ([.int v, .int x, .int y]) (n := 3) (Nat.le_of_ble_eq_true rfl)
  rw [lg_entry_eq]
  generalize (lg_sl ([.int v, .int x, .int y]) ++ List.replicate (3 - (lg_sl ([.int v, .int x, .int y])).length) Slot.unset).toArray = ls at hl ⊢
  have hl : lv_has ls 3 [(0, .int v), (1, .int x), (2, .int y)] := hl
  refine lv_iload_n hx hb dX6_within_0 rfl (lv_at hl 0 rfl) ?_
  refine lv_iload_n hx hb dX6_within_1 rfl (lv_at hl 1 rfl) ?_
  refine lv_icmp_lt (x := v) (y := x) (tgt := 14) hx hb dX6_within_2 (by decide) (fun c2 => ?_) (fun c2 => ?_)
  · refine lv_iconst (v := (nI 0)) hx hb dX6_within_14 (by decide) ?_
    exact W.zret (v := (nI 0)) hx hb hr (by first | rfl | decide | assumption) (fun tZ htZ hWZ => ⟨_, rfl, Or.inr ⟨by simp only [i_lt, i_le] at c2 ⊢; omega, rfl⟩, htZ⟩) (fun _ h => by cases h) dX6_within_15
  · refine lv_iload_n hx hb dX6_within_5 rfl (lv_at hl 0 rfl) ?_
    refine lv_iload_n hx hb dX6_within_6 rfl (lv_at hl 2 rfl) ?_
    refine lv_icmp_gt (x := v) (y := y) (tgt := 14) hx hb dX6_within_7 (by decide) (fun c7 => ?_) (fun c7 => ?_)
    · refine lv_iconst (v := (nI 0)) hx hb dX6_within_14 (by decide) ?_
      exact W.zret (v := (nI 0)) hx hb hr (by first | rfl | decide | assumption) (fun tZ htZ hWZ => ⟨_, rfl, Or.inr ⟨by simp only [i_lt, i_le] at c2 c7 ⊢; omega, rfl⟩, htZ⟩) (fun _ h => by cases h) dX6_within_15
    · refine lv_iconst (v := (nI 1)) hx hb dX6_within_10 (by decide) ?_
      refine lv_goto (tgt := 15) hx hb dX6_within_11 (by decide) ?_
      exact W.zret (v := (nI 1)) hx hb hr (by first | rfl | decide | assumption) (fun tZ htZ hWZ => ⟨_, rfl, Or.inl ⟨by simp only [i_lt, i_le] at c2 c7 ⊢; omega, rfl⟩, htZ⟩) (fun _ h => by cases h) dX6_within_15

set_option maxHeartbeats 4000000 in
set_option maxRecDepth 100000 in
theorem c_X6_lengthOf (l : Launch) (G : va_G) (E : cEnv) (t : Nat) (ht : t < 2 ^ 31) : Met l yX6_lengthOf wsX6_lengthOf ({ frames := 0, cells := 0, slots := 0, locals := 0 }) (va_Pc [.int (nI t)] (PR G E ([]))) (vp_Si (fun r => r = nI (len t))) 0 0 (fun _ => False) := by
  refine Met.ofW (cc := cX6_lengthOf) (maxL := 3) (ret := (some .int)) (by decide) rfl ?_
  intro p e s m args below meth c s₁ B hml hv
  obtain ⟨rfl, hP, hK, hZ⟩ := hv
  have hx := B.exec
  have hb := B.bytes
  have hr := B.returns
  have hts := atoms_spec (ws := wsX6_lengthOf) B.pre
  have hown : s.vm.findClass RX6 = some m.cls := findClass_of_methodNamed B.named
  have hlocks := B.notSynchronized
  have hS : va_S (fun _ => False) s.heap s.heap [] := va_S.rf
  have hl := lv_entry ([.int (nI t)]) (n := 3) (Nat.le_of_ble_eq_true rfl)
  rw [lg_entry_eq]
  generalize (lg_sl ([.int (nI t)]) ++ List.replicate (3 - (lg_sl ([.int (nI t)])).length) Slot.unset).toArray = ls at hl ⊢
  have hl : lv_has ls 3 [(0, .int (nI t))] := hl
  refine lv_iconst (v := (nI 0)) hx hb dX6_lengthOf_0 (by decide) ?_
  refine lv_istore_n (lv' := [(1, .int (nI 0)), (0, .int (nI t))]) hx hb dX6_lengthOf_1 rfl hl (by decide) rfl (fun ls hl => ?_)
  refine lv_iload_n hx hb dX6_lengthOf_2 rfl (lv_at hl 1 rfl) ?_
  refine lv_istore_n (lv' := [(2, .int (nI t)), (1, .int (nI 0)), (0, .int (nI t))]) hx hb dX6_lengthOf_3 rfl hl (by decide) rfl (fun ls hl => ?_)
  have lp4 : ∀ (kk : Nat) (n : Nat) (lf : Nat), (n + len lf = len t) → (lf < 2 ^ 31) → lf < kk → ∀ ls : Array Slot, lv_has ls 3 [(2, .int (nI lf)), (1, .int (nI n)), (0, .int (nI t))] → W p l e (headSpec wsX6_lengthOf ({ frames := 0, cells := 0, slots := 0, locals := 0 } : Room)).room s m ([.int (nI t)] : List Value).toArray below meth c s.heap [] 0 0 (MQ below (vp_Si (fun r => r = nI (len t))) ([.int (nI t)] : List Value).toArray s 0 0 (fun _ => False)) (F0 m 4 ls []) := by
    intro kk
    induction kk with
    | zero => intro n lf  hn hf hkk; exact absurd hkk (Nat.not_lt_zero _)
    | succ kk ih4 =>
      intro n lf hn hf hkk ls hl
      refine lv_iload_n hx hb dX6_lengthOf_4 rfl (lv_at hl 0 rfl) ?_
      refine n_if_le (a := lf) (tgt := 19) hx hb (by omega) dX6_lengthOf_5 (by decide) (fun c5 => ?_) (fun c5 => ?_)
      · refine lv_iload_n hx hb dX6_lengthOf_19 rfl (lv_at hl 1 rfl) ?_
        exact W.iret (v := (nI n)) hx hb hr (fun tZ htZ hWZ => ⟨_, rfl, by rw [c5, len_0] at hn; rw [← hn]; rfl, htZ⟩) (fun _ h => by cases h) dX6_lengthOf_20
      · refine lv_iinc (v := (nI (n + 1))) (lv' := [(1, .int (nI (n + 1))), (2, .int (nI lf)), (0, .int (nI t))]) hx hb dX6_lengthOf_8 hl (k := 1) rfl (k_inc n) (by decide) rfl (fun ls hl => ?_)
        refine lv_iload_n hx hb dX6_lengthOf_11 rfl (lv_at hl 1 rfl) ?_
        refine lv_bipush (v := (nI 10)) hx hb dX6_lengthOf_12 (by decide) ?_
        refine k_idiv (a := lf) (b := 10) hx hb (by omega) (by decide) (by decide) dX6_lengthOf_14 ?_
        refine lv_istore_n (lv' := [(2, .int (nI (lf / 10))), (1, .int (nI (n + 1))), (0, .int (nI t))]) hx hb dX6_lengthOf_15 rfl hl (by decide) rfl (fun ls hl => ?_)
        refine lv_goto (tgt := 4) hx hb dX6_lengthOf_16 (by decide) ?_
        exact ih4 (n + 1) (lf / 10) (by rw [len_s c5] at hn; omega) (by omega) (by omega) ls (lv_sub hl [0, 1, 2] rfl)
  exact lp4 (t + 1) 0 t (by simp) ht (Nat.lt_succ_self _) ls (lv_sub hl [0, 1, 2] rfl)

set_option maxHeartbeats 4000000 in
set_option maxRecDepth 100000 in
theorem c_X6_areTokens (l : Launch) (G : va_G) (E : cEnv) (x : Int32) : Met l yX6_areTokens wsX6_areTokens ({ frames := 1, cells := 0, slots := 0, locals := 22 }) (va_Pc [.int x] (PR G E ([]))) (vp_Si (fun r => okT x ∧ r = nI 1 ∨ ¬ okT x ∧ r = nI 0)) 0 0 (fun _ => False) := by
  refine Met.ofW (cc := cX6_areTokens) (maxL := 2) (ret := (some .boolean)) (by decide) rfl ?_
  intro p e s m args below meth c s₁ B hml hv
  obtain ⟨rfl, hP, hK, hZ⟩ := hv
  have hx := B.exec
  have hb := B.bytes
  have hr := B.returns
  have hts := atoms_spec (ws := wsX6_areTokens) B.pre
  have hown : s.vm.findClass RX6 = some m.cls := findClass_of_methodNamed B.named
  have hlocks := B.notSynchronized
  have hS : va_S (fun _ => False) s.heap s.heap [] := va_S.rf
  have hl := lv_entry ([.int x]) (n := 2) (Nat.le_of_ble_eq_true rfl)
  rw [lg_entry_eq]
  generalize (lg_sl ([.int x]) ++ List.replicate (2 - (lg_sl ([.int x])).length) Slot.unset).toArray = ls at hl ⊢
  have hl : lv_has ls 2 [(0, .int x)] := hl
  rcases Int32.lt_or_le x 0 with hneg | hneg
  · have hno : ¬ okT x := fun ⟨t, h1, _, h3⟩ => by rw [h3] at hneg; exact nI_pos (by omega) hneg
    refine lv_iload_n hx hb dX6_areTokens_0 rfl (lv_at hl 0 rfl) ?_
    refine lv_istore_n (lv' := [(1, .int x), (0, .int x)]) hx hb dX6_areTokens_1 rfl hl (by decide) rfl (fun ls hl => ?_)
    refine lv_iload_n hx hb dX6_areTokens_2 rfl (lv_at hl 0 rfl) ?_
    refine lv_if_le (x := x) (tgt := 23) hx hb dX6_areTokens_3 (by decide) (fun c3 => ?_) (fun c3 => absurd (Int32.le_of_lt hneg) c3)
    refine lv_iload_n hx hb dX6_areTokens_23 rfl (lv_at hl 1 rfl) ?_
    refine lv_if_lt (x := x) (tgt := 40) hx hb dX6_areTokens_24 (by decide) (fun c24 => ?_) (fun c24 => absurd hneg c24)
    refine lv_iconst (v := (nI 0)) hx hb dX6_areTokens_40 (by decide) ?_
    exact W.zret (v := (nI 0)) hx hb hr (by first | rfl | decide | assumption) (fun tZ htZ hWZ => ⟨_, rfl, Or.inr ⟨hno, rfl⟩, htZ⟩) (fun _ h => by cases h) dX6_areTokens_41
  · obtain ⟨t, ht, rfl⟩ := nI_of (x := x) (fun q => by have a := i_le.mp hneg; have b := i_lt.mp q; omega)
    refine lv_iload_n hx hb dX6_areTokens_0 rfl (lv_at hl 0 rfl) ?_
    refine lv_istore_n (lv' := [(1, .int (nI t)), (0, .int (nI t))]) hx hb dX6_areTokens_1 rfl hl (by decide) rfl (fun ls hl => ?_)
    have lp2 : ∀ (kk : Nat) (lf : Nat), (nzb lf = nzb t) → (lf < 2 ^ 31) → lf < kk → ∀ ls : Array Slot, lv_has ls 2 [(1, .int (nI lf)), (0, .int (nI t))] → W p l e (headSpec wsX6_areTokens ({ frames := 1, cells := 0, slots := 0, locals := 22 } : Room)).room s m ([.int (nI t)] : List Value).toArray below meth c s.heap [] 0 0 (MQ below (vp_Si (fun r => okT (nI t) ∧ r = nI 1 ∨ ¬ okT (nI t) ∧ r = nI 0)) ([.int (nI t)] : List Value).toArray s 0 0 (fun _ => False)) (F0 m 2 ls []) := by
      intro kk
      induction kk with
      | zero => intro lf  hz hf hkk; exact absurd hkk (Nat.not_lt_zero _)
      | succ kk ih2 =>
        intro lf hz hf hkk ls hl
        refine lv_iload_n hx hb dX6_areTokens_2 rfl (lv_at hl 0 rfl) ?_
        refine n_if_le (a := lf) (tgt := 23) hx hb (by omega) dX6_areTokens_3 (by decide) (fun c3 => ?_) (fun c3 => ?_)
        · refine lv_iload_n hx hb dX6_areTokens_23 rfl (lv_at hl 1 rfl) ?_
          refine n_if_lt (a := t) (tgt := 40) hx hb (by omega) dX6_areTokens_24 (by decide) ?_
          refine lv_iload_n hx hb dX6_areTokens_27 rfl (lv_at hl 1 rfl) ?_
          refine rs_i (n := 1) (G := G) (E := E) (As := [.int (nI t)]) (rest := []) ⟨hx, hb, hml, hown, hts⟩ hK hZ hS (c_X6_lengthOf l G E t (by first | assumption | omega)) gX6_areTokens_X6_lengthOf rfl rfl rfl (by decide +kernel) ⟨Nat.le_of_ble_eq_true rfl, Nat.le_of_ble_eq_true rfl⟩ hP hl.1 rfl rfl (Nat.le_of_ble_eq_true rfl) dX6_areTokens_28 ⟨Nat.zero_le _, Nat.zero_le _⟩ (fun r28 p28 => ?_)
          subst p28
          refine lv_bipush (v := (nI 9)) hx hb dX6_areTokens_31 (by decide) ?_
          refine n_icmp_gt (a := (len t)) (b := 9) (tgt := 40) hx hb (by have := (len_lt 10 t).mp (by omega); omega) (by decide) dX6_areTokens_33 (by decide) (fun c33 => ?_) (fun c33 => ?_)
          · refine lv_iconst (v := (nI 0)) hx hb dX6_areTokens_40 (by decide) ?_
            exact W.zret (v := (nI 0)) hx hb hr (by first | rfl | decide | assumption) (fun tZ htZ hWZ => ⟨_, rfl, Or.inr ⟨fun ⟨t2, h1, _, h3⟩ => by have q := (nI_eq ht (by omega)).mp h3; subst q; have := (len_lt 9 t).mp h1; omega, rfl⟩, htZ⟩) (fun _ h => by cases h) dX6_areTokens_41
          · refine lv_iconst (v := (nI 1)) hx hb dX6_areTokens_36 (by decide) ?_
            refine lv_goto (tgt := 41) hx hb dX6_areTokens_37 (by decide) ?_
            exact W.zret (v := (nI 1)) hx hb hr (by first | rfl | decide | assumption) (fun tZ htZ hWZ => ⟨_, rfl, Or.inl ⟨⟨t, (len_lt 9 t).mpr (by omega), by rw [← hz, c3]; exact nzb_0, rfl⟩, rfl⟩, htZ⟩) (fun _ h => by cases h) dX6_areTokens_41
        · refine lv_iload_n hx hb dX6_areTokens_6 rfl (lv_at hl 0 rfl) ?_
          refine lv_bipush (v := (nI 10)) hx hb dX6_areTokens_7 (by decide) ?_
          refine k_irem (a := lf) (b := 10) hx hb (by omega) (by decide) (by decide) dX6_areTokens_9 ?_
          refine n_if_ne (a := (lf % 10)) (tgt := 15) hx hb (by omega) dX6_areTokens_10 (by decide) (fun c10 => ?_) (fun c10 => ?_)
          · refine lv_iload_n hx hb dX6_areTokens_15 rfl (lv_at hl 0 rfl) ?_
            refine lv_bipush (v := (nI 10)) hx hb dX6_areTokens_16 (by decide) ?_
            refine k_idiv (a := lf) (b := 10) hx hb (by omega) (by decide) (by decide) dX6_areTokens_18 ?_
            refine lv_istore_n (lv' := [(1, .int (nI (lf / 10))), (0, .int (nI t))]) hx hb dX6_areTokens_19 rfl hl (by decide) rfl (fun ls hl => ?_)
            refine lv_goto (tgt := 2) hx hb dX6_areTokens_20 (by decide) ?_
            exact ih2 (lf / 10) (by rw [← hz, nzb_s c3, show (lf % 10 != 0) = true from bne_iff_ne.mpr (by omega)]; rfl) (by omega) (by omega) ls (lv_sub hl [0, 1] rfl)
          · refine lv_iconst (v := (nI 0)) hx hb dX6_areTokens_13 (by decide) ?_
            exact W.zret (v := (nI 0)) hx hb hr (by first | rfl | decide | assumption) (fun tZ htZ hWZ => ⟨_, rfl, Or.inr ⟨fun ⟨t2, h1, h2, h3⟩ => by have q := (nI_eq ht (by omega)).mp h3; subst q; rw [← hz, nzb_s c3, c10] at h2; simp at h2, rfl⟩, htZ⟩) (fun _ h => by cases h) dX6_areTokens_14
    exact lp2 (t + 1) t rfl ht (Nat.lt_succ_self _) ls (lv_sub hl [0, 1] rfl)

set_option maxHeartbeats 4000000 in
set_option maxRecDepth 100000 in
theorem c_X6_tokenAt (l : Launch) (G : va_G) (E : cEnv) (t k : Nat) (ht : t < 2 ^ 31) (hk : k < len t) : Met l yX6_tokenAt wsX6_tokenAt ({ frames := 1, cells := 0, slots := 0, locals := 22 }) (va_Pc [.int (nI t), .int (nI k)] (PR G E ([]))) (vp_Si (fun r => r = nI (tok t k))) 0 0 (fun _ => False) := by
  refine Met.ofW (cc := cX6_tokenAt) (maxL := 4) (ret := (some .int)) (by decide) rfl ?_
  intro p e s m args below meth c s₁ B hml hv
  obtain ⟨rfl, hP, hK, hZ⟩ := hv
  have hx := B.exec
  have hb := B.bytes
  have hr := B.returns
  have hts := atoms_spec (ws := wsX6_tokenAt) B.pre
  have hown : s.vm.findClass RX6 = some m.cls := findClass_of_methodNamed B.named
  have hlocks := B.notSynchronized
  have hS : va_S (fun _ => False) s.heap s.heap [] := va_S.rf
  have hl := lv_entry ([.int (nI t), .int (nI k)]) (n := 4) (Nat.le_of_ble_eq_true rfl)
  rw [lg_entry_eq]
  generalize (lg_sl ([.int (nI t), .int (nI k)]) ++ List.replicate (4 - (lg_sl ([.int (nI t), .int (nI k)])).length) Slot.unset).toArray = ls at hl ⊢
  have hl : lv_has ls 4 [(0, .int (nI t)), (1, .int (nI k))] := hl
  have hlb := (len_lt 10 t).mp (by omega)
  refine lv_iload_n hx hb dX6_tokenAt_0 rfl (lv_at hl 0 rfl) ?_
  refine lv_istore_n (lv' := [(2, .int (nI t)), (0, .int (nI t)), (1, .int (nI k))]) hx hb dX6_tokenAt_1 rfl hl (by decide) rfl (fun ls hl => ?_)
  refine lv_iload_n hx hb dX6_tokenAt_2 rfl (lv_at hl 1 rfl) ?_
  refine rs_i (n := 1) (G := G) (E := E) (As := [.int (nI t)]) (rest := []) ⟨hx, hb, hml, hown, hts⟩ hK hZ hS (c_X6_lengthOf l G E t (by first | assumption | omega)) gX6_tokenAt_X6_lengthOf rfl rfl rfl (by decide +kernel) ⟨Nat.le_of_ble_eq_true rfl, Nat.le_of_ble_eq_true rfl⟩ hP hl.1 rfl rfl (Nat.le_of_ble_eq_true rfl) dX6_tokenAt_3 ⟨Nat.zero_le _, Nat.zero_le _⟩ (fun r3 p3 => ?_)
  subst p3
  refine lv_iconst (v := (nI 1)) hx hb dX6_tokenAt_6 (by decide) ?_
  refine k_isub (a := (len t)) (b := 1) hx hb (by omega) dX6_tokenAt_7 ?_
  refine lv_istore_n (lv' := [(3, .int (nI ((len t) - 1))), (2, .int (nI t)), (0, .int (nI t)), (1, .int (nI k))]) hx hb dX6_tokenAt_8 rfl hl (by decide) rfl (fun ls hl => ?_)
  have lp9 : ∀ (kk : Nat) (lf : Nat) (x : Nat), (lf = t / 10 ^ (len t - 1 - x)) → (x ≤ len t - 1) → (k ≤ x) → (lf < 2 ^ 31) → x < kk → ∀ ls : Array Slot, lv_has ls 4 [(3, .int (nI x)), (2, .int (nI lf)), (0, .int (nI t)), (1, .int (nI k))] → W p l e (headSpec wsX6_tokenAt ({ frames := 1, cells := 0, slots := 0, locals := 22 } : Room)).room s m ([.int (nI t), .int (nI k)] : List Value).toArray below meth c s.heap [] 0 0 (MQ below (vp_Si (fun r => r = nI (tok t k))) ([.int (nI t), .int (nI k)] : List Value).toArray s 0 0 (fun _ => False)) (F0 m 9 ls []) := by
    intro kk
    induction kk with
    | zero => intro lf x  hlf hx1 hx2 hf hkk; exact absurd hkk (Nat.not_lt_zero _)
    | succ kk ih9 =>
      intro lf x hlf hx1 hx2 hf hkk ls hl
      refine lv_iload_n hx hb dX6_tokenAt_9 rfl (lv_at hl 0 rfl) ?_
      refine lv_iload_n hx hb dX6_tokenAt_10 rfl (lv_at hl 3 rfl) ?_
      refine n_icmp_le (a := x) (b := k) (tgt := 25) hx hb (by omega) (by omega) dX6_tokenAt_11 (by decide) (fun c11 => ?_) (fun c11 => ?_)
      · refine lv_iload_n hx hb dX6_tokenAt_25 rfl (lv_at hl 1 rfl) ?_
        refine lv_bipush (v := (nI 10)) hx hb dX6_tokenAt_26 (by decide) ?_
        refine k_irem (a := lf) (b := 10) hx hb (by omega) (by decide) (by decide) dX6_tokenAt_28 ?_
        exact W.iret (v := (nI (lf % 10))) hx hb hr (fun tZ htZ hWZ => ⟨_, rfl, by rw [hlf, show x = k by omega]; rfl, htZ⟩) (fun _ h => by cases h) dX6_tokenAt_29
      · refine lv_iload_n hx hb dX6_tokenAt_14 rfl (lv_at hl 1 rfl) ?_
        refine lv_bipush (v := (nI 10)) hx hb dX6_tokenAt_15 (by decide) ?_
        refine k_idiv (a := lf) (b := 10) hx hb (by omega) (by decide) (by decide) dX6_tokenAt_17 ?_
        refine lv_istore_n (lv' := [(2, .int (nI (lf / 10))), (3, .int (nI x)), (0, .int (nI t)), (1, .int (nI k))]) hx hb dX6_tokenAt_18 rfl hl (by decide) rfl (fun ls hl => ?_)
        obtain ⟨y, rfl⟩ : ∃ y, x = y + 1 := ⟨x - 1, by omega⟩
        refine lv_iinc (v := (nI y)) (lv' := [(3, .int (nI y)), (2, .int (nI (lf / 10))), (0, .int (nI t)), (1, .int (nI k))]) hx hb dX6_tokenAt_19 hl (k := 1) rfl (k_dec y) (by decide) rfl (fun ls hl => ?_)
        refine lv_goto (tgt := 9) hx hb dX6_tokenAt_22 (by decide) ?_
        exact ih9 (lf / 10) y (by rw [hlf, Nat.div_div_eq_div_mul, ← Nat.pow_succ]; congr 2; omega) (by omega) (by omega) (by omega) (by omega) ls (lv_sub hl [0, 1, 2, 3] rfl)
  exact lp9 (((len t) - 1) + 1) t ((len t) - 1) (by simp) (Nat.le_refl _) (by omega) ht (Nat.lt_succ_self _) ls (lv_sub hl [0, 1, 2, 3] rfl)

set_option maxHeartbeats 4000000 in
set_option maxRecDepth 100000 in
theorem c_X6_widthOf (l : Launch) (G : va_G) (E : cEnv) (k : Nat) (hk : k < 10) : Met l yX6_widthOf wsX6_widthOf ({ frames := 0, cells := 0, slots := 0, locals := 0 }) (va_Pc [.int (nI k)] (PR G E ([]))) (vp_Si (fun r => r = nI (wd1 k))) 0 0 (fun _ => False) := by
  refine Met.ofW (cc := cX6_widthOf) (maxL := 1) (ret := (some .int)) (by decide) rfl ?_
  intro p e s m args below meth c s₁ B hml hv
  obtain ⟨rfl, hP, hK, hZ⟩ := hv
  have hx := B.exec
  have hb := B.bytes
  have hr := B.returns
  have hts := atoms_spec (ws := wsX6_widthOf) B.pre
  have hown : s.vm.findClass RX6 = some m.cls := findClass_of_methodNamed B.named
  have hlocks := B.notSynchronized
  have hS : va_S (fun _ => False) s.heap s.heap [] := va_S.rf
  have hl := lv_entry ([.int (nI k)]) (n := 1) (Nat.le_of_ble_eq_true rfl)
  rw [lg_entry_eq]
  generalize (lg_sl ([.int (nI k)]) ++ List.replicate (1 - (lg_sl ([.int (nI k)])).length) Slot.unset).toArray = ls at hl ⊢
  have hl : lv_has ls 1 [(0, .int (nI k))] := hl
  refine lv_iload_n hx hb dX6_widthOf_0 rfl (lv_at hl 0 rfl) ?_
  refine lv_iconst (v := (nI 1)) hx hb dX6_widthOf_1 (by decide) ?_
  refine n_icmp_ne (a := k) (b := 1) (tgt := 9) hx hb (by omega) (by decide) dX6_widthOf_2 (by decide) (fun c2 => ?_) (fun c2 => ?_)
  · refine lv_iload_n hx hb dX6_widthOf_9 rfl (lv_at hl 0 rfl) ?_
    refine lv_bipush (v := (nI 7)) hx hb dX6_widthOf_10 (by decide) ?_
    refine n_icmp_ne (a := k) (b := 7) (tgt := 19) hx hb (by omega) (by decide) dX6_widthOf_12 (by decide) (fun c12 => ?_) (fun c12 => ?_)
    · refine lv_iload_n hx hb dX6_widthOf_19 rfl (lv_at hl 0 rfl) ?_
      refine lv_bipush (v := (nI 9)) hx hb dX6_widthOf_20 (by decide) ?_
      refine n_icmp_ne (a := k) (b := 9) (tgt := 29) hx hb (by omega) (by decide) dX6_widthOf_22 (by decide) (fun c22 => ?_) (fun c22 => ?_)
      · refine lv_iconst (v := (nI 1)) hx hb dX6_widthOf_29 (by decide) ?_
        exact W.iret (v := (nI 1)) hx hb hr (fun tZ htZ hWZ => ⟨_, rfl, by unfold wd1; simp [c2, c12, c22], htZ⟩) (fun _ h => by cases h) dX6_widthOf_30
      · refine lv_iconst (v := (nI 4)) hx hb dX6_widthOf_25 (by decide) ?_
        refine lv_goto (tgt := 30) hx hb dX6_widthOf_26 (by decide) ?_
        exact W.iret (v := (nI 4)) hx hb hr (fun tZ htZ hWZ => ⟨_, rfl, by unfold wd1; simp [c2, c12, c22], htZ⟩) (fun _ h => by cases h) dX6_widthOf_30
    · refine lv_iconst (v := (nI 2)) hx hb dX6_widthOf_15 (by decide) ?_
      refine lv_goto (tgt := 30) hx hb dX6_widthOf_16 (by decide) ?_
      exact W.iret (v := (nI 2)) hx hb hr (fun tZ htZ hWZ => ⟨_, rfl, by unfold wd1; simp [c2, c12], htZ⟩) (fun _ h => by cases h) dX6_widthOf_30
  · refine lv_iconst (v := (nI 3)) hx hb dX6_widthOf_5 (by decide) ?_
    refine lv_goto (tgt := 30) hx hb dX6_widthOf_6 (by decide) ?_
    exact W.iret (v := (nI 3)) hx hb hr (fun tZ htZ hWZ => ⟨_, rfl, by unfold wd1; simp [c2], htZ⟩) (fun _ h => by cases h) dX6_widthOf_30

set_option maxHeartbeats 4000000 in
set_option maxRecDepth 100000 in
theorem c_X6_isLine (l : Launch) (G : va_G) (E : cEnv) (a : Nat → Nat) (ln op dp la : Nat) (row seen sty lineO tokO atO baseO kindO partO colO openO strayO stk bys was gsd cellsO sortO kLine kAt kKind : Nat → Int32) (x : Int32) (hln : ln ≤ 20) : Met l yX6_isLine wsX6_isLine ({ frames := 1, cells := 0, slots := 0, locals := 22 }) (va_Pc [.ref (a 0), .int x] (PR G E (rW E a ln op dp la row seen sty lineO tokO atO baseO kindO partO colO openO strayO stk bys was gsd cellsO sortO kLine kAt kKind))) (vp_Si (fun r => (∃ j : Nat, j < ln ∧ x = nI j) ∧ r = nI 1 ∨ ¬ (∃ j : Nat, j < ln ∧ x = nI j) ∧ r = nI 0)) 0 0 (fun _ => False) := by
  refine Met.ofW (cc := cX6_isLine) (maxL := 2) (ret := (some .boolean)) (by decide) rfl ?_
  intro p e s m args below meth c s₁ B hml hv
  obtain ⟨rfl, hP, hK, hZ⟩ := hv
  have hx := B.exec
  have hb := B.bytes
  have hr := B.returns
  have hts := atoms_spec (ws := wsX6_isLine) B.pre
  have hown : s.vm.findClass RX6 = some m.cls := findClass_of_methodNamed B.named
  have hlocks := B.notSynchronized
  have hin6 : ∀ w ∈ u_ws RX6 TX6 25, w ∈ wsX6_isLine := mem_pl [6, 7, 8, 9, 10, 11, 12, 13, 14, 15, 16, 17, 18, 19, 20, 21, 22, 23, 24, 25, 26, 27, 28, 29, 30] (by rfl)
  have hS : va_S (fun _ => False) s.heap s.heap [] := va_S.rf
  have hl := lv_entry ([.ref (a 0), .int x]) (n := 2) (Nat.le_of_ble_eq_true rfl)
  rw [lg_entry_eq]
  generalize (lg_sl ([.ref (a 0), .int x]) ++ List.replicate (2 - (lg_sl ([.ref (a 0), .int x])).length) Slot.unset).toArray = ls at hl ⊢
  have hl : lv_has ls 2 [(0, .ref (a 0)), (1, .int x)] := hl
  refine lv_iload_n hx hb dX6_isLine_0 rfl (lv_at hl 1 rfl) ?_
  refine lv_iconst (v := (nI 0)) hx hb dX6_isLine_1 (by decide) ?_
  refine lv_aload_n hx hb dX6_isLine_2 rfl (lv_at hl 0 rfl) ?_
  refine va_get (D := G) (ci := 6) (v := .int (nI ln)) (C := RX6) (T := TX6) (N := 25) hx hb hts hin6 hown hK hP 0 rfl rfl 0 (by decide) (hts (Cond.fieldLink RX6 73 "IndentRulesModel" "lines" "I") (List.mem_of_getElem? (i := 1) rfl)) (fun _ h9 => h9) rfl dX6_isLine_3 ?_
  refine lv_iconst (v := (nI 1)) hx hb dX6_isLine_6 (by decide) ?_
  refine lv_isub hx hb dX6_isLine_7 ?_
  refine rs_i (n := 3) (G := G) (E := E) (As := [.int x, .int (nI 0), .int ((nI ln) - (nI 1))]) (rest := []) ⟨hx, hb, hml, hown, hts⟩ hK hZ hS (c_X6_within l G E x (nI 0) ((nI ln) - (nI 1))) gX6_isLine_X6_within rfl rfl rfl (by decide +kernel) ⟨Nat.le_of_ble_eq_true rfl, Nat.le_of_ble_eq_true rfl⟩ (fun k q h => by simp at h) hl.1 rfl rfl (Nat.le_of_ble_eq_true rfl) dX6_isLine_8 ⟨Nat.zero_le _, Nat.zero_le _⟩ (fun r8 p8 => ?_)
  rcases p8 with ⟨h8, rfl⟩ | ⟨h8, rfl⟩
  · exact W.zret (v := (nI 1)) hx hb hr (by first | rfl | decide | assumption) (fun tZ htZ hWZ => ⟨_, rfl, Or.inl ⟨(w_ix (by omega)).mp h8, rfl⟩, htZ⟩) (fun _ h => by cases h) dX6_isLine_11
  · exact W.zret (v := (nI 0)) hx hb hr (by first | rfl | decide | assumption) (fun tZ htZ hWZ => ⟨_, rfl, Or.inr ⟨fun q => h8 ((w_ix (by omega)).mpr q), rfl⟩, htZ⟩) (fun _ h => by cases h) dX6_isLine_11

set_option maxHeartbeats 4000000 in
set_option maxRecDepth 100000 in
theorem c_X6_top (l : Launch) (G : va_G) (E : cEnv) (a : Nat → Nat) (ln op dp la : Nat) (row seen sty lineO tokO atO baseO kindO partO colO openO strayO stk bys was gsd cellsO sortO kLine kAt kKind : Nat → Int32) (hdp : dp ≤ 180) : Met l yX6_top wsX6_top ({ frames := 0, cells := 0, slots := 0, locals := 0 }) (va_Pc [.ref (a 0)] (PR G E (rW E a ln op dp la row seen sty lineO tokO atO baseO kindO partO colO openO strayO stk bys was gsd cellsO sortO kLine kAt kKind))) (vp_Si (fun r => (dp = 0 ∧ r = -9) ∨ (0 < dp ∧ r = stk (dp - 1)))) 0 0 (fun _ => False) := by
  refine Met.ofW (cc := cX6_top) (maxL := 1) (ret := (some .int)) (by decide) rfl ?_
  intro p e s m args below meth c s₁ B hml hv
  obtain ⟨rfl, hP, hK, hZ⟩ := hv
  have hx := B.exec
  have hb := B.bytes
  have hr := B.returns
  have hts := atoms_spec (ws := wsX6_top) B.pre
  have hown : s.vm.findClass RX6 = some m.cls := findClass_of_methodNamed B.named
  have hlocks := B.notSynchronized
  have hin6 : ∀ w ∈ u_ws RX6 TX6 25, w ∈ wsX6_top := mem_pl [3, 4, 5, 6, 7, 8, 9, 10, 11, 12, 13, 14, 15, 16, 17, 18, 19, 20, 21, 22, 23, 24, 25, 26, 27] (by rfl)
  have hS : va_S (fun _ => False) s.heap s.heap [] := va_S.rf
  have hl := lv_entry ([.ref (a 0)]) (n := 1) (Nat.le_of_ble_eq_true rfl)
  rw [lg_entry_eq]
  generalize (lg_sl ([.ref (a 0)]) ++ List.replicate (1 - (lg_sl ([.ref (a 0)])).length) Slot.unset).toArray = ls at hl ⊢
  have hl : lv_has ls 1 [(0, .ref (a 0))] := hl
  refine lv_aload_n hx hb dX6_top_0 rfl (lv_at hl 0 rfl) ?_
  refine va_get (D := G) (ci := 6) (v := .int (nI dp)) (C := RX6) (T := TX6) (N := 25) hx hb hts hin6 hown hK hP 0 rfl rfl 14 (by decide) (hts (Cond.fieldLink RX6 85 "IndentRulesModel" "deep" "I") (List.mem_of_getElem? (i := 1) rfl)) (fun _ h9 => h9) rfl dX6_top_1 ?_
  refine n_if_ne (a := dp) (tgt := 12) hx hb (by omega) dX6_top_4 (by decide) (fun c4 => ?_) (fun c4 => ?_)
  · refine lv_aload_n hx hb dX6_top_12 rfl (lv_at hl 0 rfl) ?_
    refine va_get (D := G) (ci := 6) (v := .ref (a 15)) (C := RX6) (T := TX6) (N := 25) hx hb hts hin6 hown hK hP 0 rfl rfl 15 (by decide) (hts (Cond.fieldLink RX6 46 "IndentRulesModel" "stack" "[I") (List.mem_of_getElem? (i := 2) rfl)) (fun _ h9 => h9) rfl dX6_top_13 ?_
    refine lv_aload_n hx hb dX6_top_16 rfl (lv_at hl 0 rfl) ?_
    refine va_get (D := G) (ci := 6) (v := .int (nI dp)) (C := RX6) (T := TX6) (N := 25) hx hb hts hin6 hown hK hP 0 rfl rfl 14 (by decide) (hts (Cond.fieldLink RX6 85 "IndentRulesModel" "deep" "I") (List.mem_of_getElem? (i := 1) rfl)) (fun _ h9 => h9) rfl dX6_top_17 ?_
    refine lv_iconst (v := (nI 1)) hx hb dX6_top_20 (by decide) ?_
    refine k_isub (a := dp) (b := 1) hx hb (by omega) dX6_top_21 ?_
    refine k_iald (D := G) (tys := TYS E) (j := (dp - 1)) (f := stk) (n := 180) hx hb hK hP 13 0 rfl rfl (by omega) (by decide) dX6_top_22 ?_
    exact W.iret (v := (stk (dp - 1))) hx hb hr (fun tZ htZ hWZ => ⟨_, rfl, Or.inr ⟨c4, rfl⟩, htZ⟩) (fun _ h => by cases h) dX6_top_23
  · refine lv_bipush (v := (-9)) hx hb dX6_top_7 (by decide) ?_
    refine lv_goto (tgt := 23) hx hb dX6_top_9 (by decide) ?_
    exact W.iret (v := (-9)) hx hb hr (fun tZ htZ hWZ => ⟨_, rfl, Or.inl ⟨c4, rfl⟩, htZ⟩) (fun _ h => by cases h) dX6_top_23

set_option maxHeartbeats 4000000 in
set_option maxRecDepth 100000 in
theorem c_X6_counts (l : Launch) (G : va_G) (E : cEnv) (a : Nat → Nat) (ln op dp la : Nat) (row seen sty lineO tokO atO baseO kindO partO colO openO strayO stk bys was gsd cellsO sortO kLine kAt kKind : Nat → Int32) (x : Nat) (hxl : x < 20) : Met l yX6_counts wsX6_counts ({ frames := 0, cells := 0, slots := 0, locals := 0 }) (va_Pc [.ref (a 0), .int (nI x)] (PR G E (rW E a ln op dp la row seen sty lineO tokO atO baseO kindO partO colO openO strayO stk bys was gsd cellsO sortO kLine kAt kKind))) (vp_Si (fun r => (¬ seen x = -9 ∧ ¬ row x = 0) ∧ r = nI 1 ∨ ¬ (¬ seen x = -9 ∧ ¬ row x = 0) ∧ r = nI 0)) 0 0 (fun _ => False) := by
  refine Met.ofW (cc := cX6_counts) (maxL := 2) (ret := (some .boolean)) (by decide) rfl ?_
  intro p e s m args below meth c s₁ B hml hv
  obtain ⟨rfl, hP, hK, hZ⟩ := hv
  have hx := B.exec
  have hb := B.bytes
  have hr := B.returns
  have hts := atoms_spec (ws := wsX6_counts) B.pre
  have hown : s.vm.findClass RX6 = some m.cls := findClass_of_methodNamed B.named
  have hlocks := B.notSynchronized
  have hin6 : ∀ w ∈ u_ws RX6 TX6 25, w ∈ wsX6_counts := mem_pl [3, 4, 5, 6, 7, 8, 9, 10, 11, 12, 13, 14, 15, 16, 17, 18, 19, 20, 21, 22, 23, 24, 25, 26, 27] (by rfl)
  have hS : va_S (fun _ => False) s.heap s.heap [] := va_S.rf
  have hl := lv_entry ([.ref (a 0), .int (nI x)]) (n := 2) (Nat.le_of_ble_eq_true rfl)
  rw [lg_entry_eq]
  generalize (lg_sl ([.ref (a 0), .int (nI x)]) ++ List.replicate (2 - (lg_sl ([.ref (a 0), .int (nI x)])).length) Slot.unset).toArray = ls at hl ⊢
  have hl : lv_has ls 2 [(0, .ref (a 0)), (1, .int (nI x))] := hl
  refine lv_aload_n hx hb dX6_counts_0 rfl (lv_at hl 0 rfl) ?_
  refine va_get (D := G) (ci := 6) (v := .ref (a 2)) (C := RX6) (T := TX6) (N := 25) hx hb hts hin6 hown hK hP 0 rfl rfl 2 (by decide) (hts (Cond.fieldLink RX6 13 "IndentRulesModel" "seen" "[I") (List.mem_of_getElem? (i := 1) rfl)) (fun _ h9 => h9) rfl dX6_counts_1 ?_
  refine lv_iload_n hx hb dX6_counts_4 rfl (lv_at hl 1 rfl) ?_
  refine k_iald (D := G) (tys := TYS E) (j := x) (f := seen) (n := 20) hx hb hK hP 2 0 rfl rfl (by omega) (by decide) dX6_counts_5 ?_
  refine lv_bipush (v := (-9)) hx hb dX6_counts_6 (by decide) ?_
  refine lv_icmp_eq (x := (seen x)) (y := (-9)) (tgt := 24) hx hb dX6_counts_8 (by decide) (fun c8 => ?_) (fun c8 => ?_)
  · refine lv_iconst (v := (nI 0)) hx hb dX6_counts_24 (by decide) ?_
    exact W.zret (v := (nI 0)) hx hb hr (by first | rfl | decide | assumption) (fun tZ htZ hWZ => ⟨_, rfl, Or.inr ⟨fun q => q.1 c8, rfl⟩, htZ⟩) (fun _ h => by cases h) dX6_counts_25
  · refine lv_aload_n hx hb dX6_counts_11 rfl (lv_at hl 0 rfl) ?_
    refine va_get (D := G) (ci := 6) (v := .ref (a 1)) (C := RX6) (T := TX6) (N := 25) hx hb hts hin6 hown hK hP 0 rfl rfl 1 (by decide) (hts (Cond.fieldLink RX6 7 "IndentRulesModel" "row" "[I") (List.mem_of_getElem? (i := 2) rfl)) (fun _ h9 => h9) rfl dX6_counts_12 ?_
    refine lv_iload_n hx hb dX6_counts_15 rfl (lv_at hl 1 rfl) ?_
    refine k_iald (D := G) (tys := TYS E) (j := x) (f := row) (n := 20) hx hb hK hP 1 0 rfl rfl (by omega) (by decide) dX6_counts_16 ?_
    refine lv_if_eq (x := (row x)) (tgt := 24) hx hb dX6_counts_17 (by decide) (fun c17 => ?_) (fun c17 => ?_)
    · refine lv_iconst (v := (nI 0)) hx hb dX6_counts_24 (by decide) ?_
      exact W.zret (v := (nI 0)) hx hb hr (by first | rfl | decide | assumption) (fun tZ htZ hWZ => ⟨_, rfl, Or.inr ⟨fun q => q.2 c17, rfl⟩, htZ⟩) (fun _ h => by cases h) dX6_counts_25
    · refine lv_iconst (v := (nI 1)) hx hb dX6_counts_20 (by decide) ?_
      refine lv_goto (tgt := 25) hx hb dX6_counts_21 (by decide) ?_
      exact W.zret (v := (nI 1)) hx hb hr (by first | rfl | decide | assumption) (fun tZ htZ hWZ => ⟨_, rfl, Or.inl ⟨⟨c8, c17⟩, rfl⟩, htZ⟩) (fun _ h => by cases h) dX6_counts_25

set_option maxHeartbeats 4000000 in
set_option maxRecDepth 100000 in
theorem c_X6_isPocket (l : Launch) (G : va_G) (E : cEnv) (x : Int32) : Met l yX6_isPocket wsX6_isPocket ({ frames := 1, cells := 0, slots := 0, locals := 22 }) (va_Pc [.int x] (PR G E ([]))) (vp_Si (fun r => (∃ j : Nat, j < 3 ∧ x = nI j) ∧ r = nI 1 ∨ ¬ (∃ j : Nat, j < 3 ∧ x = nI j) ∧ r = nI 0)) 0 0 (fun _ => False) := by
  refine Met.ofW (cc := cX6_isPocket) (maxL := 1) (ret := (some .boolean)) (by decide) rfl ?_
  intro p e s m args below meth c s₁ B hml hv
  obtain ⟨rfl, hP, hK, hZ⟩ := hv
  have hx := B.exec
  have hb := B.bytes
  have hr := B.returns
  have hts := atoms_spec (ws := wsX6_isPocket) B.pre
  have hown : s.vm.findClass RX6 = some m.cls := findClass_of_methodNamed B.named
  have hlocks := B.notSynchronized
  have hS : va_S (fun _ => False) s.heap s.heap [] := va_S.rf
  have hl := lv_entry ([.int x]) (n := 1) (Nat.le_of_ble_eq_true rfl)
  rw [lg_entry_eq]
  generalize (lg_sl ([.int x]) ++ List.replicate (1 - (lg_sl ([.int x])).length) Slot.unset).toArray = ls at hl ⊢
  have hl : lv_has ls 1 [(0, .int x)] := hl
  refine lv_iload_n hx hb dX6_isPocket_0 rfl (lv_at hl 0 rfl) ?_
  refine lv_iconst (v := (nI 0)) hx hb dX6_isPocket_1 (by decide) ?_
  refine lv_iconst (v := (nI 2)) hx hb dX6_isPocket_2 (by decide) ?_
  refine rs_i (n := 3) (G := G) (E := E) (As := [.int x, .int (nI 0), .int (nI 2)]) (rest := []) ⟨hx, hb, hml, hown, hts⟩ hK hZ hS (c_X6_within l G E x (nI 0) (nI 2)) gX6_isPocket_X6_within rfl rfl rfl (by decide +kernel) ⟨Nat.le_of_ble_eq_true rfl, Nat.le_of_ble_eq_true rfl⟩ hP hl.1 rfl rfl (Nat.le_of_ble_eq_true rfl) dX6_isPocket_3 ⟨Nat.zero_le _, Nat.zero_le _⟩ (fun r3 p3 => ?_)
  rcases p3 with ⟨h3, rfl⟩ | ⟨h3, rfl⟩
  · exact W.zret (v := (nI 1)) hx hb hr (by first | rfl | decide | assumption) (fun tZ htZ hWZ => ⟨_, rfl, Or.inl ⟨by obtain ⟨j, _, q2, q3⟩ := (w_rg (by decide) (by decide)).mp h3; exact ⟨j, by omega, q3⟩, rfl⟩, htZ⟩) (fun _ h => by cases h) dX6_isPocket_6
  · exact W.zret (v := (nI 0)) hx hb hr (by first | rfl | decide | assumption) (fun tZ htZ hWZ => ⟨_, rfl, Or.inr ⟨fun ⟨j, q1, q2⟩ => h3 ((w_rg (by decide) (by decide)).mpr ⟨j, by omega, by omega, q2⟩), rfl⟩, htZ⟩) (fun _ h => by cases h) dX6_isPocket_6

set_option maxHeartbeats 4000000 in
set_option maxRecDepth 100000 in
theorem c_X6_maySet (l : Launch) (G : va_G) (E : cEnv) (k : Nat) (x : Int32) (hk : k < 4) : Met l yX6_maySet wsX6_maySet ({ frames := 1, cells := 0, slots := 0, locals := 22 }) (va_Pc [.int (nI k), .int x] (PR G E ([]))) (vp_Si (fun r => okS k x ∧ r = nI 1 ∨ ¬ okS k x ∧ r = nI 0)) 0 0 (fun _ => False) := by
  refine Met.ofW (cc := cX6_maySet) (maxL := 2) (ret := (some .boolean)) (by decide) rfl ?_
  intro p e s m args below meth c s₁ B hml hv
  obtain ⟨rfl, hP, hK, hZ⟩ := hv
  have hx := B.exec
  have hb := B.bytes
  have hr := B.returns
  have hts := atoms_spec (ws := wsX6_maySet) B.pre
  have hown : s.vm.findClass RX6 = some m.cls := findClass_of_methodNamed B.named
  have hlocks := B.notSynchronized
  have hS : va_S (fun _ => False) s.heap s.heap [] := va_S.rf
  have hl := lv_entry ([.int (nI k), .int x]) (n := 2) (Nat.le_of_ble_eq_true rfl)
  rw [lg_entry_eq]
  generalize (lg_sl ([.int (nI k), .int x]) ++ List.replicate (2 - (lg_sl ([.int (nI k), .int x])).length) Slot.unset).toArray = ls at hl ⊢
  have hl : lv_has ls 2 [(0, .int (nI k)), (1, .int x)] := hl
  refine lv_iload_n hx hb dX6_maySet_0 rfl (lv_at hl 0 rfl) ?_
  refine lv_iconst (v := (nI 2)) hx hb dX6_maySet_1 (by decide) ?_
  refine n_icmp_ge (a := k) (b := 2) (tgt := 15) hx hb (by omega) (by decide) dX6_maySet_2 (by decide) (fun c2 => ?_) (fun c2 => ?_)
  · refine lv_iload_n hx hb dX6_maySet_15 rfl (lv_at hl 1 rfl) ?_
    refine lv_iconst (v := (nI 0)) hx hb dX6_maySet_16 (by decide) ?_
    refine lv_iconst (v := (nI 1)) hx hb dX6_maySet_17 (by decide) ?_
    refine rs_i (n := 3) (G := G) (E := E) (As := [.int x, .int (nI 0), .int (nI 1)]) (rest := []) ⟨hx, hb, hml, hown, hts⟩ hK hZ hS (c_X6_within l G E x (nI 0) (nI 1)) gX6_maySet_X6_within rfl rfl rfl (by decide +kernel) ⟨Nat.le_of_ble_eq_true rfl, Nat.le_of_ble_eq_true rfl⟩ hP hl.1 rfl rfl (Nat.le_of_ble_eq_true rfl) dX6_maySet_18 ⟨Nat.zero_le _, Nat.zero_le _⟩ (fun r18 p18 => ?_)
    rcases p18 with ⟨h18, rfl⟩ | ⟨h18, rfl⟩
    · exact W.zret (v := (nI 1)) hx hb hr (by first | rfl | decide | assumption) (fun tZ htZ hWZ => ⟨_, rfl, Or.inl ⟨by rw [okS, if_neg (by omega)]; exact h18, rfl⟩, htZ⟩) (fun _ h => by cases h) dX6_maySet_21
    · exact W.zret (v := (nI 0)) hx hb hr (by first | rfl | decide | assumption) (fun tZ htZ hWZ => ⟨_, rfl, Or.inr ⟨by rw [okS, if_neg (by omega)]; exact h18, rfl⟩, htZ⟩) (fun _ h => by cases h) dX6_maySet_21
  · refine lv_iload_n hx hb dX6_maySet_5 rfl (lv_at hl 1 rfl) ?_
    refine lv_iconst (v := (nI 1)) hx hb dX6_maySet_6 (by decide) ?_
    refine lv_bipush (v := (nI 8)) hx hb dX6_maySet_7 (by decide) ?_
    refine rs_i (n := 3) (G := G) (E := E) (As := [.int x, .int (nI 1), .int (nI 8)]) (rest := []) ⟨hx, hb, hml, hown, hts⟩ hK hZ hS (c_X6_within l G E x (nI 1) (nI 8)) gX6_maySet_X6_within rfl rfl rfl (by decide +kernel) ⟨Nat.le_of_ble_eq_true rfl, Nat.le_of_ble_eq_true rfl⟩ hP hl.1 rfl rfl (Nat.le_of_ble_eq_true rfl) dX6_maySet_9 ⟨Nat.zero_le _, Nat.zero_le _⟩ (fun r9 p9 => ?_)
    rcases p9 with ⟨h9, rfl⟩ | ⟨h9, rfl⟩
    · refine lv_goto (tgt := 21) hx hb dX6_maySet_12 (by decide) ?_
      exact W.zret (v := (nI 1)) hx hb hr (by first | rfl | decide | assumption) (fun tZ htZ hWZ => ⟨_, rfl, Or.inl ⟨by rw [okS, if_pos c2]; exact h9, rfl⟩, htZ⟩) (fun _ h => by cases h) dX6_maySet_21
    · refine lv_goto (tgt := 21) hx hb dX6_maySet_12 (by decide) ?_
      exact W.zret (v := (nI 0)) hx hb hr (by first | rfl | decide | assumption) (fun tZ htZ hWZ => ⟨_, rfl, Or.inr ⟨by rw [okS, if_pos c2]; exact h9, rfl⟩, htZ⟩) (fun _ h => by cases h) dX6_maySet_21

set_option maxHeartbeats 4000000 in
set_option maxRecDepth 100000 in
theorem c_X6_isStyle (l : Launch) (G : va_G) (E : cEnv) (x0 x1 x2 x3 : Int32) : Met l yX6_isStyle wsX6_isStyle ({ frames := 2, cells := 0, slots := 0, locals := 43 }) (va_Pc [.int x0, .int x1, .int x2, .int x3] (PR G E ([]))) (vp_Si (fun r => okSt x0 x1 x2 x3 ∧ r = nI 1 ∨ ¬ okSt x0 x1 x2 x3 ∧ r = nI 0)) 0 0 (fun _ => False) := by
  refine Met.ofW (cc := cX6_isStyle) (maxL := 4) (ret := (some .boolean)) (by decide) rfl ?_
  intro p e s m args below meth c s₁ B hml hv
  obtain ⟨rfl, hP, hK, hZ⟩ := hv
  have hx := B.exec
  have hb := B.bytes
  have hr := B.returns
  have hts := atoms_spec (ws := wsX6_isStyle) B.pre
  have hown : s.vm.findClass RX6 = some m.cls := findClass_of_methodNamed B.named
  have hlocks := B.notSynchronized
  have hS : va_S (fun _ => False) s.heap s.heap [] := va_S.rf
  have hl := lv_entry ([.int x0, .int x1, .int x2, .int x3]) (n := 4) (Nat.le_of_ble_eq_true rfl)
  rw [lg_entry_eq]
  generalize (lg_sl ([.int x0, .int x1, .int x2, .int x3]) ++ List.replicate (4 - (lg_sl ([.int x0, .int x1, .int x2, .int x3])).length) Slot.unset).toArray = ls at hl ⊢
  have hl : lv_has ls 4 [(0, .int x0), (1, .int x1), (2, .int x2), (3, .int x3)] := hl
  refine lv_iconst (v := (nI 0)) hx hb dX6_isStyle_0 (by decide) ?_
  refine lv_iload_n hx hb dX6_isStyle_1 rfl (lv_at hl 0 rfl) ?_
  refine rs_i (n := 2) (G := G) (E := E) (As := [.int (nI 0), .int x0]) (rest := []) ⟨hx, hb, hml, hown, hts⟩ hK hZ hS (c_X6_maySet l G E 0 x0 (by first | assumption | omega)) gX6_isStyle_X6_maySet rfl rfl rfl (by decide +kernel) ⟨Nat.le_of_ble_eq_true rfl, Nat.le_of_ble_eq_true rfl⟩ hP hl.1 rfl rfl (Nat.le_of_ble_eq_true rfl) dX6_isStyle_2 ⟨Nat.zero_le _, Nat.zero_le _⟩ (fun r2 p2 => ?_)
  rcases p2 with ⟨h2, rfl⟩ | ⟨h2, rfl⟩
  · refine n_if_eq (a := 1) (tgt := 36) hx hb (by decide) dX6_isStyle_5 (by decide) (fun c5 => absurd c5 (by decide)) (fun c5 => ?_)
    refine lv_iconst (v := (nI 1)) hx hb dX6_isStyle_8 (by decide) ?_
    refine lv_iload_n hx hb dX6_isStyle_9 rfl (lv_at hl 1 rfl) ?_
    refine rs_i (n := 2) (G := G) (E := E) (As := [.int (nI 1), .int x1]) (rest := []) ⟨hx, hb, hml, hown, hts⟩ hK hZ hS (c_X6_maySet l G E 1 x1 (by first | assumption | omega)) gX6_isStyle_X6_maySet rfl rfl rfl (by decide +kernel) ⟨Nat.le_of_ble_eq_true rfl, Nat.le_of_ble_eq_true rfl⟩ hP hl.1 rfl rfl (Nat.le_of_ble_eq_true rfl) dX6_isStyle_10 ⟨Nat.zero_le _, Nat.zero_le _⟩ (fun r10 p10 => ?_)
    rcases p10 with ⟨h10, rfl⟩ | ⟨h10, rfl⟩
    · refine n_if_eq (a := 1) (tgt := 36) hx hb (by decide) dX6_isStyle_13 (by decide) (fun c13 => absurd c13 (by decide)) (fun c13 => ?_)
      refine lv_iconst (v := (nI 2)) hx hb dX6_isStyle_16 (by decide) ?_
      refine lv_iload_n hx hb dX6_isStyle_17 rfl (lv_at hl 2 rfl) ?_
      refine rs_i (n := 2) (G := G) (E := E) (As := [.int (nI 2), .int x2]) (rest := []) ⟨hx, hb, hml, hown, hts⟩ hK hZ hS (c_X6_maySet l G E 2 x2 (by first | assumption | omega)) gX6_isStyle_X6_maySet rfl rfl rfl (by decide +kernel) ⟨Nat.le_of_ble_eq_true rfl, Nat.le_of_ble_eq_true rfl⟩ hP hl.1 rfl rfl (Nat.le_of_ble_eq_true rfl) dX6_isStyle_18 ⟨Nat.zero_le _, Nat.zero_le _⟩ (fun r18 p18 => ?_)
      rcases p18 with ⟨h18, rfl⟩ | ⟨h18, rfl⟩
      · refine n_if_eq (a := 1) (tgt := 36) hx hb (by decide) dX6_isStyle_21 (by decide) (fun c21 => absurd c21 (by decide)) (fun c21 => ?_)
        refine lv_iconst (v := (nI 3)) hx hb dX6_isStyle_24 (by decide) ?_
        refine lv_iload_n hx hb dX6_isStyle_25 rfl (lv_at hl 3 rfl) ?_
        refine rs_i (n := 2) (G := G) (E := E) (As := [.int (nI 3), .int x3]) (rest := []) ⟨hx, hb, hml, hown, hts⟩ hK hZ hS (c_X6_maySet l G E 3 x3 (by first | assumption | omega)) gX6_isStyle_X6_maySet rfl rfl rfl (by decide +kernel) ⟨Nat.le_of_ble_eq_true rfl, Nat.le_of_ble_eq_true rfl⟩ hP hl.1 rfl rfl (Nat.le_of_ble_eq_true rfl) dX6_isStyle_26 ⟨Nat.zero_le _, Nat.zero_le _⟩ (fun r26 p26 => ?_)
        rcases p26 with ⟨h26, rfl⟩ | ⟨h26, rfl⟩
        · refine n_if_eq (a := 1) (tgt := 36) hx hb (by decide) dX6_isStyle_29 (by decide) (fun c29 => absurd c29 (by decide)) (fun c29 => ?_)
          refine lv_iconst (v := (nI 1)) hx hb dX6_isStyle_32 (by decide) ?_
          refine lv_goto (tgt := 37) hx hb dX6_isStyle_33 (by decide) ?_
          exact W.zret (v := (nI 1)) hx hb hr (by first | rfl | decide | assumption) (fun tZ htZ hWZ => ⟨_, rfl, Or.inl ⟨⟨h2, h10, h18, h26⟩, rfl⟩, htZ⟩) (fun _ h => by cases h) dX6_isStyle_37
        · refine n_if_eq (a := 0) (tgt := 36) hx hb (by decide) dX6_isStyle_29 (by decide) (fun c29 => ?_) (fun c29 => absurd c29 (by decide))
          refine lv_iconst (v := (nI 0)) hx hb dX6_isStyle_36 (by decide) ?_
          exact W.zret (v := (nI 0)) hx hb hr (by first | rfl | decide | assumption) (fun tZ htZ hWZ => ⟨_, rfl, Or.inr ⟨fun q => h26 q.2.2.2, rfl⟩, htZ⟩) (fun _ h => by cases h) dX6_isStyle_37
      · refine n_if_eq (a := 0) (tgt := 36) hx hb (by decide) dX6_isStyle_21 (by decide) (fun c21 => ?_) (fun c21 => absurd c21 (by decide))
        refine lv_iconst (v := (nI 0)) hx hb dX6_isStyle_36 (by decide) ?_
        exact W.zret (v := (nI 0)) hx hb hr (by first | rfl | decide | assumption) (fun tZ htZ hWZ => ⟨_, rfl, Or.inr ⟨fun q => h18 q.2.2.1, rfl⟩, htZ⟩) (fun _ h => by cases h) dX6_isStyle_37
    · refine n_if_eq (a := 0) (tgt := 36) hx hb (by decide) dX6_isStyle_13 (by decide) (fun c13 => ?_) (fun c13 => absurd c13 (by decide))
      refine lv_iconst (v := (nI 0)) hx hb dX6_isStyle_36 (by decide) ?_
      exact W.zret (v := (nI 0)) hx hb hr (by first | rfl | decide | assumption) (fun tZ htZ hWZ => ⟨_, rfl, Or.inr ⟨fun q => h10 q.2.1, rfl⟩, htZ⟩) (fun _ h => by cases h) dX6_isStyle_37
  · refine n_if_eq (a := 0) (tgt := 36) hx hb (by decide) dX6_isStyle_5 (by decide) (fun c5 => ?_) (fun c5 => absurd c5 (by decide))
    refine lv_iconst (v := (nI 0)) hx hb dX6_isStyle_36 (by decide) ?_
    exact W.zret (v := (nI 0)) hx hb hr (by first | rfl | decide | assumption) (fun tZ htZ hWZ => ⟨_, rfl, Or.inr ⟨fun q => h2 q.1, rfl⟩, htZ⟩) (fun _ h => by cases h) dX6_isStyle_37

set_option maxHeartbeats 4000000 in
set_option maxRecDepth 100000 in
theorem c_X6_isOf (l : Launch) (G : va_G) (E : cEnv) (x y : Int32) : Met l yX6_isOf wsX6_isOf ({ frames := 0, cells := 0, slots := 0, locals := 0 }) (va_Pc [.int x, .int y] (PR G E ([]))) (vp_Si (fun r => tkO x y ∧ r = nI 1 ∨ ¬ tkO x y ∧ r = nI 0)) 0 0 (fun _ => False) := by
  refine Met.ofW (cc := cX6_isOf) (maxL := 2) (ret := (some .boolean)) (by decide) rfl ?_
  intro p e s m args below meth c s₁ B hml hv
  obtain ⟨rfl, hP, hK, hZ⟩ := hv
  have hx := B.exec
  have hb := B.bytes
  have hr := B.returns
  have hts := atoms_spec (ws := wsX6_isOf) B.pre
  have hown : s.vm.findClass RX6 = some m.cls := findClass_of_methodNamed B.named
  have hlocks := B.notSynchronized
  have hS : va_S (fun _ => False) s.heap s.heap [] := va_S.rf
  have hl := lv_entry ([.int x, .int y]) (n := 2) (Nat.le_of_ble_eq_true rfl)
  rw [lg_entry_eq]
  generalize (lg_sl ([.int x, .int y]) ++ List.replicate (2 - (lg_sl ([.int x, .int y])).length) Slot.unset).toArray = ls at hl ⊢
  have hl : lv_has ls 2 [(0, .int x), (1, .int y)] := hl
  refine lv_iload_n hx hb dX6_isOf_0 rfl (lv_at hl 1 rfl) ?_
  refine lv_if_eq (x := y) (tgt := 19) hx hb dX6_isOf_1 (by decide) (fun c1 => ?_) (fun c1 => ?_)
  · refine lv_iconst (v := (nI 1)) hx hb dX6_isOf_19 (by decide) ?_
    refine lv_goto (tgt := 24) hx hb dX6_isOf_20 (by decide) ?_
    exact W.zret (v := (nI 1)) hx hb hr (by first | rfl | decide | assumption) (fun tZ htZ hWZ => ⟨_, rfl, Or.inl ⟨Or.inl c1, rfl⟩, htZ⟩) (fun _ h => by cases h) dX6_isOf_24
  · refine lv_iload_n hx hb dX6_isOf_4 rfl (lv_at hl 0 rfl) ?_
    refine lv_iload_n hx hb dX6_isOf_5 rfl (lv_at hl 1 rfl) ?_
    refine lv_icmp_eq (x := x) (y := y) (tgt := 19) hx hb dX6_isOf_6 (by decide) (fun c6 => ?_) (fun c6 => ?_)
    · refine lv_iconst (v := (nI 1)) hx hb dX6_isOf_19 (by decide) ?_
      refine lv_goto (tgt := 24) hx hb dX6_isOf_20 (by decide) ?_
      exact W.zret (v := (nI 1)) hx hb hr (by first | rfl | decide | assumption) (fun tZ htZ hWZ => ⟨_, rfl, Or.inl ⟨Or.inr (Or.inl c6), rfl⟩, htZ⟩) (fun _ h => by cases h) dX6_isOf_24
    · refine lv_iload_n hx hb dX6_isOf_9 rfl (lv_at hl 1 rfl) ?_
      refine lv_iconst (v := (nI 2)) hx hb dX6_isOf_10 (by decide) ?_
      refine lv_icmp_ne (x := y) (y := (nI 2)) (tgt := 23) hx hb dX6_isOf_11 (by decide) (fun c11 => ?_) (fun c11 => ?_)
      · refine lv_iconst (v := (nI 0)) hx hb dX6_isOf_23 (by decide) ?_
        exact W.zret (v := (nI 0)) hx hb hr (by first | rfl | decide | assumption) (fun tZ htZ hWZ => ⟨_, rfl, Or.inr ⟨fun q => q.elim c1 (fun q => q.elim c6 (fun q => c11 q.1)), rfl⟩, htZ⟩) (fun _ h => by cases h) dX6_isOf_24
      · refine lv_iload_n hx hb dX6_isOf_14 rfl (lv_at hl 0 rfl) ?_
        refine lv_iconst (v := (nI 3)) hx hb dX6_isOf_15 (by decide) ?_
        refine lv_icmp_ne (x := x) (y := (nI 3)) (tgt := 23) hx hb dX6_isOf_16 (by decide) (fun c16 => ?_) (fun c16 => ?_)
        · refine lv_iconst (v := (nI 0)) hx hb dX6_isOf_23 (by decide) ?_
          exact W.zret (v := (nI 0)) hx hb hr (by first | rfl | decide | assumption) (fun tZ htZ hWZ => ⟨_, rfl, Or.inr ⟨fun q => q.elim c1 (fun q => q.elim c6 (fun q => c16 q.2)), rfl⟩, htZ⟩) (fun _ h => by cases h) dX6_isOf_24
        · refine lv_iconst (v := (nI 1)) hx hb dX6_isOf_19 (by decide) ?_
          refine lv_goto (tgt := 24) hx hb dX6_isOf_20 (by decide) ?_
          exact W.zret (v := (nI 1)) hx hb hr (by first | rfl | decide | assumption) (fun tZ htZ hWZ => ⟨_, rfl, Or.inl ⟨Or.inr (Or.inr ⟨c11, c16⟩), rfl⟩, htZ⟩) (fun _ h => by cases h) dX6_isOf_24

set_option maxHeartbeats 4000000 in
set_option maxRecDepth 100000 in
theorem c_X6_widthsOf (l : Launch) (G : va_G) (E : cEnv) (a : Nat → Nat) (ln op dp la : Nat) (row seen sty lineO tokO atO baseO kindO partO colO openO strayO stk bys was gsd cellsO sortO kLine kAt kKind : Nat → Int32) (t : Nat) (ht : t < 2 ^ 31) (hz : nzb t = true) : Met l yX6_widthsOf wsX6_widthsOf ({ frames := 2, cells := 0, slots := 0, locals := 45 }) (va_Pc [.ref (a 0), .int (nI t)] (PR G E (rW E a ln op dp la row seen sty lineO tokO atO baseO kindO partO colO openO strayO stk bys was gsd cellsO sortO kLine kAt kKind))) (vp_Si (fun r => r = nI (wsum t (len t)))) 0 0 (fun _ => False) := by
  refine Met.ofW (cc := cX6_widthsOf) (maxL := 4) (ret := (some .int)) (by decide) rfl ?_
  intro p e s m args below meth c s₁ B hml hv
  obtain ⟨rfl, hP, hK, hZ⟩ := hv
  have hx := B.exec
  have hb := B.bytes
  have hr := B.returns
  have hts := atoms_spec (ws := wsX6_widthsOf) B.pre
  have hown : s.vm.findClass RX6 = some m.cls := findClass_of_methodNamed B.named
  have hlocks := B.notSynchronized
  have hS : va_S (fun _ => False) s.heap s.heap [] := va_S.rf
  have hl := lv_entry ([.ref (a 0), .int (nI t)]) (n := 4) (Nat.le_of_ble_eq_true rfl)
  rw [lg_entry_eq]
  generalize (lg_sl ([.ref (a 0), .int (nI t)]) ++ List.replicate (4 - (lg_sl ([.ref (a 0), .int (nI t)])).length) Slot.unset).toArray = ls at hl ⊢
  have hl : lv_has ls 4 [(0, .ref (a 0)), (1, .int (nI t))] := hl
  have hlb := (len_lt 10 t).mp (by omega)
  refine lv_iconst (v := (nI 0)) hx hb dX6_widthsOf_0 (by decide) ?_
  refine lv_istore_n (lv' := [(2, .int (nI 0)), (0, .ref (a 0)), (1, .int (nI t))]) hx hb dX6_widthsOf_1 rfl hl (by decide) rfl (fun ls hl => ?_)
  refine lv_iconst (v := (nI 0)) hx hb dX6_widthsOf_2 (by decide) ?_
  refine lv_istore_n (lv' := [(3, .int (nI 0)), (2, .int (nI 0)), (0, .ref (a 0)), (1, .int (nI t))]) hx hb dX6_widthsOf_3 rfl hl (by decide) rfl (fun ls hl => ?_)
  have lp4 : ∀ (kk : Nat) (sm : Nat) (k : Nat), (sm = wsum t k) → (k ≤ len t) → len t - k < kk → ∀ ls : Array Slot, lv_has ls 4 [(3, .int (nI k)), (2, .int (nI sm)), (0, .ref (a 0)), (1, .int (nI t))] → W p l e (headSpec wsX6_widthsOf ({ frames := 2, cells := 0, slots := 0, locals := 45 } : Room)).room s m ([.ref (a 0), .int (nI t)] : List Value).toArray below meth c s.heap [] 0 0 (MQ below (vp_Si (fun r => r = nI (wsum t (len t)))) ([.ref (a 0), .int (nI t)] : List Value).toArray s 0 0 (fun _ => False)) (F0 m 4 ls []) := by
    intro kk
    induction kk with
    | zero => intro sm k  hsm hk hkk; exact absurd hkk (Nat.not_lt_zero _)
    | succ kk ih4 =>
      intro sm k hsm hk hkk ls hl
      refine lv_iload_n hx hb dX6_widthsOf_4 rfl (lv_at hl 0 rfl) ?_
      refine lv_iload_n hx hb dX6_widthsOf_5 rfl (lv_at hl 3 rfl) ?_
      refine rs_i (n := 1) (G := G) (E := E) (As := [.int (nI t)]) (rest := [.int (nI k)]) ⟨hx, hb, hml, hown, hts⟩ hK hZ hS (c_X6_lengthOf l G E t (by first | assumption | omega)) gX6_widthsOf_X6_lengthOf rfl rfl rfl (by decide +kernel) ⟨Nat.le_of_ble_eq_true rfl, Nat.le_of_ble_eq_true rfl⟩ (fun k q h => by simp at h) hl.1 rfl rfl (Nat.le_of_ble_eq_true rfl) dX6_widthsOf_6 ⟨Nat.zero_le _, Nat.zero_le _⟩ (fun r6 p6 => ?_)
      subst p6
      refine n_icmp_ge (a := k) (b := (len t)) (tgt := 29) hx hb (by omega) (by omega) dX6_widthsOf_9 (by decide) (fun c9 => ?_) (fun c9 => ?_)
      · refine lv_iload_n hx hb dX6_widthsOf_29 rfl (lv_at hl 1 rfl) ?_
        exact W.iret (v := (nI sm)) hx hb hr (fun tZ htZ hWZ => ⟨_, rfl, by rw [hsm, show k = len t by omega], htZ⟩) (fun _ h => by cases h) dX6_widthsOf_30
      · refine lv_iload_n hx hb dX6_widthsOf_12 rfl (lv_at hl 1 rfl) ?_
        refine lv_iload_n hx hb dX6_widthsOf_13 rfl (lv_at hl 3 rfl) ?_
        refine lv_iload_n hx hb dX6_widthsOf_14 rfl (lv_at hl 0 rfl) ?_
        refine rs_i (n := 2) (G := G) (E := E) (As := [.int (nI t), .int (nI k)]) (rest := [.int (nI sm)]) ⟨hx, hb, hml, hown, hts⟩ hK hZ hS (c_X6_tokenAt l G E t k (by first | assumption | omega) (by first | assumption | omega)) gX6_widthsOf_X6_tokenAt rfl rfl rfl (by decide +kernel) ⟨Nat.le_of_ble_eq_true rfl, Nat.le_of_ble_eq_true rfl⟩ (fun k q h => by simp at h) hl.1 rfl rfl (Nat.le_of_ble_eq_true rfl) dX6_widthsOf_15 ⟨Nat.zero_le _, Nat.zero_le _⟩ (fun r15 p15 => ?_)
        subst p15
        refine rs_i (n := 1) (G := G) (E := E) (As := [.int (nI (tok t k))]) (rest := [.int (nI sm)]) ⟨hx, hb, hml, hown, hts⟩ hK hZ hS (c_X6_widthOf l G E (tok t k) (tok_lt t k)) gX6_widthsOf_X6_widthOf rfl rfl rfl (by decide +kernel) ⟨Nat.le_of_ble_eq_true rfl, Nat.le_of_ble_eq_true rfl⟩ (fun k q h => by simp at h) hl.1 rfl rfl (Nat.le_of_ble_eq_true rfl) dX6_widthsOf_18 ⟨Nat.zero_le _, Nat.zero_le _⟩ (fun r18 p18 => ?_)
        subst p18
        refine k_iadd (a := sm) (b := (wd1 (tok t k))) hx hb dX6_widthsOf_21 ?_
        refine lv_istore_n (lv' := [(2, .int (nI (sm + (wd1 (tok t k))))), (3, .int (nI k)), (0, .ref (a 0)), (1, .int (nI t))]) hx hb dX6_widthsOf_22 rfl hl (by decide) rfl (fun ls hl => ?_)
        refine lv_iinc (v := (nI (k + 1))) (lv' := [(3, .int (nI (k + 1))), (2, .int (nI (sm + (wd1 (tok t k))))), (0, .ref (a 0)), (1, .int (nI t))]) hx hb dX6_widthsOf_23 hl (k := 1) rfl (k_inc k) (by decide) rfl (fun ls hl => ?_)
        refine lv_goto (tgt := 4) hx hb dX6_widthsOf_26 (by decide) ?_
        exact ih4 (sm + (wd1 (tok t k))) (k + 1) (by rw [hsm, wd1_eq (tok_pos hz c9)]; rfl) (by omega) (by omega) ls (lv_sub hl [0, 1, 2, 3] rfl)
  exact lp4 (len t - 0 + 1) 0 0 rfl (Nat.zero_le _) (Nat.lt_succ_self _) ls (lv_sub hl [0, 1, 2, 3] rfl)
end
section
set_option maxHeartbeats 4000000 in
set_option maxRecDepth 100000 in
theorem c_X6_columnFor (l : Launch) (G : va_G) (E : cEnv) (a : Nat → Nat) (ln : Nat) (row seen sty lineO tokO atO baseO kindO partO colO openO strayO stk bys was gsd cellsO sortO kLine kAt kKind : Nat → Int32) (x : Nat) (S : NS) (C : Nat → Int32) (mm L bb : Nat) (hx0 : x < 10) (hRR : RR (bys 2) S C mm lineO tokO atO baseO kindO partO colO openO strayO stk) (hwf : wfN S L bb) (hbb : bb ≤ 180) : Met l yX6_columnFor wsX6_columnFor ({ frames := 1, cells := 0, slots := 0, locals := 20 }) (va_Pc [.ref (a 0), .int (nI x)] (PR G E (rW E a ln (nO S) (nD S) (nL S) row seen sty lineO tokO atO baseO kindO partO colO openO strayO stk bys was gsd cellsO sortO kLine kAt kKind))) (vp_Si (fun r => r = cvt bys (nF S) C (topN S) (nL S) x)) 0 0 (fun _ => False) := by
  refine Met.ofW (cc := cX6_columnFor) (maxL := 6) (ret := (some .int)) (by decide) rfl ?_
  intro p e s m args below meth c s₁ B hml hv
  obtain ⟨rfl, hP, hK, hZ⟩ := hv
  have hx := B.exec
  have hb := B.bytes
  have hr := B.returns
  have hts := atoms_spec (ws := wsX6_columnFor) B.pre
  have hown : s.vm.findClass RX6 = some m.cls := findClass_of_methodNamed B.named
  have hlocks := B.notSynchronized
  have hin6 : ∀ w ∈ u_ws RX6 TX6 25, w ∈ wsX6_columnFor := mem_pl [13, 14, 15, 16, 17, 18, 19, 20, 21, 22, 23, 24, 25, 26, 27, 28, 29, 30, 31, 32, 33, 34, 35, 36, 37] (by rfl)
  have hS : va_S (fun _ => False) s.heap s.heap [] := va_S.rf
  have hl := lv_entry ([.ref (a 0), .int (nI x)]) (n := 6) (Nat.le_of_ble_eq_true rfl)
  rw [lg_entry_eq]
  generalize (lg_sl ([.ref (a 0), .int (nI x)]) ++ List.replicate (6 - (lg_sl ([.ref (a 0), .int (nI x)])).length) Slot.unset).toArray = ls at hl ⊢
  have hl : lv_has ls 6 [(0, .ref (a 0)), (1, .int (nI x))] := hl
  have hla := hwf.2.2.2.2
  refine lv_aload_n hx hb dX6_columnFor_0 rfl (lv_at hl 0 rfl) ?_
  refine rv_i (n := 0) (G := G) (E := E) (As := []) (rest := []) (ci := 6) (q0 := 0) ⟨hx, hb, hml, hown, hts⟩ hK hZ hS (c_X6_top l G E a ln (nO S) (nD S) (nL S) row seen sty lineO tokO atO baseO kindO partO colO openO strayO stk bys was gsd cellsO sortO kLine kAt kKind (by have := hwf.1; have := hwf.2.1; omega)) gX6_columnFor_X6_top rfl rfl rfl (by decide +kernel) ⟨Nat.le_of_ble_eq_true rfl, Nat.le_of_ble_eq_true rfl⟩ hP rfl rfl hl.1 rfl rfl (Nat.le_of_ble_eq_true rfl) dX6_columnFor_1 ⟨Nat.zero_le _, Nat.zero_le _⟩ (fun r1 p1 => ?_)
  rcases p1 with ⟨d1, rfl⟩ | ⟨d1, rfl⟩
  · have htop : topN S = 0 := by unfold topN; rw [if_pos d1]
    refine lv_istore_n (lv' := [(2, .int (-9)), (0, .ref (a 0)), (1, .int (nI x))]) hx hb dX6_columnFor_4 rfl hl (by decide) rfl (fun ls hl => ?_)
    refine lv_iload_n hx hb dX6_columnFor_5 rfl (lv_at hl 0 rfl) ?_
    refine lv_bipush (v := (-9)) hx hb dX6_columnFor_6 (by decide) ?_
    refine lv_icmp_eq (x := (-9)) (y := (-9)) (tgt := 25) hx hb dX6_columnFor_8 (by decide) (fun c8 => ?_) (fun c8 => absurd c8 (by decide))
    refine lv_iconst (v := (nI 0)) hx hb dX6_columnFor_25 (by decide) ?_
    refine lv_istore_n (lv' := [(3, .int (nI 0)), (2, .int (-9)), (0, .ref (a 0)), (1, .int (nI x))]) hx hb dX6_columnFor_26 rfl hl (by decide) rfl (fun ls hl => ?_)
    refine lv_iload_n hx hb dX6_columnFor_27 rfl (lv_at hl 3 rfl) ?_
    refine lv_iconst (v := (nI 3)) hx hb dX6_columnFor_28 (by decide) ?_
    refine n_icmp_ne (a := x) (b := 3) (tgt := 64) hx hb (by omega) (by decide) dX6_columnFor_29 (by decide) (fun c29 => ?_) (fun c29 => ?_)
    · refine lv_iload_n hx hb dX6_columnFor_64 rfl (lv_at hl 1 rfl) ?_
      refine lv_bipush (v := (-9)) hx hb dX6_columnFor_65 (by decide) ?_
      refine lv_icmp_eq (x := (-9)) (y := (-9)) (tgt := 139) hx hb dX6_columnFor_67 (by decide) (fun c67 => ?_) (fun c67 => absurd c67 (by decide))
      refine lv_iload_n hx hb dX6_columnFor_139 rfl (lv_at hl 0 rfl) ?_
      refine n_if_eq (a := 0) (tgt := 159) hx hb (by decide) dX6_columnFor_140 (by decide) (fun c140 => ?_) (fun c140 => absurd c140 (by decide))
      refine lv_iconst (v := (nI 0)) hx hb dX6_columnFor_159 (by decide) ?_
      refine lv_istore (lv' := [(4, .int (nI 0)), (3, .int (nI 0)), (2, .int (-9)), (0, .ref (a 0)), (1, .int (nI x))]) hx hb dX6_columnFor_160 hl (by decide) rfl (fun ls hl => ?_)
      refine lv_aload_n hx hb dX6_columnFor_162 rfl (lv_at hl 3 rfl) ?_
      refine va_get (D := G) (ci := 6) (v := .int (nI (nL S))) (C := RX6) (T := TX6) (N := 25) hx hb hts hin6 hown hK hP 0 rfl rfl 16 (by decide) (hts (Cond.fieldLink RX6 92 "IndentRulesModel" "last" "I") (List.mem_of_getElem? (i := 5) rfl)) (fun _ h9 => h9) rfl dX6_columnFor_163 ?_
      refine lv_iconst (v := (nI 1)) hx hb dX6_columnFor_166 (by decide) ?_
      refine n_icmp_eq (a := (nL S)) (b := 1) (tgt := 187) hx hb (by omega) (by decide) dX6_columnFor_167 (by decide) (fun c167 => ?_) (fun c167 => ?_)
      · refine lv_iconst (v := (nI 1)) hx hb dX6_columnFor_187 (by decide) ?_
        refine lv_goto (tgt := 192) hx hb dX6_columnFor_188 (by decide) ?_
        refine lv_istore (lv' := [(5, .int (nI 1)), (4, .int (nI 0)), (3, .int (nI 0)), (2, .int (-9)), (0, .ref (a 0)), (1, .int (nI x))]) hx hb dX6_columnFor_192 hl (by decide) rfl (fun ls hl => ?_)
        refine lv_iload hx hb dX6_columnFor_194 (lv_at hl 0 rfl) ?_
        refine n_if_eq (a := 1) (tgt := 211) hx hb (by decide) dX6_columnFor_196 (by decide) (fun c196 => absurd c196 (by decide)) (fun c196 => ?_)
        refine lv_iload hx hb dX6_columnFor_199 (lv_at hl 1 rfl) ?_
        refine lv_aload_n hx hb dX6_columnFor_201 rfl (lv_at hl 4 rfl) ?_
        refine va_get (D := G) (ci := 6) (v := .ref (a 17)) (C := RX6) (T := TX6) (N := 25) hx hb hts hin6 hown hK hP 0 rfl rfl 17 (by decide) (hts (Cond.fieldLink RX6 49 "IndentRulesModel" "by" "[I") (List.mem_of_getElem? (i := 3) rfl)) (fun _ h9 => h9) rfl dX6_columnFor_202 ?_
        refine lv_iconst (v := (nI 1)) hx hb dX6_columnFor_205 (by decide) ?_
        refine k_iald (D := G) (tys := TYS E) (j := 1) (f := bys) (n := 4) hx hb hK hP 14 0 rfl rfl (by decide) (by decide) dX6_columnFor_206 ?_
        refine lv_iadd hx hb dX6_columnFor_207 ?_
        refine lv_topi (fun v207 ev207 => ?_)
        refine lv_goto (tgt := 234) hx hb dX6_columnFor_208 (by decide) ?_
        exact W.iret (v := v207) hx hb hr (fun tZ htZ hWZ => ⟨_, rfl, by rw [htop, cvt_0]; simp [gO, add_n0, c8, c29, c67, c140, c167, c196, ev207], htZ⟩) (fun _ h => by cases h) dX6_columnFor_234
      · refine lv_aload_n hx hb dX6_columnFor_170 rfl (lv_at hl 3 rfl) ?_
        refine va_get (D := G) (ci := 6) (v := .int (nI (nL S))) (C := RX6) (T := TX6) (N := 25) hx hb hts hin6 hown hK hP 0 rfl rfl 16 (by decide) (hts (Cond.fieldLink RX6 92 "IndentRulesModel" "last" "I") (List.mem_of_getElem? (i := 5) rfl)) (fun _ h9 => h9) rfl dX6_columnFor_171 ?_
        refine lv_iconst (v := (nI 5)) hx hb dX6_columnFor_174 (by decide) ?_
        refine n_icmp_eq (a := (nL S)) (b := 5) (tgt := 187) hx hb (by omega) (by decide) dX6_columnFor_175 (by decide) (fun c175 => ?_) (fun c175 => ?_)
        · refine lv_iconst (v := (nI 1)) hx hb dX6_columnFor_187 (by decide) ?_
          refine lv_goto (tgt := 192) hx hb dX6_columnFor_188 (by decide) ?_
          refine lv_istore (lv' := [(5, .int (nI 1)), (4, .int (nI 0)), (3, .int (nI 0)), (2, .int (-9)), (0, .ref (a 0)), (1, .int (nI x))]) hx hb dX6_columnFor_192 hl (by decide) rfl (fun ls hl => ?_)
          refine lv_iload hx hb dX6_columnFor_194 (lv_at hl 0 rfl) ?_
          refine n_if_eq (a := 1) (tgt := 211) hx hb (by decide) dX6_columnFor_196 (by decide) (fun c196 => absurd c196 (by decide)) (fun c196 => ?_)
          refine lv_iload hx hb dX6_columnFor_199 (lv_at hl 1 rfl) ?_
          refine lv_aload_n hx hb dX6_columnFor_201 rfl (lv_at hl 4 rfl) ?_
          refine va_get (D := G) (ci := 6) (v := .ref (a 17)) (C := RX6) (T := TX6) (N := 25) hx hb hts hin6 hown hK hP 0 rfl rfl 17 (by decide) (hts (Cond.fieldLink RX6 49 "IndentRulesModel" "by" "[I") (List.mem_of_getElem? (i := 3) rfl)) (fun _ h9 => h9) rfl dX6_columnFor_202 ?_
          refine lv_iconst (v := (nI 1)) hx hb dX6_columnFor_205 (by decide) ?_
          refine k_iald (D := G) (tys := TYS E) (j := 1) (f := bys) (n := 4) hx hb hK hP 14 0 rfl rfl (by decide) (by decide) dX6_columnFor_206 ?_
          refine lv_iadd hx hb dX6_columnFor_207 ?_
          refine lv_topi (fun v207 ev207 => ?_)
          refine lv_goto (tgt := 234) hx hb dX6_columnFor_208 (by decide) ?_
          exact W.iret (v := v207) hx hb hr (fun tZ htZ hWZ => ⟨_, rfl, by rw [htop, cvt_0]; simp [gO, add_n0, c8, c29, c67, c140, c167, c175, c196, ev207], htZ⟩) (fun _ h => by cases h) dX6_columnFor_234
        · refine lv_aload_n hx hb dX6_columnFor_178 rfl (lv_at hl 3 rfl) ?_
          refine va_get (D := G) (ci := 6) (v := .int (nI (nL S))) (C := RX6) (T := TX6) (N := 25) hx hb hts hin6 hown hK hP 0 rfl rfl 16 (by decide) (hts (Cond.fieldLink RX6 92 "IndentRulesModel" "last" "I") (List.mem_of_getElem? (i := 5) rfl)) (fun _ h9 => h9) rfl dX6_columnFor_179 ?_
          refine lv_bipush (v := (nI 6)) hx hb dX6_columnFor_182 (by decide) ?_
          refine n_icmp_ne (a := (nL S)) (b := 6) (tgt := 191) hx hb (by omega) (by decide) dX6_columnFor_184 (by decide) (fun c184 => ?_) (fun c184 => ?_)
          · refine lv_iconst (v := (nI 0)) hx hb dX6_columnFor_191 (by decide) ?_
            refine lv_istore (lv' := [(5, .int (nI 0)), (4, .int (nI 0)), (3, .int (nI 0)), (2, .int (-9)), (0, .ref (a 0)), (1, .int (nI x))]) hx hb dX6_columnFor_192 hl (by decide) rfl (fun ls hl => ?_)
            refine lv_iload hx hb dX6_columnFor_194 (lv_at hl 0 rfl) ?_
            refine n_if_eq (a := 0) (tgt := 211) hx hb (by decide) dX6_columnFor_196 (by decide) (fun c196 => ?_) (fun c196 => absurd c196 (by decide))
            refine lv_aload_n hx hb dX6_columnFor_211 rfl (lv_at hl 4 rfl) ?_
            refine va_get (D := G) (ci := 6) (v := .int (nI (nL S))) (C := RX6) (T := TX6) (N := 25) hx hb hts hin6 hown hK hP 0 rfl rfl 16 (by decide) (hts (Cond.fieldLink RX6 92 "IndentRulesModel" "last" "I") (List.mem_of_getElem? (i := 5) rfl)) (fun _ h9 => h9) rfl dX6_columnFor_212 ?_
            refine lv_bipush (v := (nI 7)) hx hb dX6_columnFor_215 (by decide) ?_
            refine n_icmp_ne (a := (nL S)) (b := 7) (tgt := 232) hx hb (by omega) (by decide) dX6_columnFor_217 (by decide) (fun c217 => ?_) (fun c217 => ?_)
            · refine lv_iload hx hb dX6_columnFor_232 (lv_at hl 1 rfl) ?_
              exact W.iret (v := (nI 0)) hx hb hr (fun tZ htZ hWZ => ⟨_, rfl, by rw [htop, cvt_0]; simp [gO, add_n0, c8, c29, c67, c140, c167, c175, c184, c196, c217], htZ⟩) (fun _ h => by cases h) dX6_columnFor_234
            · refine lv_iload hx hb dX6_columnFor_220 (lv_at hl 1 rfl) ?_
              refine lv_aload_n hx hb dX6_columnFor_222 rfl (lv_at hl 4 rfl) ?_
              refine va_get (D := G) (ci := 6) (v := .ref (a 17)) (C := RX6) (T := TX6) (N := 25) hx hb hts hin6 hown hK hP 0 rfl rfl 17 (by decide) (hts (Cond.fieldLink RX6 49 "IndentRulesModel" "by" "[I") (List.mem_of_getElem? (i := 3) rfl)) (fun _ h9 => h9) rfl dX6_columnFor_223 ?_
              refine lv_iconst (v := (nI 0)) hx hb dX6_columnFor_226 (by decide) ?_
              refine k_iald (D := G) (tys := TYS E) (j := 0) (f := bys) (n := 4) hx hb hK hP 14 0 rfl rfl (by decide) (by decide) dX6_columnFor_227 ?_
              refine lv_iadd hx hb dX6_columnFor_228 ?_
              refine lv_topi (fun v228 ev228 => ?_)
              refine lv_goto (tgt := 234) hx hb dX6_columnFor_229 (by decide) ?_
              exact W.iret (v := v228) hx hb hr (fun tZ htZ hWZ => ⟨_, rfl, by rw [htop, cvt_0]; simp [gO, add_n0, c8, c29, c67, c140, c167, c175, c184, c196, c217, ev228], htZ⟩) (fun _ h => by cases h) dX6_columnFor_234
          · refine lv_iconst (v := (nI 1)) hx hb dX6_columnFor_187 (by decide) ?_
            refine lv_goto (tgt := 192) hx hb dX6_columnFor_188 (by decide) ?_
            refine lv_istore (lv' := [(5, .int (nI 1)), (4, .int (nI 0)), (3, .int (nI 0)), (2, .int (-9)), (0, .ref (a 0)), (1, .int (nI x))]) hx hb dX6_columnFor_192 hl (by decide) rfl (fun ls hl => ?_)
            refine lv_iload hx hb dX6_columnFor_194 (lv_at hl 0 rfl) ?_
            refine n_if_eq (a := 1) (tgt := 211) hx hb (by decide) dX6_columnFor_196 (by decide) (fun c196 => absurd c196 (by decide)) (fun c196 => ?_)
            refine lv_iload hx hb dX6_columnFor_199 (lv_at hl 1 rfl) ?_
            refine lv_aload_n hx hb dX6_columnFor_201 rfl (lv_at hl 4 rfl) ?_
            refine va_get (D := G) (ci := 6) (v := .ref (a 17)) (C := RX6) (T := TX6) (N := 25) hx hb hts hin6 hown hK hP 0 rfl rfl 17 (by decide) (hts (Cond.fieldLink RX6 49 "IndentRulesModel" "by" "[I") (List.mem_of_getElem? (i := 3) rfl)) (fun _ h9 => h9) rfl dX6_columnFor_202 ?_
            refine lv_iconst (v := (nI 1)) hx hb dX6_columnFor_205 (by decide) ?_
            refine k_iald (D := G) (tys := TYS E) (j := 1) (f := bys) (n := 4) hx hb hK hP 14 0 rfl rfl (by decide) (by decide) dX6_columnFor_206 ?_
            refine lv_iadd hx hb dX6_columnFor_207 ?_
            refine lv_topi (fun v207 ev207 => ?_)
            refine lv_goto (tgt := 234) hx hb dX6_columnFor_208 (by decide) ?_
            exact W.iret (v := v207) hx hb hr (fun tZ htZ hWZ => ⟨_, rfl, by rw [htop, cvt_0]; simp [gO, add_n0, c8, c29, c67, c140, c167, c175, c184, c196, ev207], htZ⟩) (fun _ h => by cases h) dX6_columnFor_234
    · refine lv_iload_n hx hb dX6_columnFor_32 rfl (lv_at hl 0 rfl) ?_
      refine n_if_eq (a := 0) (tgt := 64) hx hb (by decide) dX6_columnFor_33 (by decide) (fun c33 => ?_) (fun c33 => absurd c33 (by decide))
      refine lv_iload_n hx hb dX6_columnFor_64 rfl (lv_at hl 1 rfl) ?_
      refine lv_bipush (v := (-9)) hx hb dX6_columnFor_65 (by decide) ?_
      refine lv_icmp_eq (x := (-9)) (y := (-9)) (tgt := 139) hx hb dX6_columnFor_67 (by decide) (fun c67 => ?_) (fun c67 => absurd c67 (by decide))
      refine lv_iload_n hx hb dX6_columnFor_139 rfl (lv_at hl 0 rfl) ?_
      refine n_if_eq (a := 0) (tgt := 159) hx hb (by decide) dX6_columnFor_140 (by decide) (fun c140 => ?_) (fun c140 => absurd c140 (by decide))
      refine lv_iconst (v := (nI 0)) hx hb dX6_columnFor_159 (by decide) ?_
      refine lv_istore (lv' := [(4, .int (nI 0)), (3, .int (nI 0)), (2, .int (-9)), (0, .ref (a 0)), (1, .int (nI x))]) hx hb dX6_columnFor_160 hl (by decide) rfl (fun ls hl => ?_)
      refine lv_aload_n hx hb dX6_columnFor_162 rfl (lv_at hl 3 rfl) ?_
      refine va_get (D := G) (ci := 6) (v := .int (nI (nL S))) (C := RX6) (T := TX6) (N := 25) hx hb hts hin6 hown hK hP 0 rfl rfl 16 (by decide) (hts (Cond.fieldLink RX6 92 "IndentRulesModel" "last" "I") (List.mem_of_getElem? (i := 5) rfl)) (fun _ h9 => h9) rfl dX6_columnFor_163 ?_
      refine lv_iconst (v := (nI 1)) hx hb dX6_columnFor_166 (by decide) ?_
      refine n_icmp_eq (a := (nL S)) (b := 1) (tgt := 187) hx hb (by omega) (by decide) dX6_columnFor_167 (by decide) (fun c167 => ?_) (fun c167 => ?_)
      · refine lv_iconst (v := (nI 1)) hx hb dX6_columnFor_187 (by decide) ?_
        refine lv_goto (tgt := 192) hx hb dX6_columnFor_188 (by decide) ?_
        refine lv_istore (lv' := [(5, .int (nI 1)), (4, .int (nI 0)), (3, .int (nI 0)), (2, .int (-9)), (0, .ref (a 0)), (1, .int (nI x))]) hx hb dX6_columnFor_192 hl (by decide) rfl (fun ls hl => ?_)
        refine lv_iload hx hb dX6_columnFor_194 (lv_at hl 0 rfl) ?_
        refine n_if_eq (a := 1) (tgt := 211) hx hb (by decide) dX6_columnFor_196 (by decide) (fun c196 => absurd c196 (by decide)) (fun c196 => ?_)
        refine lv_iload hx hb dX6_columnFor_199 (lv_at hl 1 rfl) ?_
        refine lv_aload_n hx hb dX6_columnFor_201 rfl (lv_at hl 4 rfl) ?_
        refine va_get (D := G) (ci := 6) (v := .ref (a 17)) (C := RX6) (T := TX6) (N := 25) hx hb hts hin6 hown hK hP 0 rfl rfl 17 (by decide) (hts (Cond.fieldLink RX6 49 "IndentRulesModel" "by" "[I") (List.mem_of_getElem? (i := 3) rfl)) (fun _ h9 => h9) rfl dX6_columnFor_202 ?_
        refine lv_iconst (v := (nI 1)) hx hb dX6_columnFor_205 (by decide) ?_
        refine k_iald (D := G) (tys := TYS E) (j := 1) (f := bys) (n := 4) hx hb hK hP 14 0 rfl rfl (by decide) (by decide) dX6_columnFor_206 ?_
        refine lv_iadd hx hb dX6_columnFor_207 ?_
        refine lv_topi (fun v207 ev207 => ?_)
        refine lv_goto (tgt := 234) hx hb dX6_columnFor_208 (by decide) ?_
        exact W.iret (v := v207) hx hb hr (fun tZ htZ hWZ => ⟨_, rfl, by rw [htop, cvt_0]; simp [gO, add_n0, c8, c29, c33, c67, c140, c167, c196, ev207], htZ⟩) (fun _ h => by cases h) dX6_columnFor_234
      · refine lv_aload_n hx hb dX6_columnFor_170 rfl (lv_at hl 3 rfl) ?_
        refine va_get (D := G) (ci := 6) (v := .int (nI (nL S))) (C := RX6) (T := TX6) (N := 25) hx hb hts hin6 hown hK hP 0 rfl rfl 16 (by decide) (hts (Cond.fieldLink RX6 92 "IndentRulesModel" "last" "I") (List.mem_of_getElem? (i := 5) rfl)) (fun _ h9 => h9) rfl dX6_columnFor_171 ?_
        refine lv_iconst (v := (nI 5)) hx hb dX6_columnFor_174 (by decide) ?_
        refine n_icmp_eq (a := (nL S)) (b := 5) (tgt := 187) hx hb (by omega) (by decide) dX6_columnFor_175 (by decide) (fun c175 => ?_) (fun c175 => ?_)
        · refine lv_iconst (v := (nI 1)) hx hb dX6_columnFor_187 (by decide) ?_
          refine lv_goto (tgt := 192) hx hb dX6_columnFor_188 (by decide) ?_
          refine lv_istore (lv' := [(5, .int (nI 1)), (4, .int (nI 0)), (3, .int (nI 0)), (2, .int (-9)), (0, .ref (a 0)), (1, .int (nI x))]) hx hb dX6_columnFor_192 hl (by decide) rfl (fun ls hl => ?_)
          refine lv_iload hx hb dX6_columnFor_194 (lv_at hl 0 rfl) ?_
          refine n_if_eq (a := 1) (tgt := 211) hx hb (by decide) dX6_columnFor_196 (by decide) (fun c196 => absurd c196 (by decide)) (fun c196 => ?_)
          refine lv_iload hx hb dX6_columnFor_199 (lv_at hl 1 rfl) ?_
          refine lv_aload_n hx hb dX6_columnFor_201 rfl (lv_at hl 4 rfl) ?_
          refine va_get (D := G) (ci := 6) (v := .ref (a 17)) (C := RX6) (T := TX6) (N := 25) hx hb hts hin6 hown hK hP 0 rfl rfl 17 (by decide) (hts (Cond.fieldLink RX6 49 "IndentRulesModel" "by" "[I") (List.mem_of_getElem? (i := 3) rfl)) (fun _ h9 => h9) rfl dX6_columnFor_202 ?_
          refine lv_iconst (v := (nI 1)) hx hb dX6_columnFor_205 (by decide) ?_
          refine k_iald (D := G) (tys := TYS E) (j := 1) (f := bys) (n := 4) hx hb hK hP 14 0 rfl rfl (by decide) (by decide) dX6_columnFor_206 ?_
          refine lv_iadd hx hb dX6_columnFor_207 ?_
          refine lv_topi (fun v207 ev207 => ?_)
          refine lv_goto (tgt := 234) hx hb dX6_columnFor_208 (by decide) ?_
          exact W.iret (v := v207) hx hb hr (fun tZ htZ hWZ => ⟨_, rfl, by rw [htop, cvt_0]; simp [gO, add_n0, c8, c29, c33, c67, c140, c167, c175, c196, ev207], htZ⟩) (fun _ h => by cases h) dX6_columnFor_234
        · refine lv_aload_n hx hb dX6_columnFor_178 rfl (lv_at hl 3 rfl) ?_
          refine va_get (D := G) (ci := 6) (v := .int (nI (nL S))) (C := RX6) (T := TX6) (N := 25) hx hb hts hin6 hown hK hP 0 rfl rfl 16 (by decide) (hts (Cond.fieldLink RX6 92 "IndentRulesModel" "last" "I") (List.mem_of_getElem? (i := 5) rfl)) (fun _ h9 => h9) rfl dX6_columnFor_179 ?_
          refine lv_bipush (v := (nI 6)) hx hb dX6_columnFor_182 (by decide) ?_
          refine n_icmp_ne (a := (nL S)) (b := 6) (tgt := 191) hx hb (by omega) (by decide) dX6_columnFor_184 (by decide) (fun c184 => ?_) (fun c184 => ?_)
          · refine lv_iconst (v := (nI 0)) hx hb dX6_columnFor_191 (by decide) ?_
            refine lv_istore (lv' := [(5, .int (nI 0)), (4, .int (nI 0)), (3, .int (nI 0)), (2, .int (-9)), (0, .ref (a 0)), (1, .int (nI x))]) hx hb dX6_columnFor_192 hl (by decide) rfl (fun ls hl => ?_)
            refine lv_iload hx hb dX6_columnFor_194 (lv_at hl 0 rfl) ?_
            refine n_if_eq (a := 0) (tgt := 211) hx hb (by decide) dX6_columnFor_196 (by decide) (fun c196 => ?_) (fun c196 => absurd c196 (by decide))
            refine lv_aload_n hx hb dX6_columnFor_211 rfl (lv_at hl 4 rfl) ?_
            refine va_get (D := G) (ci := 6) (v := .int (nI (nL S))) (C := RX6) (T := TX6) (N := 25) hx hb hts hin6 hown hK hP 0 rfl rfl 16 (by decide) (hts (Cond.fieldLink RX6 92 "IndentRulesModel" "last" "I") (List.mem_of_getElem? (i := 5) rfl)) (fun _ h9 => h9) rfl dX6_columnFor_212 ?_
            refine lv_bipush (v := (nI 7)) hx hb dX6_columnFor_215 (by decide) ?_
            refine n_icmp_ne (a := (nL S)) (b := 7) (tgt := 232) hx hb (by omega) (by decide) dX6_columnFor_217 (by decide) (fun c217 => ?_) (fun c217 => ?_)
            · refine lv_iload hx hb dX6_columnFor_232 (lv_at hl 1 rfl) ?_
              exact W.iret (v := (nI 0)) hx hb hr (fun tZ htZ hWZ => ⟨_, rfl, by rw [htop, cvt_0]; simp [gO, add_n0, c8, c29, c33, c67, c140, c167, c175, c184, c196, c217], htZ⟩) (fun _ h => by cases h) dX6_columnFor_234
            · refine lv_iload hx hb dX6_columnFor_220 (lv_at hl 1 rfl) ?_
              refine lv_aload_n hx hb dX6_columnFor_222 rfl (lv_at hl 4 rfl) ?_
              refine va_get (D := G) (ci := 6) (v := .ref (a 17)) (C := RX6) (T := TX6) (N := 25) hx hb hts hin6 hown hK hP 0 rfl rfl 17 (by decide) (hts (Cond.fieldLink RX6 49 "IndentRulesModel" "by" "[I") (List.mem_of_getElem? (i := 3) rfl)) (fun _ h9 => h9) rfl dX6_columnFor_223 ?_
              refine lv_iconst (v := (nI 0)) hx hb dX6_columnFor_226 (by decide) ?_
              refine k_iald (D := G) (tys := TYS E) (j := 0) (f := bys) (n := 4) hx hb hK hP 14 0 rfl rfl (by decide) (by decide) dX6_columnFor_227 ?_
              refine lv_iadd hx hb dX6_columnFor_228 ?_
              refine lv_topi (fun v228 ev228 => ?_)
              refine lv_goto (tgt := 234) hx hb dX6_columnFor_229 (by decide) ?_
              exact W.iret (v := v228) hx hb hr (fun tZ htZ hWZ => ⟨_, rfl, by rw [htop, cvt_0]; simp [gO, add_n0, c8, c29, c33, c67, c140, c167, c175, c184, c196, c217, ev228], htZ⟩) (fun _ h => by cases h) dX6_columnFor_234
          · refine lv_iconst (v := (nI 1)) hx hb dX6_columnFor_187 (by decide) ?_
            refine lv_goto (tgt := 192) hx hb dX6_columnFor_188 (by decide) ?_
            refine lv_istore (lv' := [(5, .int (nI 1)), (4, .int (nI 0)), (3, .int (nI 0)), (2, .int (-9)), (0, .ref (a 0)), (1, .int (nI x))]) hx hb dX6_columnFor_192 hl (by decide) rfl (fun ls hl => ?_)
            refine lv_iload hx hb dX6_columnFor_194 (lv_at hl 0 rfl) ?_
            refine n_if_eq (a := 1) (tgt := 211) hx hb (by decide) dX6_columnFor_196 (by decide) (fun c196 => absurd c196 (by decide)) (fun c196 => ?_)
            refine lv_iload hx hb dX6_columnFor_199 (lv_at hl 1 rfl) ?_
            refine lv_aload_n hx hb dX6_columnFor_201 rfl (lv_at hl 4 rfl) ?_
            refine va_get (D := G) (ci := 6) (v := .ref (a 17)) (C := RX6) (T := TX6) (N := 25) hx hb hts hin6 hown hK hP 0 rfl rfl 17 (by decide) (hts (Cond.fieldLink RX6 49 "IndentRulesModel" "by" "[I") (List.mem_of_getElem? (i := 3) rfl)) (fun _ h9 => h9) rfl dX6_columnFor_202 ?_
            refine lv_iconst (v := (nI 1)) hx hb dX6_columnFor_205 (by decide) ?_
            refine k_iald (D := G) (tys := TYS E) (j := 1) (f := bys) (n := 4) hx hb hK hP 14 0 rfl rfl (by decide) (by decide) dX6_columnFor_206 ?_
            refine lv_iadd hx hb dX6_columnFor_207 ?_
            refine lv_topi (fun v207 ev207 => ?_)
            refine lv_goto (tgt := 234) hx hb dX6_columnFor_208 (by decide) ?_
            exact W.iret (v := v207) hx hb hr (fun tZ htZ hWZ => ⟨_, rfl, by rw [htop, cvt_0]; simp [gO, add_n0, c8, c29, c33, c67, c140, c167, c175, c184, c196, ev207], htZ⟩) (fun _ h => by cases h) dX6_columnFor_234
  · obtain ⟨c0, hc0⟩ : ∃ z, z = nF S 6 (nD S - 1) := ⟨_, rfl⟩
    have hst : stk (nD S - 1) = nI c0 := by rw [hRR.2.2 (nD S - 1) (by omega), hc0]
    have hclt : c0 < nO S := by rw [hc0]; exact hwf.2.2.1 _ (by omega)
    have hop : nO S ≤ 180 := Nat.le_trans hwf.2.1 hbb
    obtain ⟨q1, q2, q3, q4, q5, q6⟩ := hRR.1 c0 hclt
    have hso := (hwf.2.2.2.1 c0 hclt).2
    have htop : topN S = c0 + 1 := by unfold topN; rw [if_neg (by omega), hc0]
    rw [hst]
    refine lv_istore_n (lv' := [(2, .int (nI c0)), (0, .ref (a 0)), (1, .int (nI x))]) hx hb dX6_columnFor_4 rfl hl (by decide) rfl (fun ls hl => ?_)
    refine lv_iload_n hx hb dX6_columnFor_5 rfl (lv_at hl 0 rfl) ?_
    refine lv_bipush (v := (-9)) hx hb dX6_columnFor_6 (by decide) ?_
    refine lv_icmp_eq (x := (nI c0)) (y := (-9)) (tgt := 25) hx hb dX6_columnFor_8 (by decide) (fun c8 => absurd c8 (k_nneg (by decide) (by omega))) (fun c8 => ?_)
    refine lv_aload_n hx hb dX6_columnFor_11 rfl (lv_at hl 1 rfl) ?_
    refine va_get (D := G) (ci := 6) (v := .ref (a 9)) (C := RX6) (T := TX6) (N := 25) hx hb hts hin6 hown hK hP 0 rfl rfl 9 (by decide) (hts (Cond.fieldLink RX6 31 "IndentRulesModel" "kindOf" "[I") (List.mem_of_getElem? (i := 1) rfl)) (fun _ h9 => h9) rfl dX6_columnFor_12 ?_
    refine lv_iload_n hx hb dX6_columnFor_15 rfl (lv_at hl 0 rfl) ?_
    refine k_iald (D := G) (tys := TYS E) (j := c0) (f := kindO) (n := 180) hx hb hK hP 8 0 rfl rfl (by omega) (by decide) dX6_columnFor_16 ?_
    rw [q5]
    refine lv_iconst (v := (nI 1)) hx hb dX6_columnFor_17 (by decide) ?_
    refine n_icmp_ne (a := (kd (bys 2) (nF S) c0)) (b := 1) (tgt := 25) hx hb (Nat.lt_of_lt_of_le (kd_lt _ _ _) (by decide)) (by decide) dX6_columnFor_18 (by decide) (fun c18 => ?_) (fun c18 => ?_)
    · have hF : nF S 0 c0 = 4 := hso.resolve_left (fun q => c18 (kd_1.mpr q))
      refine lv_iconst (v := (nI 0)) hx hb dX6_columnFor_25 (by decide) ?_
      refine lv_istore_n (lv' := [(3, .int (nI 0)), (2, .int (nI c0)), (0, .ref (a 0)), (1, .int (nI x))]) hx hb dX6_columnFor_26 rfl hl (by decide) rfl (fun ls hl => ?_)
      refine lv_iload_n hx hb dX6_columnFor_27 rfl (lv_at hl 3 rfl) ?_
      refine lv_iconst (v := (nI 3)) hx hb dX6_columnFor_28 (by decide) ?_
      refine n_icmp_ne (a := x) (b := 3) (tgt := 64) hx hb (by omega) (by decide) dX6_columnFor_29 (by decide) (fun c29 => ?_) (fun c29 => ?_)
      · refine lv_iload_n hx hb dX6_columnFor_64 rfl (lv_at hl 1 rfl) ?_
        refine lv_bipush (v := (-9)) hx hb dX6_columnFor_65 (by decide) ?_
        refine lv_icmp_eq (x := (nI c0)) (y := (-9)) (tgt := 139) hx hb dX6_columnFor_67 (by decide) (fun c67 => absurd c67 (k_nneg (by decide) (by omega))) (fun c67 => ?_)
        refine lv_iload_n hx hb dX6_columnFor_70 rfl (lv_at hl 0 rfl) ?_
        refine n_if_ne (a := 0) (tgt := 139) hx hb (by decide) dX6_columnFor_71 (by decide) (fun c71 => absurd c71 (by decide)) (fun c71 => ?_)
        refine lv_iload_n hx hb dX6_columnFor_74 rfl (lv_at hl 3 rfl) ?_
        refine lv_iconst (v := (nI 5)) hx hb dX6_columnFor_75 (by decide) ?_
        refine n_icmp_ne (a := x) (b := 5) (tgt := 83) hx hb (by omega) (by decide) dX6_columnFor_76 (by decide) (fun c76 => ?_) (fun c76 => ?_)
        · refine lv_iconst (v := (nI 0)) hx hb dX6_columnFor_83 (by decide) ?_
          refine lv_istore (lv' := [(4, .int (nI 0)), (3, .int (nI 0)), (2, .int (nI c0)), (0, .ref (a 0)), (1, .int (nI x))]) hx hb dX6_columnFor_84 hl (by decide) rfl (fun ls hl => ?_)
          refine lv_aload_n hx hb dX6_columnFor_86 rfl (lv_at hl 3 rfl) ?_
          refine va_get (D := G) (ci := 6) (v := .ref (a 9)) (C := RX6) (T := TX6) (N := 25) hx hb hts hin6 hown hK hP 0 rfl rfl 9 (by decide) (hts (Cond.fieldLink RX6 31 "IndentRulesModel" "kindOf" "[I") (List.mem_of_getElem? (i := 1) rfl)) (fun _ h9 => h9) rfl dX6_columnFor_87 ?_
          refine lv_iload_n hx hb dX6_columnFor_90 rfl (lv_at hl 2 rfl) ?_
          refine k_iald (D := G) (tys := TYS E) (j := c0) (f := kindO) (n := 180) hx hb hK hP 8 0 rfl rfl (by omega) (by decide) dX6_columnFor_91 ?_
          rw [q5]
          refine lv_iconst (v := (nI 3)) hx hb dX6_columnFor_92 (by decide) ?_
          refine n_icmp_ne (a := (kd (bys 2) (nF S) c0)) (b := 3) (tgt := 116) hx hb (Nat.lt_of_lt_of_le (kd_lt _ _ _) (by decide)) (by decide) dX6_columnFor_93 (by decide) (fun c93 => ?_) (fun c93 => ?_)
          · have hAl : ¬ (bys 2 = nI 1 ∧ nF S 4 c0 = 1) := fun q => c93 ((kd_3 hF).mpr q)
            refine lv_aload_n hx hb dX6_columnFor_116 rfl (lv_at hl 3 rfl) ?_
            refine va_get (D := G) (ci := 6) (v := .ref (a 8)) (C := RX6) (T := TX6) (N := 25) hx hb hts hin6 hown hK hP 0 rfl rfl 8 (by decide) (hts (Cond.fieldLink RX6 28 "IndentRulesModel" "baseOf" "[I") (List.mem_of_getElem? (i := 2) rfl)) (fun _ h9 => h9) rfl dX6_columnFor_117 ?_
            refine lv_iload_n hx hb dX6_columnFor_120 rfl (lv_at hl 2 rfl) ?_
            refine k_iald (D := G) (tys := TYS E) (j := c0) (f := baseO) (n := 180) hx hb hK hP 7 0 rfl rfl (by omega) (by decide) dX6_columnFor_121 ?_
            rw [q4]
            refine lv_iload hx hb dX6_columnFor_122 (lv_at hl 0 rfl) ?_
            refine n_if_eq (a := 0) (tgt := 131) hx hb (by decide) dX6_columnFor_124 (by decide) (fun c124 => ?_) (fun c124 => absurd c124 (by decide))
            refine lv_aload_n hx hb dX6_columnFor_131 rfl (lv_at hl 3 rfl) ?_
            refine va_get (D := G) (ci := 6) (v := .ref (a 17)) (C := RX6) (T := TX6) (N := 25) hx hb hts hin6 hown hK hP 0 rfl rfl 17 (by decide) (hts (Cond.fieldLink RX6 49 "IndentRulesModel" "by" "[I") (List.mem_of_getElem? (i := 3) rfl)) (fun _ h9 => h9) rfl dX6_columnFor_132 ?_
            refine lv_iconst (v := (nI 1)) hx hb dX6_columnFor_135 (by decide) ?_
            refine k_iald (D := G) (tys := TYS E) (j := 1) (f := bys) (n := 4) hx hb hK hP 14 0 rfl rfl (by decide) (by decide) dX6_columnFor_136 ?_
            refine lv_iadd hx hb dX6_columnFor_137 ?_
            refine lv_topi (fun v137 ev137 => ?_)
            exact W.iret (v := v137) hx hb hr (fun tZ htZ hWZ => ⟨_, rfl, by first | (exfalso; omega) | (rw [htop, cvt_s]; simp [cvB, gO, add_n0, hF, hAl, c8, c18, c29, c67, c71, c76, c93, c124, ev137]), htZ⟩) (fun _ h => by cases h) dX6_columnFor_138
          · have hAl : bys 2 = nI 1 ∧ nF S 4 c0 = 1 := (kd_3 hF).mp c93
            refine lv_aload_n hx hb dX6_columnFor_96 rfl (lv_at hl 3 rfl) ?_
            refine va_get (D := G) (ci := 6) (v := .ref (a 7)) (C := RX6) (T := TX6) (N := 25) hx hb hts hin6 hown hK hP 0 rfl rfl 7 (by decide) (hts (Cond.fieldLink RX6 25 "IndentRulesModel" "atOf" "[I") (List.mem_of_getElem? (i := 4) rfl)) (fun _ h9 => h9) rfl dX6_columnFor_97 ?_
            refine lv_iload_n hx hb dX6_columnFor_100 rfl (lv_at hl 2 rfl) ?_
            refine k_iald (D := G) (tys := TYS E) (j := c0) (f := atO) (n := 180) hx hb hK hP 6 0 rfl rfl (by omega) (by decide) dX6_columnFor_101 ?_
            rw [q3]
            refine lv_iload hx hb dX6_columnFor_102 (lv_at hl 0 rfl) ?_
            refine n_if_eq (a := 0) (tgt := 111) hx hb (by decide) dX6_columnFor_104 (by decide) (fun c104 => ?_) (fun c104 => absurd c104 (by decide))
            refine lv_iconst (v := (nI 1)) hx hb dX6_columnFor_111 (by decide) ?_
            refine lv_iadd hx hb dX6_columnFor_112 ?_
            refine lv_topi (fun v112 ev112 => ?_)
            refine lv_goto (tgt := 138) hx hb dX6_columnFor_113 (by decide) ?_
            exact W.iret (v := v112) hx hb hr (fun tZ htZ hWZ => ⟨_, rfl, by first | (exfalso; omega) | (rw [htop, cvt_s]; simp [cvB, gO, add_n0, hF, hAl, c8, c18, c29, c67, c71, c76, c93, c104, ev112]), htZ⟩) (fun _ h => by cases h) dX6_columnFor_138
        · refine lv_iconst (v := (nI 1)) hx hb dX6_columnFor_79 (by decide) ?_
          refine lv_goto (tgt := 84) hx hb dX6_columnFor_80 (by decide) ?_
          refine lv_istore (lv' := [(4, .int (nI 1)), (3, .int (nI 0)), (2, .int (nI c0)), (0, .ref (a 0)), (1, .int (nI x))]) hx hb dX6_columnFor_84 hl (by decide) rfl (fun ls hl => ?_)
          refine lv_aload_n hx hb dX6_columnFor_86 rfl (lv_at hl 3 rfl) ?_
          refine va_get (D := G) (ci := 6) (v := .ref (a 9)) (C := RX6) (T := TX6) (N := 25) hx hb hts hin6 hown hK hP 0 rfl rfl 9 (by decide) (hts (Cond.fieldLink RX6 31 "IndentRulesModel" "kindOf" "[I") (List.mem_of_getElem? (i := 1) rfl)) (fun _ h9 => h9) rfl dX6_columnFor_87 ?_
          refine lv_iload_n hx hb dX6_columnFor_90 rfl (lv_at hl 2 rfl) ?_
          refine k_iald (D := G) (tys := TYS E) (j := c0) (f := kindO) (n := 180) hx hb hK hP 8 0 rfl rfl (by omega) (by decide) dX6_columnFor_91 ?_
          rw [q5]
          refine lv_iconst (v := (nI 3)) hx hb dX6_columnFor_92 (by decide) ?_
          refine n_icmp_ne (a := (kd (bys 2) (nF S) c0)) (b := 3) (tgt := 116) hx hb (Nat.lt_of_lt_of_le (kd_lt _ _ _) (by decide)) (by decide) dX6_columnFor_93 (by decide) (fun c93 => ?_) (fun c93 => ?_)
          · have hAl : ¬ (bys 2 = nI 1 ∧ nF S 4 c0 = 1) := fun q => c93 ((kd_3 hF).mpr q)
            refine lv_aload_n hx hb dX6_columnFor_116 rfl (lv_at hl 3 rfl) ?_
            refine va_get (D := G) (ci := 6) (v := .ref (a 8)) (C := RX6) (T := TX6) (N := 25) hx hb hts hin6 hown hK hP 0 rfl rfl 8 (by decide) (hts (Cond.fieldLink RX6 28 "IndentRulesModel" "baseOf" "[I") (List.mem_of_getElem? (i := 2) rfl)) (fun _ h9 => h9) rfl dX6_columnFor_117 ?_
            refine lv_iload_n hx hb dX6_columnFor_120 rfl (lv_at hl 2 rfl) ?_
            refine k_iald (D := G) (tys := TYS E) (j := c0) (f := baseO) (n := 180) hx hb hK hP 7 0 rfl rfl (by omega) (by decide) dX6_columnFor_121 ?_
            rw [q4]
            refine lv_iload hx hb dX6_columnFor_122 (lv_at hl 0 rfl) ?_
            refine n_if_eq (a := 1) (tgt := 131) hx hb (by decide) dX6_columnFor_124 (by decide) (fun c124 => absurd c124 (by decide)) (fun c124 => ?_)
            refine lv_iconst (v := (nI 0)) hx hb dX6_columnFor_127 (by decide) ?_
            refine lv_goto (tgt := 137) hx hb dX6_columnFor_128 (by decide) ?_
            refine lv_iadd hx hb dX6_columnFor_137 ?_
            refine lv_topi (fun v137 ev137 => ?_)
            exact W.iret (v := v137) hx hb hr (fun tZ htZ hWZ => ⟨_, rfl, by first | (exfalso; omega) | (rw [htop, cvt_s]; simp [cvB, gO, add_n0, hF, hAl, c8, c18, c29, c67, c71, c76, c93, c124, ev137]), htZ⟩) (fun _ h => by cases h) dX6_columnFor_138
          · have hAl : bys 2 = nI 1 ∧ nF S 4 c0 = 1 := (kd_3 hF).mp c93
            refine lv_aload_n hx hb dX6_columnFor_96 rfl (lv_at hl 3 rfl) ?_
            refine va_get (D := G) (ci := 6) (v := .ref (a 7)) (C := RX6) (T := TX6) (N := 25) hx hb hts hin6 hown hK hP 0 rfl rfl 7 (by decide) (hts (Cond.fieldLink RX6 25 "IndentRulesModel" "atOf" "[I") (List.mem_of_getElem? (i := 4) rfl)) (fun _ h9 => h9) rfl dX6_columnFor_97 ?_
            refine lv_iload_n hx hb dX6_columnFor_100 rfl (lv_at hl 2 rfl) ?_
            refine k_iald (D := G) (tys := TYS E) (j := c0) (f := atO) (n := 180) hx hb hK hP 6 0 rfl rfl (by omega) (by decide) dX6_columnFor_101 ?_
            rw [q3]
            refine lv_iload hx hb dX6_columnFor_102 (lv_at hl 0 rfl) ?_
            refine n_if_eq (a := 1) (tgt := 111) hx hb (by decide) dX6_columnFor_104 (by decide) (fun c104 => absurd c104 (by decide)) (fun c104 => ?_)
            refine lv_iconst (v := (nI 0)) hx hb dX6_columnFor_107 (by decide) ?_
            refine lv_goto (tgt := 112) hx hb dX6_columnFor_108 (by decide) ?_
            refine lv_iadd hx hb dX6_columnFor_112 ?_
            refine lv_topi (fun v112 ev112 => ?_)
            refine lv_goto (tgt := 138) hx hb dX6_columnFor_113 (by decide) ?_
            exact W.iret (v := v112) hx hb hr (fun tZ htZ hWZ => ⟨_, rfl, by first | (exfalso; omega) | (rw [htop, cvt_s]; simp [cvB, gO, add_n0, hF, hAl, c8, c18, c29, c67, c71, c76, c93, c104, ev112]), htZ⟩) (fun _ h => by cases h) dX6_columnFor_138
      · refine lv_iload_n hx hb dX6_columnFor_32 rfl (lv_at hl 0 rfl) ?_
        refine n_if_eq (a := 0) (tgt := 64) hx hb (by decide) dX6_columnFor_33 (by decide) (fun c33 => ?_) (fun c33 => absurd c33 (by decide))
        refine lv_iload_n hx hb dX6_columnFor_64 rfl (lv_at hl 1 rfl) ?_
        refine lv_bipush (v := (-9)) hx hb dX6_columnFor_65 (by decide) ?_
        refine lv_icmp_eq (x := (nI c0)) (y := (-9)) (tgt := 139) hx hb dX6_columnFor_67 (by decide) (fun c67 => absurd c67 (k_nneg (by decide) (by omega))) (fun c67 => ?_)
        refine lv_iload_n hx hb dX6_columnFor_70 rfl (lv_at hl 0 rfl) ?_
        refine n_if_ne (a := 0) (tgt := 139) hx hb (by decide) dX6_columnFor_71 (by decide) (fun c71 => absurd c71 (by decide)) (fun c71 => ?_)
        refine lv_iload_n hx hb dX6_columnFor_74 rfl (lv_at hl 3 rfl) ?_
        refine lv_iconst (v := (nI 5)) hx hb dX6_columnFor_75 (by decide) ?_
        refine n_icmp_ne (a := x) (b := 5) (tgt := 83) hx hb (by omega) (by decide) dX6_columnFor_76 (by decide) (fun c76 => ?_) (fun c76 => ?_)
        · refine lv_iconst (v := (nI 0)) hx hb dX6_columnFor_83 (by decide) ?_
          refine lv_istore (lv' := [(4, .int (nI 0)), (3, .int (nI 0)), (2, .int (nI c0)), (0, .ref (a 0)), (1, .int (nI x))]) hx hb dX6_columnFor_84 hl (by decide) rfl (fun ls hl => ?_)
          refine lv_aload_n hx hb dX6_columnFor_86 rfl (lv_at hl 3 rfl) ?_
          refine va_get (D := G) (ci := 6) (v := .ref (a 9)) (C := RX6) (T := TX6) (N := 25) hx hb hts hin6 hown hK hP 0 rfl rfl 9 (by decide) (hts (Cond.fieldLink RX6 31 "IndentRulesModel" "kindOf" "[I") (List.mem_of_getElem? (i := 1) rfl)) (fun _ h9 => h9) rfl dX6_columnFor_87 ?_
          refine lv_iload_n hx hb dX6_columnFor_90 rfl (lv_at hl 2 rfl) ?_
          refine k_iald (D := G) (tys := TYS E) (j := c0) (f := kindO) (n := 180) hx hb hK hP 8 0 rfl rfl (by omega) (by decide) dX6_columnFor_91 ?_
          rw [q5]
          refine lv_iconst (v := (nI 3)) hx hb dX6_columnFor_92 (by decide) ?_
          refine n_icmp_ne (a := (kd (bys 2) (nF S) c0)) (b := 3) (tgt := 116) hx hb (Nat.lt_of_lt_of_le (kd_lt _ _ _) (by decide)) (by decide) dX6_columnFor_93 (by decide) (fun c93 => ?_) (fun c93 => ?_)
          · have hAl : ¬ (bys 2 = nI 1 ∧ nF S 4 c0 = 1) := fun q => c93 ((kd_3 hF).mpr q)
            refine lv_aload_n hx hb dX6_columnFor_116 rfl (lv_at hl 3 rfl) ?_
            refine va_get (D := G) (ci := 6) (v := .ref (a 8)) (C := RX6) (T := TX6) (N := 25) hx hb hts hin6 hown hK hP 0 rfl rfl 8 (by decide) (hts (Cond.fieldLink RX6 28 "IndentRulesModel" "baseOf" "[I") (List.mem_of_getElem? (i := 2) rfl)) (fun _ h9 => h9) rfl dX6_columnFor_117 ?_
            refine lv_iload_n hx hb dX6_columnFor_120 rfl (lv_at hl 2 rfl) ?_
            refine k_iald (D := G) (tys := TYS E) (j := c0) (f := baseO) (n := 180) hx hb hK hP 7 0 rfl rfl (by omega) (by decide) dX6_columnFor_121 ?_
            rw [q4]
            refine lv_iload hx hb dX6_columnFor_122 (lv_at hl 0 rfl) ?_
            refine n_if_eq (a := 0) (tgt := 131) hx hb (by decide) dX6_columnFor_124 (by decide) (fun c124 => ?_) (fun c124 => absurd c124 (by decide))
            refine lv_aload_n hx hb dX6_columnFor_131 rfl (lv_at hl 3 rfl) ?_
            refine va_get (D := G) (ci := 6) (v := .ref (a 17)) (C := RX6) (T := TX6) (N := 25) hx hb hts hin6 hown hK hP 0 rfl rfl 17 (by decide) (hts (Cond.fieldLink RX6 49 "IndentRulesModel" "by" "[I") (List.mem_of_getElem? (i := 3) rfl)) (fun _ h9 => h9) rfl dX6_columnFor_132 ?_
            refine lv_iconst (v := (nI 1)) hx hb dX6_columnFor_135 (by decide) ?_
            refine k_iald (D := G) (tys := TYS E) (j := 1) (f := bys) (n := 4) hx hb hK hP 14 0 rfl rfl (by decide) (by decide) dX6_columnFor_136 ?_
            refine lv_iadd hx hb dX6_columnFor_137 ?_
            refine lv_topi (fun v137 ev137 => ?_)
            exact W.iret (v := v137) hx hb hr (fun tZ htZ hWZ => ⟨_, rfl, by first | (exfalso; omega) | (rw [htop, cvt_s]; simp [cvB, gO, add_n0, hF, hAl, c8, c18, c29, c33, c67, c71, c76, c93, c124, ev137]), htZ⟩) (fun _ h => by cases h) dX6_columnFor_138
          · have hAl : bys 2 = nI 1 ∧ nF S 4 c0 = 1 := (kd_3 hF).mp c93
            refine lv_aload_n hx hb dX6_columnFor_96 rfl (lv_at hl 3 rfl) ?_
            refine va_get (D := G) (ci := 6) (v := .ref (a 7)) (C := RX6) (T := TX6) (N := 25) hx hb hts hin6 hown hK hP 0 rfl rfl 7 (by decide) (hts (Cond.fieldLink RX6 25 "IndentRulesModel" "atOf" "[I") (List.mem_of_getElem? (i := 4) rfl)) (fun _ h9 => h9) rfl dX6_columnFor_97 ?_
            refine lv_iload_n hx hb dX6_columnFor_100 rfl (lv_at hl 2 rfl) ?_
            refine k_iald (D := G) (tys := TYS E) (j := c0) (f := atO) (n := 180) hx hb hK hP 6 0 rfl rfl (by omega) (by decide) dX6_columnFor_101 ?_
            rw [q3]
            refine lv_iload hx hb dX6_columnFor_102 (lv_at hl 0 rfl) ?_
            refine n_if_eq (a := 0) (tgt := 111) hx hb (by decide) dX6_columnFor_104 (by decide) (fun c104 => ?_) (fun c104 => absurd c104 (by decide))
            refine lv_iconst (v := (nI 1)) hx hb dX6_columnFor_111 (by decide) ?_
            refine lv_iadd hx hb dX6_columnFor_112 ?_
            refine lv_topi (fun v112 ev112 => ?_)
            refine lv_goto (tgt := 138) hx hb dX6_columnFor_113 (by decide) ?_
            exact W.iret (v := v112) hx hb hr (fun tZ htZ hWZ => ⟨_, rfl, by first | (exfalso; omega) | (rw [htop, cvt_s]; simp [cvB, gO, add_n0, hF, hAl, c8, c18, c29, c33, c67, c71, c76, c93, c104, ev112]), htZ⟩) (fun _ h => by cases h) dX6_columnFor_138
        · refine lv_iconst (v := (nI 1)) hx hb dX6_columnFor_79 (by decide) ?_
          refine lv_goto (tgt := 84) hx hb dX6_columnFor_80 (by decide) ?_
          refine lv_istore (lv' := [(4, .int (nI 1)), (3, .int (nI 0)), (2, .int (nI c0)), (0, .ref (a 0)), (1, .int (nI x))]) hx hb dX6_columnFor_84 hl (by decide) rfl (fun ls hl => ?_)
          refine lv_aload_n hx hb dX6_columnFor_86 rfl (lv_at hl 3 rfl) ?_
          refine va_get (D := G) (ci := 6) (v := .ref (a 9)) (C := RX6) (T := TX6) (N := 25) hx hb hts hin6 hown hK hP 0 rfl rfl 9 (by decide) (hts (Cond.fieldLink RX6 31 "IndentRulesModel" "kindOf" "[I") (List.mem_of_getElem? (i := 1) rfl)) (fun _ h9 => h9) rfl dX6_columnFor_87 ?_
          refine lv_iload_n hx hb dX6_columnFor_90 rfl (lv_at hl 2 rfl) ?_
          refine k_iald (D := G) (tys := TYS E) (j := c0) (f := kindO) (n := 180) hx hb hK hP 8 0 rfl rfl (by omega) (by decide) dX6_columnFor_91 ?_
          rw [q5]
          refine lv_iconst (v := (nI 3)) hx hb dX6_columnFor_92 (by decide) ?_
          refine n_icmp_ne (a := (kd (bys 2) (nF S) c0)) (b := 3) (tgt := 116) hx hb (Nat.lt_of_lt_of_le (kd_lt _ _ _) (by decide)) (by decide) dX6_columnFor_93 (by decide) (fun c93 => ?_) (fun c93 => ?_)
          · have hAl : ¬ (bys 2 = nI 1 ∧ nF S 4 c0 = 1) := fun q => c93 ((kd_3 hF).mpr q)
            refine lv_aload_n hx hb dX6_columnFor_116 rfl (lv_at hl 3 rfl) ?_
            refine va_get (D := G) (ci := 6) (v := .ref (a 8)) (C := RX6) (T := TX6) (N := 25) hx hb hts hin6 hown hK hP 0 rfl rfl 8 (by decide) (hts (Cond.fieldLink RX6 28 "IndentRulesModel" "baseOf" "[I") (List.mem_of_getElem? (i := 2) rfl)) (fun _ h9 => h9) rfl dX6_columnFor_117 ?_
            refine lv_iload_n hx hb dX6_columnFor_120 rfl (lv_at hl 2 rfl) ?_
            refine k_iald (D := G) (tys := TYS E) (j := c0) (f := baseO) (n := 180) hx hb hK hP 7 0 rfl rfl (by omega) (by decide) dX6_columnFor_121 ?_
            rw [q4]
            refine lv_iload hx hb dX6_columnFor_122 (lv_at hl 0 rfl) ?_
            refine n_if_eq (a := 1) (tgt := 131) hx hb (by decide) dX6_columnFor_124 (by decide) (fun c124 => absurd c124 (by decide)) (fun c124 => ?_)
            refine lv_iconst (v := (nI 0)) hx hb dX6_columnFor_127 (by decide) ?_
            refine lv_goto (tgt := 137) hx hb dX6_columnFor_128 (by decide) ?_
            refine lv_iadd hx hb dX6_columnFor_137 ?_
            refine lv_topi (fun v137 ev137 => ?_)
            exact W.iret (v := v137) hx hb hr (fun tZ htZ hWZ => ⟨_, rfl, by first | (exfalso; omega) | (rw [htop, cvt_s]; simp [cvB, gO, add_n0, hF, hAl, c8, c18, c29, c33, c67, c71, c76, c93, c124, ev137]), htZ⟩) (fun _ h => by cases h) dX6_columnFor_138
          · have hAl : bys 2 = nI 1 ∧ nF S 4 c0 = 1 := (kd_3 hF).mp c93
            refine lv_aload_n hx hb dX6_columnFor_96 rfl (lv_at hl 3 rfl) ?_
            refine va_get (D := G) (ci := 6) (v := .ref (a 7)) (C := RX6) (T := TX6) (N := 25) hx hb hts hin6 hown hK hP 0 rfl rfl 7 (by decide) (hts (Cond.fieldLink RX6 25 "IndentRulesModel" "atOf" "[I") (List.mem_of_getElem? (i := 4) rfl)) (fun _ h9 => h9) rfl dX6_columnFor_97 ?_
            refine lv_iload_n hx hb dX6_columnFor_100 rfl (lv_at hl 2 rfl) ?_
            refine k_iald (D := G) (tys := TYS E) (j := c0) (f := atO) (n := 180) hx hb hK hP 6 0 rfl rfl (by omega) (by decide) dX6_columnFor_101 ?_
            rw [q3]
            refine lv_iload hx hb dX6_columnFor_102 (lv_at hl 0 rfl) ?_
            refine n_if_eq (a := 1) (tgt := 111) hx hb (by decide) dX6_columnFor_104 (by decide) (fun c104 => absurd c104 (by decide)) (fun c104 => ?_)
            refine lv_iconst (v := (nI 0)) hx hb dX6_columnFor_107 (by decide) ?_
            refine lv_goto (tgt := 112) hx hb dX6_columnFor_108 (by decide) ?_
            refine lv_iadd hx hb dX6_columnFor_112 ?_
            refine lv_topi (fun v112 ev112 => ?_)
            refine lv_goto (tgt := 138) hx hb dX6_columnFor_113 (by decide) ?_
            exact W.iret (v := v112) hx hb hr (fun tZ htZ hWZ => ⟨_, rfl, by first | (exfalso; omega) | (rw [htop, cvt_s]; simp [cvB, gO, add_n0, hF, hAl, c8, c18, c29, c33, c67, c71, c76, c93, c104, ev112]), htZ⟩) (fun _ h => by cases h) dX6_columnFor_138
    · have hF : nF S 0 c0 = 2 := kd_1.mp c18
      refine lv_iconst (v := (nI 1)) hx hb dX6_columnFor_21 (by decide) ?_
      refine lv_goto (tgt := 26) hx hb dX6_columnFor_22 (by decide) ?_
      refine lv_istore_n (lv' := [(3, .int (nI 1)), (2, .int (nI c0)), (0, .ref (a 0)), (1, .int (nI x))]) hx hb dX6_columnFor_26 rfl hl (by decide) rfl (fun ls hl => ?_)
      refine lv_iload_n hx hb dX6_columnFor_27 rfl (lv_at hl 3 rfl) ?_
      refine lv_iconst (v := (nI 3)) hx hb dX6_columnFor_28 (by decide) ?_
      refine n_icmp_ne (a := x) (b := 3) (tgt := 64) hx hb (by omega) (by decide) dX6_columnFor_29 (by decide) (fun c29 => ?_) (fun c29 => ?_)
      · refine lv_iload_n hx hb dX6_columnFor_64 rfl (lv_at hl 1 rfl) ?_
        refine lv_bipush (v := (-9)) hx hb dX6_columnFor_65 (by decide) ?_
        refine lv_icmp_eq (x := (nI c0)) (y := (-9)) (tgt := 139) hx hb dX6_columnFor_67 (by decide) (fun c67 => absurd c67 (k_nneg (by decide) (by omega))) (fun c67 => ?_)
        refine lv_iload_n hx hb dX6_columnFor_70 rfl (lv_at hl 0 rfl) ?_
        refine n_if_ne (a := 1) (tgt := 139) hx hb (by decide) dX6_columnFor_71 (by decide) (fun c71 => ?_) (fun c71 => absurd c71 (by decide))
        refine lv_iload_n hx hb dX6_columnFor_139 rfl (lv_at hl 0 rfl) ?_
        refine n_if_eq (a := 1) (tgt := 159) hx hb (by decide) dX6_columnFor_140 (by decide) (fun c140 => absurd c140 (by decide)) (fun c140 => ?_)
        refine lv_aload_n hx hb dX6_columnFor_143 rfl (lv_at hl 2 rfl) ?_
        refine va_get (D := G) (ci := 6) (v := .ref (a 8)) (C := RX6) (T := TX6) (N := 25) hx hb hts hin6 hown hK hP 0 rfl rfl 8 (by decide) (hts (Cond.fieldLink RX6 28 "IndentRulesModel" "baseOf" "[I") (List.mem_of_getElem? (i := 2) rfl)) (fun _ h9 => h9) rfl dX6_columnFor_144 ?_
        refine lv_iload_n hx hb dX6_columnFor_147 rfl (lv_at hl 1 rfl) ?_
        refine k_iald (D := G) (tys := TYS E) (j := c0) (f := baseO) (n := 180) hx hb hK hP 7 0 rfl rfl (by omega) (by decide) dX6_columnFor_148 ?_
        rw [q4]
        refine lv_aload_n hx hb dX6_columnFor_149 rfl (lv_at hl 2 rfl) ?_
        refine va_get (D := G) (ci := 6) (v := .ref (a 17)) (C := RX6) (T := TX6) (N := 25) hx hb hts hin6 hown hK hP 0 rfl rfl 17 (by decide) (hts (Cond.fieldLink RX6 49 "IndentRulesModel" "by" "[I") (List.mem_of_getElem? (i := 3) rfl)) (fun _ h9 => h9) rfl dX6_columnFor_150 ?_
        refine lv_iconst (v := (nI 0)) hx hb dX6_columnFor_153 (by decide) ?_
        refine k_iald (D := G) (tys := TYS E) (j := 0) (f := bys) (n := 4) hx hb hK hP 14 0 rfl rfl (by decide) (by decide) dX6_columnFor_154 ?_
        refine lv_iadd hx hb dX6_columnFor_155 ?_
        refine lv_topi (fun v155 ev155 => ?_)
        refine lv_goto (tgt := 160) hx hb dX6_columnFor_156 (by decide) ?_
        refine lv_istore (lv' := [(4, .int v155), (3, .int (nI 1)), (2, .int (nI c0)), (0, .ref (a 0)), (1, .int (nI x))]) hx hb dX6_columnFor_160 hl (by decide) rfl (fun ls hl => ?_)
        refine lv_aload_n hx hb dX6_columnFor_162 rfl (lv_at hl 3 rfl) ?_
        refine va_get (D := G) (ci := 6) (v := .int (nI (nL S))) (C := RX6) (T := TX6) (N := 25) hx hb hts hin6 hown hK hP 0 rfl rfl 16 (by decide) (hts (Cond.fieldLink RX6 92 "IndentRulesModel" "last" "I") (List.mem_of_getElem? (i := 5) rfl)) (fun _ h9 => h9) rfl dX6_columnFor_163 ?_
        refine lv_iconst (v := (nI 1)) hx hb dX6_columnFor_166 (by decide) ?_
        refine n_icmp_eq (a := (nL S)) (b := 1) (tgt := 187) hx hb (by omega) (by decide) dX6_columnFor_167 (by decide) (fun c167 => ?_) (fun c167 => ?_)
        · refine lv_iconst (v := (nI 1)) hx hb dX6_columnFor_187 (by decide) ?_
          refine lv_goto (tgt := 192) hx hb dX6_columnFor_188 (by decide) ?_
          refine lv_istore (lv' := [(5, .int (nI 1)), (4, .int v155), (3, .int (nI 1)), (2, .int (nI c0)), (0, .ref (a 0)), (1, .int (nI x))]) hx hb dX6_columnFor_192 hl (by decide) rfl (fun ls hl => ?_)
          refine lv_iload hx hb dX6_columnFor_194 (lv_at hl 0 rfl) ?_
          refine n_if_eq (a := 1) (tgt := 211) hx hb (by decide) dX6_columnFor_196 (by decide) (fun c196 => absurd c196 (by decide)) (fun c196 => ?_)
          refine lv_iload hx hb dX6_columnFor_199 (lv_at hl 1 rfl) ?_
          refine lv_aload_n hx hb dX6_columnFor_201 rfl (lv_at hl 4 rfl) ?_
          refine va_get (D := G) (ci := 6) (v := .ref (a 17)) (C := RX6) (T := TX6) (N := 25) hx hb hts hin6 hown hK hP 0 rfl rfl 17 (by decide) (hts (Cond.fieldLink RX6 49 "IndentRulesModel" "by" "[I") (List.mem_of_getElem? (i := 3) rfl)) (fun _ h9 => h9) rfl dX6_columnFor_202 ?_
          refine lv_iconst (v := (nI 1)) hx hb dX6_columnFor_205 (by decide) ?_
          refine k_iald (D := G) (tys := TYS E) (j := 1) (f := bys) (n := 4) hx hb hK hP 14 0 rfl rfl (by decide) (by decide) dX6_columnFor_206 ?_
          refine lv_iadd hx hb dX6_columnFor_207 ?_
          refine lv_topi (fun v207 ev207 => ?_)
          refine lv_goto (tgt := 234) hx hb dX6_columnFor_208 (by decide) ?_
          exact W.iret (v := v207) hx hb hr (fun tZ htZ hWZ => ⟨_, rfl, by first | (exfalso; omega) | (rw [htop, cvt_s]; simp [cvB, gO, add_n0, hF, c8, c18, c29, c67, c71, c140, c167, c196, ev155, ev207]), htZ⟩) (fun _ h => by cases h) dX6_columnFor_234
        · refine lv_aload_n hx hb dX6_columnFor_170 rfl (lv_at hl 3 rfl) ?_
          refine va_get (D := G) (ci := 6) (v := .int (nI (nL S))) (C := RX6) (T := TX6) (N := 25) hx hb hts hin6 hown hK hP 0 rfl rfl 16 (by decide) (hts (Cond.fieldLink RX6 92 "IndentRulesModel" "last" "I") (List.mem_of_getElem? (i := 5) rfl)) (fun _ h9 => h9) rfl dX6_columnFor_171 ?_
          refine lv_iconst (v := (nI 5)) hx hb dX6_columnFor_174 (by decide) ?_
          refine n_icmp_eq (a := (nL S)) (b := 5) (tgt := 187) hx hb (by omega) (by decide) dX6_columnFor_175 (by decide) (fun c175 => ?_) (fun c175 => ?_)
          · refine lv_iconst (v := (nI 1)) hx hb dX6_columnFor_187 (by decide) ?_
            refine lv_goto (tgt := 192) hx hb dX6_columnFor_188 (by decide) ?_
            refine lv_istore (lv' := [(5, .int (nI 1)), (4, .int v155), (3, .int (nI 1)), (2, .int (nI c0)), (0, .ref (a 0)), (1, .int (nI x))]) hx hb dX6_columnFor_192 hl (by decide) rfl (fun ls hl => ?_)
            refine lv_iload hx hb dX6_columnFor_194 (lv_at hl 0 rfl) ?_
            refine n_if_eq (a := 1) (tgt := 211) hx hb (by decide) dX6_columnFor_196 (by decide) (fun c196 => absurd c196 (by decide)) (fun c196 => ?_)
            refine lv_iload hx hb dX6_columnFor_199 (lv_at hl 1 rfl) ?_
            refine lv_aload_n hx hb dX6_columnFor_201 rfl (lv_at hl 4 rfl) ?_
            refine va_get (D := G) (ci := 6) (v := .ref (a 17)) (C := RX6) (T := TX6) (N := 25) hx hb hts hin6 hown hK hP 0 rfl rfl 17 (by decide) (hts (Cond.fieldLink RX6 49 "IndentRulesModel" "by" "[I") (List.mem_of_getElem? (i := 3) rfl)) (fun _ h9 => h9) rfl dX6_columnFor_202 ?_
            refine lv_iconst (v := (nI 1)) hx hb dX6_columnFor_205 (by decide) ?_
            refine k_iald (D := G) (tys := TYS E) (j := 1) (f := bys) (n := 4) hx hb hK hP 14 0 rfl rfl (by decide) (by decide) dX6_columnFor_206 ?_
            refine lv_iadd hx hb dX6_columnFor_207 ?_
            refine lv_topi (fun v207 ev207 => ?_)
            refine lv_goto (tgt := 234) hx hb dX6_columnFor_208 (by decide) ?_
            exact W.iret (v := v207) hx hb hr (fun tZ htZ hWZ => ⟨_, rfl, by first | (exfalso; omega) | (rw [htop, cvt_s]; simp [cvB, gO, add_n0, hF, c8, c18, c29, c67, c71, c140, c167, c175, c196, ev155, ev207]), htZ⟩) (fun _ h => by cases h) dX6_columnFor_234
          · refine lv_aload_n hx hb dX6_columnFor_178 rfl (lv_at hl 3 rfl) ?_
            refine va_get (D := G) (ci := 6) (v := .int (nI (nL S))) (C := RX6) (T := TX6) (N := 25) hx hb hts hin6 hown hK hP 0 rfl rfl 16 (by decide) (hts (Cond.fieldLink RX6 92 "IndentRulesModel" "last" "I") (List.mem_of_getElem? (i := 5) rfl)) (fun _ h9 => h9) rfl dX6_columnFor_179 ?_
            refine lv_bipush (v := (nI 6)) hx hb dX6_columnFor_182 (by decide) ?_
            refine n_icmp_ne (a := (nL S)) (b := 6) (tgt := 191) hx hb (by omega) (by decide) dX6_columnFor_184 (by decide) (fun c184 => ?_) (fun c184 => ?_)
            · refine lv_iconst (v := (nI 0)) hx hb dX6_columnFor_191 (by decide) ?_
              refine lv_istore (lv' := [(5, .int (nI 0)), (4, .int v155), (3, .int (nI 1)), (2, .int (nI c0)), (0, .ref (a 0)), (1, .int (nI x))]) hx hb dX6_columnFor_192 hl (by decide) rfl (fun ls hl => ?_)
              refine lv_iload hx hb dX6_columnFor_194 (lv_at hl 0 rfl) ?_
              refine n_if_eq (a := 0) (tgt := 211) hx hb (by decide) dX6_columnFor_196 (by decide) (fun c196 => ?_) (fun c196 => absurd c196 (by decide))
              refine lv_aload_n hx hb dX6_columnFor_211 rfl (lv_at hl 4 rfl) ?_
              refine va_get (D := G) (ci := 6) (v := .int (nI (nL S))) (C := RX6) (T := TX6) (N := 25) hx hb hts hin6 hown hK hP 0 rfl rfl 16 (by decide) (hts (Cond.fieldLink RX6 92 "IndentRulesModel" "last" "I") (List.mem_of_getElem? (i := 5) rfl)) (fun _ h9 => h9) rfl dX6_columnFor_212 ?_
              refine lv_bipush (v := (nI 7)) hx hb dX6_columnFor_215 (by decide) ?_
              refine n_icmp_ne (a := (nL S)) (b := 7) (tgt := 232) hx hb (by omega) (by decide) dX6_columnFor_217 (by decide) (fun c217 => ?_) (fun c217 => ?_)
              · refine lv_iload hx hb dX6_columnFor_232 (lv_at hl 1 rfl) ?_
                exact W.iret (v := v155) hx hb hr (fun tZ htZ hWZ => ⟨_, rfl, by first | (exfalso; omega) | (rw [htop, cvt_s]; simp [cvB, gO, add_n0, hF, c8, c18, c29, c67, c71, c140, c167, c175, c184, c196, c217, ev155]), htZ⟩) (fun _ h => by cases h) dX6_columnFor_234
              · refine lv_iload hx hb dX6_columnFor_220 (lv_at hl 1 rfl) ?_
                refine lv_aload_n hx hb dX6_columnFor_222 rfl (lv_at hl 4 rfl) ?_
                refine va_get (D := G) (ci := 6) (v := .ref (a 17)) (C := RX6) (T := TX6) (N := 25) hx hb hts hin6 hown hK hP 0 rfl rfl 17 (by decide) (hts (Cond.fieldLink RX6 49 "IndentRulesModel" "by" "[I") (List.mem_of_getElem? (i := 3) rfl)) (fun _ h9 => h9) rfl dX6_columnFor_223 ?_
                refine lv_iconst (v := (nI 0)) hx hb dX6_columnFor_226 (by decide) ?_
                refine k_iald (D := G) (tys := TYS E) (j := 0) (f := bys) (n := 4) hx hb hK hP 14 0 rfl rfl (by decide) (by decide) dX6_columnFor_227 ?_
                refine lv_iadd hx hb dX6_columnFor_228 ?_
                refine lv_topi (fun v228 ev228 => ?_)
                refine lv_goto (tgt := 234) hx hb dX6_columnFor_229 (by decide) ?_
                exact W.iret (v := v228) hx hb hr (fun tZ htZ hWZ => ⟨_, rfl, by first | (exfalso; omega) | (rw [htop, cvt_s]; simp [cvB, gO, add_n0, hF, c8, c18, c29, c67, c71, c140, c167, c175, c184, c196, c217, ev155, ev228]), htZ⟩) (fun _ h => by cases h) dX6_columnFor_234
            · refine lv_iconst (v := (nI 1)) hx hb dX6_columnFor_187 (by decide) ?_
              refine lv_goto (tgt := 192) hx hb dX6_columnFor_188 (by decide) ?_
              refine lv_istore (lv' := [(5, .int (nI 1)), (4, .int v155), (3, .int (nI 1)), (2, .int (nI c0)), (0, .ref (a 0)), (1, .int (nI x))]) hx hb dX6_columnFor_192 hl (by decide) rfl (fun ls hl => ?_)
              refine lv_iload hx hb dX6_columnFor_194 (lv_at hl 0 rfl) ?_
              refine n_if_eq (a := 1) (tgt := 211) hx hb (by decide) dX6_columnFor_196 (by decide) (fun c196 => absurd c196 (by decide)) (fun c196 => ?_)
              refine lv_iload hx hb dX6_columnFor_199 (lv_at hl 1 rfl) ?_
              refine lv_aload_n hx hb dX6_columnFor_201 rfl (lv_at hl 4 rfl) ?_
              refine va_get (D := G) (ci := 6) (v := .ref (a 17)) (C := RX6) (T := TX6) (N := 25) hx hb hts hin6 hown hK hP 0 rfl rfl 17 (by decide) (hts (Cond.fieldLink RX6 49 "IndentRulesModel" "by" "[I") (List.mem_of_getElem? (i := 3) rfl)) (fun _ h9 => h9) rfl dX6_columnFor_202 ?_
              refine lv_iconst (v := (nI 1)) hx hb dX6_columnFor_205 (by decide) ?_
              refine k_iald (D := G) (tys := TYS E) (j := 1) (f := bys) (n := 4) hx hb hK hP 14 0 rfl rfl (by decide) (by decide) dX6_columnFor_206 ?_
              refine lv_iadd hx hb dX6_columnFor_207 ?_
              refine lv_topi (fun v207 ev207 => ?_)
              refine lv_goto (tgt := 234) hx hb dX6_columnFor_208 (by decide) ?_
              exact W.iret (v := v207) hx hb hr (fun tZ htZ hWZ => ⟨_, rfl, by first | (exfalso; omega) | (rw [htop, cvt_s]; simp [cvB, gO, add_n0, hF, c8, c18, c29, c67, c71, c140, c167, c175, c184, c196, ev155, ev207]), htZ⟩) (fun _ h => by cases h) dX6_columnFor_234
      · refine lv_iload_n hx hb dX6_columnFor_32 rfl (lv_at hl 0 rfl) ?_
        refine n_if_eq (a := 1) (tgt := 64) hx hb (by decide) dX6_columnFor_33 (by decide) (fun c33 => absurd c33 (by decide)) (fun c33 => ?_)
        refine lv_aload_n hx hb dX6_columnFor_36 rfl (lv_at hl 2 rfl) ?_
        refine va_get (D := G) (ci := 6) (v := .ref (a 8)) (C := RX6) (T := TX6) (N := 25) hx hb hts hin6 hown hK hP 0 rfl rfl 8 (by decide) (hts (Cond.fieldLink RX6 28 "IndentRulesModel" "baseOf" "[I") (List.mem_of_getElem? (i := 2) rfl)) (fun _ h9 => h9) rfl dX6_columnFor_37 ?_
        refine lv_iload_n hx hb dX6_columnFor_40 rfl (lv_at hl 1 rfl) ?_
        refine k_iald (D := G) (tys := TYS E) (j := c0) (f := baseO) (n := 180) hx hb hK hP 7 0 rfl rfl (by omega) (by decide) dX6_columnFor_41 ?_
        rw [q4]
        refine lv_aload_n hx hb dX6_columnFor_42 rfl (lv_at hl 2 rfl) ?_
        refine va_get (D := G) (ci := 6) (v := .ref (a 17)) (C := RX6) (T := TX6) (N := 25) hx hb hts hin6 hown hK hP 0 rfl rfl 17 (by decide) (hts (Cond.fieldLink RX6 49 "IndentRulesModel" "by" "[I") (List.mem_of_getElem? (i := 3) rfl)) (fun _ h9 => h9) rfl dX6_columnFor_43 ?_
        refine lv_iconst (v := (nI 3)) hx hb dX6_columnFor_46 (by decide) ?_
        refine k_iald (D := G) (tys := TYS E) (j := 3) (f := bys) (n := 4) hx hb hK hP 14 0 rfl rfl (by decide) (by decide) dX6_columnFor_47 ?_
        refine lv_iconst (v := (nI 1)) hx hb dX6_columnFor_48 (by decide) ?_
        refine lv_icmp_ne (x := (bys 3)) (y := (nI 1)) (tgt := 61) hx hb dX6_columnFor_49 (by decide) (fun c49 => ?_) (fun c49 => ?_)
        · refine lv_iconst (v := (nI 0)) hx hb dX6_columnFor_61 (by decide) ?_
          refine lv_iadd hx hb dX6_columnFor_62 ?_
          refine lv_topi (fun v62 ev62 => ?_)
          exact W.iret (v := v62) hx hb hr (fun tZ htZ hWZ => ⟨_, rfl, by first | (exfalso; omega) | (rw [htop, cvt_s]; simp [cvB, gO, add_n0, hF, c8, c18, c29, c33, c49, ev62]), htZ⟩) (fun _ h => by cases h) dX6_columnFor_63
        · refine lv_aload_n hx hb dX6_columnFor_52 rfl (lv_at hl 2 rfl) ?_
          refine va_get (D := G) (ci := 6) (v := .ref (a 17)) (C := RX6) (T := TX6) (N := 25) hx hb hts hin6 hown hK hP 0 rfl rfl 17 (by decide) (hts (Cond.fieldLink RX6 49 "IndentRulesModel" "by" "[I") (List.mem_of_getElem? (i := 3) rfl)) (fun _ h9 => h9) rfl dX6_columnFor_53 ?_
          refine lv_iconst (v := (nI 0)) hx hb dX6_columnFor_56 (by decide) ?_
          refine k_iald (D := G) (tys := TYS E) (j := 0) (f := bys) (n := 4) hx hb hK hP 14 0 rfl rfl (by decide) (by decide) dX6_columnFor_57 ?_
          refine lv_goto (tgt := 62) hx hb dX6_columnFor_58 (by decide) ?_
          refine lv_iadd hx hb dX6_columnFor_62 ?_
          refine lv_topi (fun v62 ev62 => ?_)
          exact W.iret (v := v62) hx hb hr (fun tZ htZ hWZ => ⟨_, rfl, by first | (exfalso; omega) | (rw [htop, cvt_s]; simp [cvB, gO, add_n0, hF, c8, c18, c29, c33, c49, ev62]), htZ⟩) (fun _ h => by cases h) dX6_columnFor_63

set_option maxHeartbeats 4000000 in
set_option maxRecDepth 100000 in
theorem c_X6_comes (l : Launch) (G : va_G) (E : cEnv) (a : Nat → Nat) (ln op dp la : Nat) (row seen sty lineO tokO atO baseO kindO partO colO openO strayO stk bys was gsd cellsO sortO kLine kAt kKind : Nat → Int32) (li k : Nat) (x : Int32) (kn : Nat) (hli : li < 20) (ho : op < 180) (hd : dp < 180) (sz : Nat) : Met l yX6_comes wsX6_comes ({ frames := 0, cells := 0, slots := 0, locals := 0 }) (va_Pc [.ref (a 0), .int (nI li), .int (nI k), .int x, .int (nI kn)] (PW G E (rW E a ln op dp la row seen sty lineO tokO atO baseO kindO partO colO openO strayO stk bys was gsd cellsO sortO kLine kAt kKind) sz)) (va_Qv (fun (_ : Unit) => True) (fun (_ : Unit) t => va_P G vwCl (rW E a ln (op + 1) (dp + 1) la row seen sty (upd lineO op (nI li)) (upd tokO op (nI k)) (upd atO op x) (upd baseO op (colO li)) (upd kindO op (nI kn)) (upd partO op (-9)) colO openO strayO (upd stk dp (nI op)) bys was gsd cellsO sortO kLine kAt kKind) t.heap) (va_A (rW E a ln op dp la row seen sty lineO tokO atO baseO kindO partO colO openO strayO stk bys was gsd cellsO sortO kLine kAt kKind) sz)) 0 0 (va_A (rW E a ln op dp la row seen sty lineO tokO atO baseO kindO partO colO openO strayO stk bys was gsd cellsO sortO kLine kAt kKind) sz) := by
  refine Met.ofW (cc := cX6_comes) (maxL := 5) (ret := none) (by decide) rfl ?_
  intro p e s m args below meth c s₁ B hml hv
  obtain ⟨rfl, hsz, hP, hK, hD0, hZ⟩ := hv
  have hx := B.exec
  have hb := B.bytes
  have hr := B.returns
  have hts := atoms_spec (ws := wsX6_comes) B.pre
  have hown : s.vm.findClass RX6 = some m.cls := findClass_of_methodNamed B.named
  have hlocks := B.notSynchronized
  have hin6 : ∀ w ∈ u_ws RX6 TX6 25, w ∈ wsX6_comes := mem_pl [11, 12, 13, 14, 15, 16, 17, 18, 19, 20, 21, 22, 23, 24, 25, 26, 27, 28, 29, 30, 31, 32, 33, 34, 35] (by rfl)
  subst hsz
  have hD := hD0.self (sz := s.heap.size)
  generalize hAe : va_A (rW E a ln op dp la row seen sty lineO tokO atO baseO kindO partO colO openO strayO stk bys was gsd cellsO sortO kLine kAt kKind) s.heap.size = A at hD hZ ⊢
  have hA : ∀ q : Nat, s.heap.size ≤ q → A q := fun q h => by rw [← hAe]; exact Or.inr h
  have hS : va_S A s.heap s.heap [] := va_S.rf
  have hl := lv_entry ([.ref (a 0), .int (nI li), .int (nI k), .int x, .int (nI kn)]) (n := 5) (Nat.le_of_ble_eq_true rfl)
  rw [lg_entry_eq]
  generalize (lg_sl ([.ref (a 0), .int (nI li), .int (nI k), .int x, .int (nI kn)]) ++ List.replicate (5 - (lg_sl ([.ref (a 0), .int (nI li), .int (nI k), .int x, .int (nI kn)])).length) Slot.unset).toArray = ls at hl ⊢
  have hl : lv_has ls 5 [(0, .ref (a 0)), (1, .int (nI li)), (2, .int (nI k)), (3, .int x), (4, .int (nI kn))] := hl
  refine lv_aload_n hx hb dX6_comes_0 rfl (lv_at hl 0 rfl) ?_
  refine va_get (D := G) (ci := 6) (v := .ref (a 5)) (C := RX6) (T := TX6) (N := 25) hx hb hts hin6 hown hK hP 0 rfl rfl 5 (by decide) (hts (Cond.fieldLink RX6 19 "IndentRulesModel" "lineOf" "[I") (List.mem_of_getElem? (i := 1) rfl)) (fun _ h9 => h9) rfl dX6_comes_1 ?_
  refine lv_aload_n hx hb dX6_comes_4 rfl (lv_at hl 0 rfl) ?_
  refine va_get (D := G) (ci := 6) (v := .int (nI op)) (C := RX6) (T := TX6) (N := 25) hx hb hts hin6 hown hK hP 0 rfl rfl 4 (by decide) (hts (Cond.fieldLink RX6 95 "IndentRulesModel" "openers" "I") (List.mem_of_getElem? (i := 2) rfl)) (fun _ h9 => h9) rfl dX6_comes_5 ?_
  refine lv_iload_n hx hb dX6_comes_8 rfl (lv_at hl 1 rfl) ?_
  refine k_iast (D := G) (tys := TYS E) (j := op) (x := (nI li)) (f := lineO) (n := 180) hx hb hK hP hD hS 4 0 rfl rfl (by omega) (by decide) dX6_comes_9 (fun H locs hP hD hS => ?_)
  have hP : va_P G vwCl (rW E a ln op dp la row seen sty (upd lineO op (nI li)) tokO atO baseO kindO partO colO openO strayO stk bys was gsd cellsO sortO kLine kAt kKind) H := hP
  have hD : va_D A (rW E a ln op dp la row seen sty (upd lineO op (nI li)) tokO atO baseO kindO partO colO openO strayO stk bys was gsd cellsO sortO kLine kAt kKind) := hD
  refine lv_aload_n hx hb dX6_comes_10 rfl (lv_at hl 0 rfl) ?_
  refine va_get (D := G) (ci := 6) (v := .ref (a 6)) (C := RX6) (T := TX6) (N := 25) hx hb hts hin6 hown hK hP 0 rfl rfl 6 (by decide) (hts (Cond.fieldLink RX6 22 "IndentRulesModel" "tokenOf" "[I") (List.mem_of_getElem? (i := 3) rfl)) (fun _ h9 => h9) rfl dX6_comes_11 ?_
  refine lv_aload_n hx hb dX6_comes_14 rfl (lv_at hl 0 rfl) ?_
  refine va_get (D := G) (ci := 6) (v := .int (nI op)) (C := RX6) (T := TX6) (N := 25) hx hb hts hin6 hown hK hP 0 rfl rfl 4 (by decide) (hts (Cond.fieldLink RX6 95 "IndentRulesModel" "openers" "I") (List.mem_of_getElem? (i := 2) rfl)) (fun _ h9 => h9) rfl dX6_comes_15 ?_
  refine lv_iload_n hx hb dX6_comes_18 rfl (lv_at hl 2 rfl) ?_
  refine k_iast (D := G) (tys := TYS E) (j := op) (x := (nI k)) (f := tokO) (n := 180) hx hb hK hP hD hS 5 0 rfl rfl (by omega) (by decide) dX6_comes_19 (fun H locs hP hD hS => ?_)
  have hP : va_P G vwCl (rW E a ln op dp la row seen sty (upd lineO op (nI li)) (upd tokO op (nI k)) atO baseO kindO partO colO openO strayO stk bys was gsd cellsO sortO kLine kAt kKind) H := hP
  have hD : va_D A (rW E a ln op dp la row seen sty (upd lineO op (nI li)) (upd tokO op (nI k)) atO baseO kindO partO colO openO strayO stk bys was gsd cellsO sortO kLine kAt kKind) := hD
  refine lv_aload_n hx hb dX6_comes_20 rfl (lv_at hl 0 rfl) ?_
  refine va_get (D := G) (ci := 6) (v := .ref (a 7)) (C := RX6) (T := TX6) (N := 25) hx hb hts hin6 hown hK hP 0 rfl rfl 7 (by decide) (hts (Cond.fieldLink RX6 25 "IndentRulesModel" "atOf" "[I") (List.mem_of_getElem? (i := 4) rfl)) (fun _ h9 => h9) rfl dX6_comes_21 ?_
  refine lv_aload_n hx hb dX6_comes_24 rfl (lv_at hl 0 rfl) ?_
  refine va_get (D := G) (ci := 6) (v := .int (nI op)) (C := RX6) (T := TX6) (N := 25) hx hb hts hin6 hown hK hP 0 rfl rfl 4 (by decide) (hts (Cond.fieldLink RX6 95 "IndentRulesModel" "openers" "I") (List.mem_of_getElem? (i := 2) rfl)) (fun _ h9 => h9) rfl dX6_comes_25 ?_
  refine lv_iload_n hx hb dX6_comes_28 rfl (lv_at hl 3 rfl) ?_
  refine k_iast (D := G) (tys := TYS E) (j := op) (x := x) (f := atO) (n := 180) hx hb hK hP hD hS 6 0 rfl rfl (by omega) (by decide) dX6_comes_29 (fun H locs hP hD hS => ?_)
  have hP : va_P G vwCl (rW E a ln op dp la row seen sty (upd lineO op (nI li)) (upd tokO op (nI k)) (upd atO op x) baseO kindO partO colO openO strayO stk bys was gsd cellsO sortO kLine kAt kKind) H := hP
  have hD : va_D A (rW E a ln op dp la row seen sty (upd lineO op (nI li)) (upd tokO op (nI k)) (upd atO op x) baseO kindO partO colO openO strayO stk bys was gsd cellsO sortO kLine kAt kKind) := hD
  refine lv_aload_n hx hb dX6_comes_30 rfl (lv_at hl 0 rfl) ?_
  refine va_get (D := G) (ci := 6) (v := .ref (a 8)) (C := RX6) (T := TX6) (N := 25) hx hb hts hin6 hown hK hP 0 rfl rfl 8 (by decide) (hts (Cond.fieldLink RX6 28 "IndentRulesModel" "baseOf" "[I") (List.mem_of_getElem? (i := 5) rfl)) (fun _ h9 => h9) rfl dX6_comes_31 ?_
  refine lv_aload_n hx hb dX6_comes_34 rfl (lv_at hl 0 rfl) ?_
  refine va_get (D := G) (ci := 6) (v := .int (nI op)) (C := RX6) (T := TX6) (N := 25) hx hb hts hin6 hown hK hP 0 rfl rfl 4 (by decide) (hts (Cond.fieldLink RX6 95 "IndentRulesModel" "openers" "I") (List.mem_of_getElem? (i := 2) rfl)) (fun _ h9 => h9) rfl dX6_comes_35 ?_
  refine lv_aload_n hx hb dX6_comes_38 rfl (lv_at hl 0 rfl) ?_
  refine va_get (D := G) (ci := 6) (v := .ref (a 11)) (C := RX6) (T := TX6) (N := 25) hx hb hts hin6 hown hK hP 0 rfl rfl 11 (by decide) (hts (Cond.fieldLink RX6 37 "IndentRulesModel" "columnOf" "[I") (List.mem_of_getElem? (i := 6) rfl)) (fun _ h9 => h9) rfl dX6_comes_39 ?_
  refine lv_iload_n hx hb dX6_comes_42 rfl (lv_at hl 1 rfl) ?_
  refine k_iald (D := G) (tys := TYS E) (j := li) (f := colO) (n := 20) hx hb hK hP 10 0 rfl rfl (by omega) (by decide) dX6_comes_43 ?_
  refine k_iast (D := G) (tys := TYS E) (j := op) (x := (colO li)) (f := baseO) (n := 180) hx hb hK hP hD hS 7 0 rfl rfl (by omega) (by decide) dX6_comes_44 (fun H locs hP hD hS => ?_)
  have hP : va_P G vwCl (rW E a ln op dp la row seen sty (upd lineO op (nI li)) (upd tokO op (nI k)) (upd atO op x) (upd baseO op (colO li)) kindO partO colO openO strayO stk bys was gsd cellsO sortO kLine kAt kKind) H := hP
  have hD : va_D A (rW E a ln op dp la row seen sty (upd lineO op (nI li)) (upd tokO op (nI k)) (upd atO op x) (upd baseO op (colO li)) kindO partO colO openO strayO stk bys was gsd cellsO sortO kLine kAt kKind) := hD
  refine lv_aload_n hx hb dX6_comes_45 rfl (lv_at hl 0 rfl) ?_
  refine va_get (D := G) (ci := 6) (v := .ref (a 9)) (C := RX6) (T := TX6) (N := 25) hx hb hts hin6 hown hK hP 0 rfl rfl 9 (by decide) (hts (Cond.fieldLink RX6 31 "IndentRulesModel" "kindOf" "[I") (List.mem_of_getElem? (i := 7) rfl)) (fun _ h9 => h9) rfl dX6_comes_46 ?_
  refine lv_aload_n hx hb dX6_comes_49 rfl (lv_at hl 0 rfl) ?_
  refine va_get (D := G) (ci := 6) (v := .int (nI op)) (C := RX6) (T := TX6) (N := 25) hx hb hts hin6 hown hK hP 0 rfl rfl 4 (by decide) (hts (Cond.fieldLink RX6 95 "IndentRulesModel" "openers" "I") (List.mem_of_getElem? (i := 2) rfl)) (fun _ h9 => h9) rfl dX6_comes_50 ?_
  refine lv_iload hx hb dX6_comes_53 (lv_at hl 4 rfl) ?_
  refine k_iast (D := G) (tys := TYS E) (j := op) (x := (nI kn)) (f := kindO) (n := 180) hx hb hK hP hD hS 8 0 rfl rfl (by omega) (by decide) dX6_comes_55 (fun H locs hP hD hS => ?_)
  have hP : va_P G vwCl (rW E a ln op dp la row seen sty (upd lineO op (nI li)) (upd tokO op (nI k)) (upd atO op x) (upd baseO op (colO li)) (upd kindO op (nI kn)) partO colO openO strayO stk bys was gsd cellsO sortO kLine kAt kKind) H := hP
  have hD : va_D A (rW E a ln op dp la row seen sty (upd lineO op (nI li)) (upd tokO op (nI k)) (upd atO op x) (upd baseO op (colO li)) (upd kindO op (nI kn)) partO colO openO strayO stk bys was gsd cellsO sortO kLine kAt kKind) := hD
  refine lv_aload_n hx hb dX6_comes_56 rfl (lv_at hl 0 rfl) ?_
  refine va_get (D := G) (ci := 6) (v := .ref (a 10)) (C := RX6) (T := TX6) (N := 25) hx hb hts hin6 hown hK hP 0 rfl rfl 10 (by decide) (hts (Cond.fieldLink RX6 34 "IndentRulesModel" "partnerOf" "[I") (List.mem_of_getElem? (i := 8) rfl)) (fun _ h9 => h9) rfl dX6_comes_57 ?_
  refine lv_aload_n hx hb dX6_comes_60 rfl (lv_at hl 0 rfl) ?_
  refine va_get (D := G) (ci := 6) (v := .int (nI op)) (C := RX6) (T := TX6) (N := 25) hx hb hts hin6 hown hK hP 0 rfl rfl 4 (by decide) (hts (Cond.fieldLink RX6 95 "IndentRulesModel" "openers" "I") (List.mem_of_getElem? (i := 2) rfl)) (fun _ h9 => h9) rfl dX6_comes_61 ?_
  refine lv_bipush (v := (-9)) hx hb dX6_comes_64 (by decide) ?_
  refine k_iast (D := G) (tys := TYS E) (j := op) (x := (-9)) (f := partO) (n := 180) hx hb hK hP hD hS 9 0 rfl rfl (by omega) (by decide) dX6_comes_66 (fun H locs hP hD hS => ?_)
  have hP : va_P G vwCl (rW E a ln op dp la row seen sty (upd lineO op (nI li)) (upd tokO op (nI k)) (upd atO op x) (upd baseO op (colO li)) (upd kindO op (nI kn)) (upd partO op (-9)) colO openO strayO stk bys was gsd cellsO sortO kLine kAt kKind) H := hP
  have hD : va_D A (rW E a ln op dp la row seen sty (upd lineO op (nI li)) (upd tokO op (nI k)) (upd atO op x) (upd baseO op (colO li)) (upd kindO op (nI kn)) (upd partO op (-9)) colO openO strayO stk bys was gsd cellsO sortO kLine kAt kKind) := hD
  refine lv_aload_n hx hb dX6_comes_67 rfl (lv_at hl 0 rfl) ?_
  refine va_get (D := G) (ci := 6) (v := .ref (a 15)) (C := RX6) (T := TX6) (N := 25) hx hb hts hin6 hown hK hP 0 rfl rfl 15 (by decide) (hts (Cond.fieldLink RX6 46 "IndentRulesModel" "stack" "[I") (List.mem_of_getElem? (i := 9) rfl)) (fun _ h9 => h9) rfl dX6_comes_68 ?_
  refine lv_aload_n hx hb dX6_comes_71 rfl (lv_at hl 0 rfl) ?_
  refine va_get (D := G) (ci := 6) (v := .int (nI dp)) (C := RX6) (T := TX6) (N := 25) hx hb hts hin6 hown hK hP 0 rfl rfl 14 (by decide) (hts (Cond.fieldLink RX6 85 "IndentRulesModel" "deep" "I") (List.mem_of_getElem? (i := 10) rfl)) (fun _ h9 => h9) rfl dX6_comes_72 ?_
  refine lv_aload_n hx hb dX6_comes_75 rfl (lv_at hl 0 rfl) ?_
  refine va_get (D := G) (ci := 6) (v := .int (nI op)) (C := RX6) (T := TX6) (N := 25) hx hb hts hin6 hown hK hP 0 rfl rfl 4 (by decide) (hts (Cond.fieldLink RX6 95 "IndentRulesModel" "openers" "I") (List.mem_of_getElem? (i := 2) rfl)) (fun _ h9 => h9) rfl dX6_comes_76 ?_
  refine k_iast (D := G) (tys := TYS E) (j := dp) (x := (nI op)) (f := stk) (n := 180) hx hb hK hP hD hS 13 0 rfl rfl (by omega) (by decide) dX6_comes_79 (fun H locs hP hD hS => ?_)
  have hP : va_P G vwCl (rW E a ln op dp la row seen sty (upd lineO op (nI li)) (upd tokO op (nI k)) (upd atO op x) (upd baseO op (colO li)) (upd kindO op (nI kn)) (upd partO op (-9)) colO openO strayO (upd stk dp (nI op)) bys was gsd cellsO sortO kLine kAt kKind) H := hP
  have hD : va_D A (rW E a ln op dp la row seen sty (upd lineO op (nI li)) (upd tokO op (nI k)) (upd atO op x) (upd baseO op (colO li)) (upd kindO op (nI kn)) (upd partO op (-9)) colO openO strayO (upd stk dp (nI op)) bys was gsd cellsO sortO kLine kAt kKind) := hD
  refine lv_aload_n hx hb dX6_comes_80 rfl (lv_at hl 0 rfl) ?_
  refine lv_dup hx hb dX6_comes_81 rfl ?_
  refine va_get (D := G) (ci := 6) (v := .int (nI dp)) (C := RX6) (T := TX6) (N := 25) hx hb hts hin6 hown hK hP 0 rfl rfl 14 (by decide) (hts (Cond.fieldLink RX6 85 "IndentRulesModel" "deep" "I") (List.mem_of_getElem? (i := 10) rfl)) (fun _ h9 => h9) rfl dX6_comes_82 ?_
  refine lv_iconst (v := (nI 1)) hx hb dX6_comes_85 (by decide) ?_
  refine k_iadd (a := dp) (b := 1) hx hb dX6_comes_86 ?_
  refine va_put (D := G) (ci := 6) (v := .int (nI (dp + 1))) (ty := .int) (C := RX6) (T := TX6) (N := 25) hx hb hts hin6 tyX6 tyX6_ok nmX6 hown hK hP hD hS 0 rfl rfl 14 (by decide) (hts (Cond.fieldLink RX6 85 "IndentRulesModel" "deep" "I") (List.mem_of_getElem? (i := 10) rfl)) (fun _ h9 => h9) rfl (by decide +kernel) rfl rfl (Nat.le_of_ble_eq_true rfl) dX6_comes_87 (fun H locs hP hD hS => ?_)
  have hP : va_P G vwCl (rW E a ln op (dp + 1) la row seen sty (upd lineO op (nI li)) (upd tokO op (nI k)) (upd atO op x) (upd baseO op (colO li)) (upd kindO op (nI kn)) (upd partO op (-9)) colO openO strayO (upd stk dp (nI op)) bys was gsd cellsO sortO kLine kAt kKind) H := hP
  have hD : va_D A (rW E a ln op (dp + 1) la row seen sty (upd lineO op (nI li)) (upd tokO op (nI k)) (upd atO op x) (upd baseO op (colO li)) (upd kindO op (nI kn)) (upd partO op (-9)) colO openO strayO (upd stk dp (nI op)) bys was gsd cellsO sortO kLine kAt kKind) := hD
  refine lv_aload_n hx hb dX6_comes_90 rfl (lv_at hl 0 rfl) ?_
  refine lv_dup hx hb dX6_comes_91 rfl ?_
  refine va_get (D := G) (ci := 6) (v := .int (nI op)) (C := RX6) (T := TX6) (N := 25) hx hb hts hin6 hown hK hP 0 rfl rfl 4 (by decide) (hts (Cond.fieldLink RX6 95 "IndentRulesModel" "openers" "I") (List.mem_of_getElem? (i := 2) rfl)) (fun _ h9 => h9) rfl dX6_comes_92 ?_
  refine lv_iconst (v := (nI 1)) hx hb dX6_comes_95 (by decide) ?_
  refine k_iadd (a := op) (b := 1) hx hb dX6_comes_96 ?_
  refine va_put (D := G) (ci := 6) (v := .int (nI (op + 1))) (ty := .int) (C := RX6) (T := TX6) (N := 25) hx hb hts hin6 tyX6 tyX6_ok nmX6 hown hK hP hD hS 0 rfl rfl 4 (by decide) (hts (Cond.fieldLink RX6 95 "IndentRulesModel" "openers" "I") (List.mem_of_getElem? (i := 2) rfl)) (fun _ h9 => h9) rfl (by decide +kernel) rfl rfl (Nat.le_of_ble_eq_true rfl) dX6_comes_97 (fun H locs hP hD hS => ?_)
  have hP : va_P G vwCl (rW E a ln (op + 1) (dp + 1) la row seen sty (upd lineO op (nI li)) (upd tokO op (nI k)) (upd atO op x) (upd baseO op (colO li)) (upd kindO op (nI kn)) (upd partO op (-9)) colO openO strayO (upd stk dp (nI op)) bys was gsd cellsO sortO kLine kAt kKind) H := hP
  have hD : va_D A (rW E a ln (op + 1) (dp + 1) la row seen sty (upd lineO op (nI li)) (upd tokO op (nI k)) (upd atO op x) (upd baseO op (colO li)) (upd kindO op (nI kn)) (upd partO op (-9)) colO openO strayO (upd stk dp (nI op)) bys was gsd cellsO sortO kLine kAt kKind) := hD
  exact W.vret hx hb hr (fun tZ htZ hWZ => ⟨⟨(), rfl, trivial, by show va_P G vwCl _ tZ.heap; rw [htZ]; exact hP⟩, hS.F htZ⟩) hS.2.2 dX6_comes_100

set_option maxHeartbeats 4000000 in
set_option maxRecDepth 100000 in
theorem c_X6_closes (l : Launch) (G : va_G) (E : cEnv) (a : Nat → Nat) (ln : Nat) (row seen sty lineO tokO atO baseO kindO partO colO openO strayO stk bys was gsd cellsO sortO kLine kAt kKind : Nat → Int32) (li b : Nat) (S : NS) (C : Nat → Int32) (mm L bb : Nat) (hli : li < 20) (hlm : li < mm) (hb1 : b ≤ 1) (hRR : RR (bys 2) S C mm lineO tokO atO baseO kindO partO colO openO strayO stk) (hwf : wfN S L bb) (hbb : bb ≤ 180) (sz : Nat) : Met l yX6_closes wsX6_closes ({ frames := 1, cells := 0, slots := 0, locals := 20 }) (va_Pc [.ref (a 0), .int (nI li), .int (nI b)] (PW G E (rW E a ln (nO S) (nD S) (nL S) row seen sty lineO tokO atO baseO kindO partO colO openO strayO stk bys was gsd cellsO sortO kLine kAt kKind) sz)) (va_Qv (fun (u : (Nat → Int32) × (Nat → Int32)) => RR (bys 2) (nClose (if b = 1 then 2 else 4) li S) C mm lineO tokO atO baseO kindO u.1 colO openO u.2 stk) (fun (u : (Nat → Int32) × (Nat → Int32)) t => va_P G vwCl (rW E a ln (nO S) (nD (nClose (if b = 1 then 2 else 4) li S)) (nL S) row seen sty lineO tokO atO baseO kindO u.1 colO openO u.2 stk bys was gsd cellsO sortO kLine kAt kKind) t.heap) (va_A (rW E a ln (nO S) (nD S) (nL S) row seen sty lineO tokO atO baseO kindO partO colO openO strayO stk bys was gsd cellsO sortO kLine kAt kKind) sz)) 0 0 (va_A (rW E a ln (nO S) (nD S) (nL S) row seen sty lineO tokO atO baseO kindO partO colO openO strayO stk bys was gsd cellsO sortO kLine kAt kKind) sz) := by
  refine Met.ofW (cc := cX6_closes) (maxL := 4) (ret := none) (by decide) rfl ?_
  intro p e s m args below meth c s₁ B hml hv
  obtain ⟨rfl, hsz, hP, hK, hD0, hZ⟩ := hv
  have hx := B.exec
  have hb := B.bytes
  have hr := B.returns
  have hts := atoms_spec (ws := wsX6_closes) B.pre
  have hown : s.vm.findClass RX6 = some m.cls := findClass_of_methodNamed B.named
  have hlocks := B.notSynchronized
  have hin6 : ∀ w ∈ u_ws RX6 TX6 25, w ∈ wsX6_closes := mem_pl [11, 12, 13, 14, 15, 16, 17, 18, 19, 20, 21, 22, 23, 24, 25, 26, 27, 28, 29, 30, 31, 32, 33, 34, 35] (by rfl)
  subst hsz
  have hD := hD0.self (sz := s.heap.size)
  generalize hAe : va_A (rW E a ln (nO S) (nD S) (nL S) row seen sty lineO tokO atO baseO kindO partO colO openO strayO stk bys was gsd cellsO sortO kLine kAt kKind) s.heap.size = A at hD hZ ⊢
  have hA : ∀ q : Nat, s.heap.size ≤ q → A q := fun q h => by rw [← hAe]; exact Or.inr h
  have hS : va_S A s.heap s.heap [] := va_S.rf
  have hl := lv_entry ([.ref (a 0), .int (nI li), .int (nI b)]) (n := 4) (Nat.le_of_ble_eq_true rfl)
  rw [lg_entry_eq]
  generalize (lg_sl ([.ref (a 0), .int (nI li), .int (nI b)]) ++ List.replicate (4 - (lg_sl ([.ref (a 0), .int (nI li), .int (nI b)])).length) Slot.unset).toArray = ls at hl ⊢
  have hl : lv_has ls 4 [(0, .ref (a 0)), (1, .int (nI li)), (2, .int (nI b))] := hl
  refine lv_aload_n hx hb dX6_closes_0 rfl (lv_at hl 0 rfl) ?_
  refine rv_i (n := 0) (G := G) (E := E) (As := []) (rest := []) (ci := 6) (q0 := 0) ⟨hx, hb, hml, hown, hts⟩ hK hZ hS (c_X6_top l G E a ln (nO S) (nD S) (nL S) row seen sty lineO tokO atO baseO kindO partO colO openO strayO stk bys was gsd cellsO sortO kLine kAt kKind (by have := hwf.1; have := hwf.2.1; omega)) gX6_closes_X6_top rfl rfl rfl (by decide +kernel) ⟨Nat.le_of_ble_eq_true rfl, Nat.le_of_ble_eq_true rfl⟩ hP rfl rfl hl.1 rfl rfl (Nat.le_of_ble_eq_true rfl) dX6_closes_1 ⟨Nat.zero_le _, Nat.zero_le _⟩ (fun r1 p1 => ?_)
  rcases p1 with ⟨d1, rfl⟩ | ⟨d1, rfl⟩
  · have hno : ¬ (0 < nD S ∧ nF S 0 (nF S 6 (nD S - 1)) = (if b = 1 then 2 else 4)) := fun q => by omega
    refine lv_istore_n (lv' := [(3, .int (-9)), (0, .ref (a 0)), (1, .int (nI li)), (2, .int (nI b))]) hx hb dX6_closes_4 rfl hl (by decide) rfl (fun ls hl => ?_)
    refine lv_iload_n hx hb dX6_closes_5 rfl (lv_at hl 0 rfl) ?_
    refine lv_bipush (v := (-9)) hx hb dX6_closes_6 (by decide) ?_
    refine lv_icmp_eq (x := (-9)) (y := (-9)) (tgt := 50) hx hb dX6_closes_8 (by decide) (fun c8 => ?_) (fun c8 => absurd c8 (by decide))
    refine lv_aload_n hx hb dX6_closes_50 rfl (lv_at hl 1 rfl) ?_
    refine va_get (D := G) (ci := 6) (v := .ref (a 13)) (C := RX6) (T := TX6) (N := 25) hx hb hts hin6 hown hK hP 0 rfl rfl 13 (by decide) (hts (Cond.fieldLink RX6 43 "IndentRulesModel" "strayOf" "[I") (List.mem_of_getElem? (i := 4) rfl)) (fun _ h9 => h9) rfl dX6_closes_51 ?_
    refine lv_iload_n hx hb dX6_closes_54 rfl (lv_at hl 2 rfl) ?_
    refine lv_dup2_11 hx hb dX6_closes_55 rfl rfl ?_
    refine k_iald (D := G) (tys := TYS E) (j := li) (f := strayO) (n := 20) hx hb hK hP 12 0 rfl rfl (by omega) (by decide) dX6_closes_56 ?_
    rw [(hRR.2.1 li hlm).2.2]
    refine lv_iconst (v := (nI 1)) hx hb dX6_closes_57 (by decide) ?_
    refine k_iadd (a := (nF S 7 li)) (b := 1) hx hb dX6_closes_58 ?_
    refine k_iast (D := G) (tys := TYS E) (j := li) (x := (nI (nF S 7 li + 1))) (f := strayO) (n := 20) hx hb hK hP hD hS 12 0 rfl rfl (by omega) (by decide) dX6_closes_59 (fun H locs hP hD hS => ?_)
    have hP : va_P G vwCl (rW E a ln (nO S) (nD S) (nL S) row seen sty lineO tokO atO baseO kindO partO colO openO (upd strayO li (nI (nF S 7 li + 1))) stk bys was gsd cellsO sortO kLine kAt kKind) H := hP
    have hD : va_D A (rW E a ln (nO S) (nD S) (nL S) row seen sty lineO tokO atO baseO kindO partO colO openO (upd strayO li (nI (nF S 7 li + 1))) stk bys was gsd cellsO sortO kLine kAt kKind) := hD
    obtain ⟨f59, ef59⟩ : ∃ z : Nat → Int32, z = upd strayO li (nI (nF S 7 li + 1)) := ⟨_, rfl⟩
    rw [← ef59] at hP hD
    exact W.vret hx hb hr (fun tZ htZ hWZ => ⟨⟨(partO, f59), rfl, by rw [ef59]; exact RR_stray hRR hlm hno, by show va_P G vwCl _ tZ.heap; rw [htZ, show nD (nClose (if b = 1 then 2 else 4) li S) = nD S by unfold nClose; rw [if_neg hno]]; exact hP⟩, hS.F htZ⟩) hS.2.2 dX6_closes_60
  · obtain ⟨c0, hc0⟩ : ∃ z, z = nF S 6 (nD S - 1) := ⟨_, rfl⟩
    have hst : stk (nD S - 1) = nI c0 := by rw [hRR.2.2 (nD S - 1) (by omega), hc0]
    have hclt : c0 < nO S := by rw [hc0]; exact hwf.2.2.1 _ (by omega)
    have hop : nO S ≤ 180 := Nat.le_trans hwf.2.1 hbb
    obtain ⟨q1, q2, q3, q4, q5, q6⟩ := hRR.1 c0 hclt
    have hso := (hwf.2.2.2.1 c0 hclt).2
    rw [hst]
    refine lv_istore_n (lv' := [(3, .int (nI c0)), (0, .ref (a 0)), (1, .int (nI li)), (2, .int (nI b))]) hx hb dX6_closes_4 rfl hl (by decide) rfl (fun ls hl => ?_)
    refine lv_iload_n hx hb dX6_closes_5 rfl (lv_at hl 0 rfl) ?_
    refine lv_bipush (v := (-9)) hx hb dX6_closes_6 (by decide) ?_
    refine lv_icmp_eq (x := (nI c0)) (y := (-9)) (tgt := 50) hx hb dX6_closes_8 (by decide) (fun c8 => absurd c8 (k_nneg (by decide) (by omega))) (fun c8 => ?_)
    refine lv_aload_n hx hb dX6_closes_11 rfl (lv_at hl 1 rfl) ?_
    refine va_get (D := G) (ci := 6) (v := .ref (a 9)) (C := RX6) (T := TX6) (N := 25) hx hb hts hin6 hown hK hP 0 rfl rfl 9 (by decide) (hts (Cond.fieldLink RX6 31 "IndentRulesModel" "kindOf" "[I") (List.mem_of_getElem? (i := 1) rfl)) (fun _ h9 => h9) rfl dX6_closes_12 ?_
    refine lv_iload_n hx hb dX6_closes_15 rfl (lv_at hl 0 rfl) ?_
    refine k_iald (D := G) (tys := TYS E) (j := c0) (f := kindO) (n := 180) hx hb hK hP 8 0 rfl rfl (by omega) (by decide) dX6_closes_16 ?_
    rw [q5]
    refine lv_iconst (v := (nI 1)) hx hb dX6_closes_17 (by decide) ?_
    refine n_icmp_ne (a := (kd (bys 2) (nF S) c0)) (b := 1) (tgt := 25) hx hb (Nat.lt_of_lt_of_le (kd_lt _ _ _) (by decide)) (by decide) dX6_closes_18 (by decide) (fun c18 => ?_) (fun c18 => ?_)
    · have hF : nF S 0 c0 = 4 := hso.resolve_left (fun q => c18 (kd_1.mpr q))
      refine lv_iconst (v := (nI 0)) hx hb dX6_closes_25 (by decide) ?_
      refine lv_iload_n hx hb dX6_closes_26 rfl (lv_at hl 3 rfl) ?_
      refine n_icmp_ne (a := 0) (b := b) (tgt := 50) hx hb (by decide) (by omega) dX6_closes_27 (by decide) (fun c27 => ?_) (fun c27 => ?_)
      · have hno : ¬ (0 < nD S ∧ nF S 0 (nF S 6 (nD S - 1)) = (if b = 1 then 2 else 4)) := fun q => by have q2 := q.2; rw [← hc0, hF] at q2; split at q2 <;> omega
        refine lv_aload_n hx hb dX6_closes_50 rfl (lv_at hl 1 rfl) ?_
        refine va_get (D := G) (ci := 6) (v := .ref (a 13)) (C := RX6) (T := TX6) (N := 25) hx hb hts hin6 hown hK hP 0 rfl rfl 13 (by decide) (hts (Cond.fieldLink RX6 43 "IndentRulesModel" "strayOf" "[I") (List.mem_of_getElem? (i := 4) rfl)) (fun _ h9 => h9) rfl dX6_closes_51 ?_
        refine lv_iload_n hx hb dX6_closes_54 rfl (lv_at hl 2 rfl) ?_
        refine lv_dup2_11 hx hb dX6_closes_55 rfl rfl ?_
        refine k_iald (D := G) (tys := TYS E) (j := li) (f := strayO) (n := 20) hx hb hK hP 12 0 rfl rfl (by omega) (by decide) dX6_closes_56 ?_
        rw [(hRR.2.1 li hlm).2.2]
        refine lv_iconst (v := (nI 1)) hx hb dX6_closes_57 (by decide) ?_
        refine k_iadd (a := (nF S 7 li)) (b := 1) hx hb dX6_closes_58 ?_
        refine k_iast (D := G) (tys := TYS E) (j := li) (x := (nI (nF S 7 li + 1))) (f := strayO) (n := 20) hx hb hK hP hD hS 12 0 rfl rfl (by omega) (by decide) dX6_closes_59 (fun H locs hP hD hS => ?_)
        have hP : va_P G vwCl (rW E a ln (nO S) (nD S) (nL S) row seen sty lineO tokO atO baseO kindO partO colO openO (upd strayO li (nI (nF S 7 li + 1))) stk bys was gsd cellsO sortO kLine kAt kKind) H := hP
        have hD : va_D A (rW E a ln (nO S) (nD S) (nL S) row seen sty lineO tokO atO baseO kindO partO colO openO (upd strayO li (nI (nF S 7 li + 1))) stk bys was gsd cellsO sortO kLine kAt kKind) := hD
        obtain ⟨f59, ef59⟩ : ∃ z : Nat → Int32, z = upd strayO li (nI (nF S 7 li + 1)) := ⟨_, rfl⟩
        rw [← ef59] at hP hD
        exact W.vret hx hb hr (fun tZ htZ hWZ => ⟨⟨(partO, f59), rfl, by rw [ef59]; exact RR_stray hRR hlm hno, by show va_P G vwCl _ tZ.heap; rw [htZ, show nD (nClose (if b = 1 then 2 else 4) li S) = nD S by unfold nClose; rw [if_neg hno]]; exact hP⟩, hS.F htZ⟩) hS.2.2 dX6_closes_60
      · have hq : nF S 0 c0 = (if b = 1 then 2 else 4) := by rw [if_neg (by omega)]; exact hF
        refine lv_aload_n hx hb dX6_closes_30 rfl (lv_at hl 1 rfl) ?_
        refine va_get (D := G) (ci := 6) (v := .ref (a 10)) (C := RX6) (T := TX6) (N := 25) hx hb hts hin6 hown hK hP 0 rfl rfl 10 (by decide) (hts (Cond.fieldLink RX6 34 "IndentRulesModel" "partnerOf" "[I") (List.mem_of_getElem? (i := 2) rfl)) (fun _ h9 => h9) rfl dX6_closes_31 ?_
        refine lv_iload_n hx hb dX6_closes_34 rfl (lv_at hl 0 rfl) ?_
        refine lv_iload_n hx hb dX6_closes_35 rfl (lv_at hl 2 rfl) ?_
        refine k_iast (D := G) (tys := TYS E) (j := c0) (x := (nI li)) (f := partO) (n := 180) hx hb hK hP hD hS 9 0 rfl rfl (by omega) (by decide) dX6_closes_36 (fun H locs hP hD hS => ?_)
        have hP : va_P G vwCl (rW E a ln (nO S) (nD S) (nL S) row seen sty lineO tokO atO baseO kindO (upd partO c0 (nI li)) colO openO strayO stk bys was gsd cellsO sortO kLine kAt kKind) H := hP
        have hD : va_D A (rW E a ln (nO S) (nD S) (nL S) row seen sty lineO tokO atO baseO kindO (upd partO c0 (nI li)) colO openO strayO stk bys was gsd cellsO sortO kLine kAt kKind) := hD
        obtain ⟨f36, ef36⟩ : ∃ z : Nat → Int32, z = upd partO c0 (nI li) := ⟨_, rfl⟩
        rw [← ef36] at hP hD
        refine lv_aload_n hx hb dX6_closes_37 rfl (lv_at hl 1 rfl) ?_
        refine lv_dup hx hb dX6_closes_38 rfl ?_
        refine va_get (D := G) (ci := 6) (v := .int (nI (nD S))) (C := RX6) (T := TX6) (N := 25) hx hb hts hin6 hown hK hP 0 rfl rfl 14 (by decide) (hts (Cond.fieldLink RX6 85 "IndentRulesModel" "deep" "I") (List.mem_of_getElem? (i := 3) rfl)) (fun _ h9 => h9) rfl dX6_closes_39 ?_
        refine lv_iconst (v := (nI 1)) hx hb dX6_closes_42 (by decide) ?_
        refine k_isub (a := (nD S)) (b := 1) hx hb (by omega) dX6_closes_43 ?_
        refine va_put (D := G) (ci := 6) (v := .int (nI ((nD S) - 1))) (ty := .int) (C := RX6) (T := TX6) (N := 25) hx hb hts hin6 tyX6 tyX6_ok nmX6 hown hK hP hD hS 0 rfl rfl 14 (by decide) (hts (Cond.fieldLink RX6 85 "IndentRulesModel" "deep" "I") (List.mem_of_getElem? (i := 3) rfl)) (fun _ h9 => h9) rfl (by decide +kernel) rfl rfl (Nat.le_of_ble_eq_true rfl) dX6_closes_44 (fun H locs hP hD hS => ?_)
        have hP : va_P G vwCl (rW E a ln (nO S) ((nD S) - 1) (nL S) row seen sty lineO tokO atO baseO kindO f36 colO openO strayO stk bys was gsd cellsO sortO kLine kAt kKind) H := hP
        have hD : va_D A (rW E a ln (nO S) ((nD S) - 1) (nL S) row seen sty lineO tokO atO baseO kindO f36 colO openO strayO stk bys was gsd cellsO sortO kLine kAt kKind) := hD
        refine lv_goto (tgt := 60) hx hb dX6_closes_47 (by decide) ?_
        exact W.vret hx hb hr (fun tZ htZ hWZ => ⟨⟨(f36, strayO), rfl, by rw [ef36, hc0]; exact RR_match hRR hwf (by omega) (by rw [← hc0]; exact hq), by show va_P G vwCl _ tZ.heap; rw [htZ, show nD (nClose (if b = 1 then 2 else 4) li S) = nD S - 1 by unfold nClose; rw [if_pos ⟨by omega, by rw [← hc0]; exact hq⟩]]; exact hP⟩, hS.F htZ⟩) hS.2.2 dX6_closes_60
    · have hF : nF S 0 c0 = 2 := kd_1.mp c18
      refine lv_iconst (v := (nI 1)) hx hb dX6_closes_21 (by decide) ?_
      refine lv_goto (tgt := 26) hx hb dX6_closes_22 (by decide) ?_
      refine lv_iload_n hx hb dX6_closes_26 rfl (lv_at hl 3 rfl) ?_
      refine n_icmp_ne (a := 1) (b := b) (tgt := 50) hx hb (by decide) (by omega) dX6_closes_27 (by decide) (fun c27 => ?_) (fun c27 => ?_)
      · have hno : ¬ (0 < nD S ∧ nF S 0 (nF S 6 (nD S - 1)) = (if b = 1 then 2 else 4)) := fun q => by have q2 := q.2; rw [← hc0, hF] at q2; split at q2 <;> omega
        refine lv_aload_n hx hb dX6_closes_50 rfl (lv_at hl 1 rfl) ?_
        refine va_get (D := G) (ci := 6) (v := .ref (a 13)) (C := RX6) (T := TX6) (N := 25) hx hb hts hin6 hown hK hP 0 rfl rfl 13 (by decide) (hts (Cond.fieldLink RX6 43 "IndentRulesModel" "strayOf" "[I") (List.mem_of_getElem? (i := 4) rfl)) (fun _ h9 => h9) rfl dX6_closes_51 ?_
        refine lv_iload_n hx hb dX6_closes_54 rfl (lv_at hl 2 rfl) ?_
        refine lv_dup2_11 hx hb dX6_closes_55 rfl rfl ?_
        refine k_iald (D := G) (tys := TYS E) (j := li) (f := strayO) (n := 20) hx hb hK hP 12 0 rfl rfl (by omega) (by decide) dX6_closes_56 ?_
        rw [(hRR.2.1 li hlm).2.2]
        refine lv_iconst (v := (nI 1)) hx hb dX6_closes_57 (by decide) ?_
        refine k_iadd (a := (nF S 7 li)) (b := 1) hx hb dX6_closes_58 ?_
        refine k_iast (D := G) (tys := TYS E) (j := li) (x := (nI (nF S 7 li + 1))) (f := strayO) (n := 20) hx hb hK hP hD hS 12 0 rfl rfl (by omega) (by decide) dX6_closes_59 (fun H locs hP hD hS => ?_)
        have hP : va_P G vwCl (rW E a ln (nO S) (nD S) (nL S) row seen sty lineO tokO atO baseO kindO partO colO openO (upd strayO li (nI (nF S 7 li + 1))) stk bys was gsd cellsO sortO kLine kAt kKind) H := hP
        have hD : va_D A (rW E a ln (nO S) (nD S) (nL S) row seen sty lineO tokO atO baseO kindO partO colO openO (upd strayO li (nI (nF S 7 li + 1))) stk bys was gsd cellsO sortO kLine kAt kKind) := hD
        obtain ⟨f59, ef59⟩ : ∃ z : Nat → Int32, z = upd strayO li (nI (nF S 7 li + 1)) := ⟨_, rfl⟩
        rw [← ef59] at hP hD
        exact W.vret hx hb hr (fun tZ htZ hWZ => ⟨⟨(partO, f59), rfl, by rw [ef59]; exact RR_stray hRR hlm hno, by show va_P G vwCl _ tZ.heap; rw [htZ, show nD (nClose (if b = 1 then 2 else 4) li S) = nD S by unfold nClose; rw [if_neg hno]]; exact hP⟩, hS.F htZ⟩) hS.2.2 dX6_closes_60
      · have hq : nF S 0 c0 = (if b = 1 then 2 else 4) := by rw [if_pos (by omega)]; exact hF
        refine lv_aload_n hx hb dX6_closes_30 rfl (lv_at hl 1 rfl) ?_
        refine va_get (D := G) (ci := 6) (v := .ref (a 10)) (C := RX6) (T := TX6) (N := 25) hx hb hts hin6 hown hK hP 0 rfl rfl 10 (by decide) (hts (Cond.fieldLink RX6 34 "IndentRulesModel" "partnerOf" "[I") (List.mem_of_getElem? (i := 2) rfl)) (fun _ h9 => h9) rfl dX6_closes_31 ?_
        refine lv_iload_n hx hb dX6_closes_34 rfl (lv_at hl 0 rfl) ?_
        refine lv_iload_n hx hb dX6_closes_35 rfl (lv_at hl 2 rfl) ?_
        refine k_iast (D := G) (tys := TYS E) (j := c0) (x := (nI li)) (f := partO) (n := 180) hx hb hK hP hD hS 9 0 rfl rfl (by omega) (by decide) dX6_closes_36 (fun H locs hP hD hS => ?_)
        have hP : va_P G vwCl (rW E a ln (nO S) (nD S) (nL S) row seen sty lineO tokO atO baseO kindO (upd partO c0 (nI li)) colO openO strayO stk bys was gsd cellsO sortO kLine kAt kKind) H := hP
        have hD : va_D A (rW E a ln (nO S) (nD S) (nL S) row seen sty lineO tokO atO baseO kindO (upd partO c0 (nI li)) colO openO strayO stk bys was gsd cellsO sortO kLine kAt kKind) := hD
        obtain ⟨f36, ef36⟩ : ∃ z : Nat → Int32, z = upd partO c0 (nI li) := ⟨_, rfl⟩
        rw [← ef36] at hP hD
        refine lv_aload_n hx hb dX6_closes_37 rfl (lv_at hl 1 rfl) ?_
        refine lv_dup hx hb dX6_closes_38 rfl ?_
        refine va_get (D := G) (ci := 6) (v := .int (nI (nD S))) (C := RX6) (T := TX6) (N := 25) hx hb hts hin6 hown hK hP 0 rfl rfl 14 (by decide) (hts (Cond.fieldLink RX6 85 "IndentRulesModel" "deep" "I") (List.mem_of_getElem? (i := 3) rfl)) (fun _ h9 => h9) rfl dX6_closes_39 ?_
        refine lv_iconst (v := (nI 1)) hx hb dX6_closes_42 (by decide) ?_
        refine k_isub (a := (nD S)) (b := 1) hx hb (by omega) dX6_closes_43 ?_
        refine va_put (D := G) (ci := 6) (v := .int (nI ((nD S) - 1))) (ty := .int) (C := RX6) (T := TX6) (N := 25) hx hb hts hin6 tyX6 tyX6_ok nmX6 hown hK hP hD hS 0 rfl rfl 14 (by decide) (hts (Cond.fieldLink RX6 85 "IndentRulesModel" "deep" "I") (List.mem_of_getElem? (i := 3) rfl)) (fun _ h9 => h9) rfl (by decide +kernel) rfl rfl (Nat.le_of_ble_eq_true rfl) dX6_closes_44 (fun H locs hP hD hS => ?_)
        have hP : va_P G vwCl (rW E a ln (nO S) ((nD S) - 1) (nL S) row seen sty lineO tokO atO baseO kindO f36 colO openO strayO stk bys was gsd cellsO sortO kLine kAt kKind) H := hP
        have hD : va_D A (rW E a ln (nO S) ((nD S) - 1) (nL S) row seen sty lineO tokO atO baseO kindO f36 colO openO strayO stk bys was gsd cellsO sortO kLine kAt kKind) := hD
        refine lv_goto (tgt := 60) hx hb dX6_closes_47 (by decide) ?_
        exact W.vret hx hb hr (fun tZ htZ hWZ => ⟨⟨(f36, strayO), rfl, by rw [ef36, hc0]; exact RR_match hRR hwf (by omega) (by rw [← hc0]; exact hq), by show va_P G vwCl _ tZ.heap; rw [htZ, show nD (nClose (if b = 1 then 2 else 4) li S) = nD S - 1 by unfold nClose; rw [if_pos ⟨by omega, by rw [← hc0]; exact hq⟩]]; exact hP⟩, hS.F htZ⟩) hS.2.2 dX6_closes_60
end
