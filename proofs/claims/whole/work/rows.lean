section
-- ===== PART A: goes FIRST, ahead of the names: the tables' words, and 'selects' of the private methods out of them =====
/-- a private method of a class that the tables say can be made, by its rows of tables_1 -/
def lw_okq (q : MethodName × Nat) : Prop := (q.1.cls ≠ "java/lang/invoke/MethodHandle" ∧ q.1.cls ≠ "java/lang/invoke/VarHandle") ∧ Cond.instantiable q.1.cls q.2 ∈ tables_1 ∧ Cond.privateMethod q.1 ∈ tables_1 ∧ Cond.instanceMethod q.1 ∈ tables_1
theorem lw_p0 : lw_okq (⟨"TitleDesk$Scanner", "takeWord", "()V"⟩, 6) := ⟨⟨by decide +kernel, by decide +kernel⟩, List.mem_of_getElem? (i := 111) (by decide +kernel), List.mem_of_getElem? (i := 352) (by decide +kernel), List.mem_of_getElem? (i := 353) (by decide +kernel)⟩
theorem lw_p1 : lw_okq (⟨"TitleDesk$Scanner", "takeNumber", "()V"⟩, 6) := ⟨⟨by decide +kernel, by decide +kernel⟩, List.mem_of_getElem? (i := 111) (by decide +kernel), List.mem_of_getElem? (i := 356) (by decide +kernel), List.mem_of_getElem? (i := 357) (by decide +kernel)⟩
theorem lw_p2 : lw_okq (⟨"TitleDesk$Scanner", "takeString", "()V"⟩, 6) := ⟨⟨by decide +kernel, by decide +kernel⟩, List.mem_of_getElem? (i := 111) (by decide +kernel), List.mem_of_getElem? (i := 361) (by decide +kernel), List.mem_of_getElem? (i := 362) (by decide +kernel)⟩
theorem lw_p3 : lw_okq (⟨"TitleDesk$Scanner", "takeSingle", "(I)V"⟩, 6) := ⟨⟨by decide +kernel, by decide +kernel⟩, List.mem_of_getElem? (i := 111) (by decide +kernel), List.mem_of_getElem? (i := 365) (by decide +kernel), List.mem_of_getElem? (i := 366) (by decide +kernel)⟩
theorem lw_p4 : lw_okq (⟨"TitleDesk$Reader", "readTongues", "()Z"⟩, 6) := ⟨⟨by decide +kernel, by decide +kernel⟩, List.mem_of_getElem? (i := 105) (by decide +kernel), List.mem_of_getElem? (i := 369) (by decide +kernel), List.mem_of_getElem? (i := 370) (by decide +kernel)⟩
theorem lw_p5 : lw_okq (⟨"TitleDesk$Reader", "fail", "(II)Z"⟩, 6) := ⟨⟨by decide +kernel, by decide +kernel⟩, List.mem_of_getElem? (i := 105) (by decide +kernel), List.mem_of_getElem? (i := 426) (by decide +kernel), List.mem_of_getElem? (i := 427) (by decide +kernel)⟩
theorem lw_p6 : lw_okq (⟨"TitleDesk$Reader", "readNumber", "(II)Z"⟩, 6) := ⟨⟨by decide +kernel, by decide +kernel⟩, List.mem_of_getElem? (i := 105) (by decide +kernel), List.mem_of_getElem? (i := 431) (by decide +kernel), List.mem_of_getElem? (i := 432) (by decide +kernel)⟩
theorem lw_p7 : lw_okq (⟨"TitleDesk$Reader", "readSemicolon", "()Z"⟩, 6) := ⟨⟨by decide +kernel, by decide +kernel⟩, List.mem_of_getElem? (i := 105) (by decide +kernel), List.mem_of_getElem? (i := 435) (by decide +kernel), List.mem_of_getElem? (i := 436) (by decide +kernel)⟩
theorem lw_p8 : lw_okq (⟨"TitleDesk$Reader", "readSettings", "(I)Z"⟩, 6) := ⟨⟨by decide +kernel, by decide +kernel⟩, List.mem_of_getElem? (i := 105) (by decide +kernel), List.mem_of_getElem? (i := 439) (by decide +kernel), List.mem_of_getElem? (i := 440) (by decide +kernel)⟩
theorem lw_p9 : lw_okq (⟨"TitleDesk$Reader", "readTongueSetting", "([III)Z"⟩, 6) := ⟨⟨by decide +kernel, by decide +kernel⟩, List.mem_of_getElem? (i := 105) (by decide +kernel), List.mem_of_getElem? (i := 444) (by decide +kernel), List.mem_of_getElem? (i := 445) (by decide +kernel)⟩
theorem lw_p10 : lw_okq (⟨"TitleDesk$Reader", "readBeats", "()Z"⟩, 6) := ⟨⟨by decide +kernel, by decide +kernel⟩, List.mem_of_getElem? (i := 105) (by decide +kernel), List.mem_of_getElem? (i := 462) (by decide +kernel), List.mem_of_getElem? (i := 463) (by decide +kernel)⟩
theorem lw_p11 : lw_okq (⟨"TitleDesk$Reader", "readItems", "(I)Z"⟩, 6) := ⟨⟨by decide +kernel, by decide +kernel⟩, List.mem_of_getElem? (i := 105) (by decide +kernel), List.mem_of_getElem? (i := 474) (by decide +kernel), List.mem_of_getElem? (i := 475) (by decide +kernel)⟩
theorem lw_p12 : lw_okq (⟨"TitleDesk$Reader", "readMark", "()Z"⟩, 6) := ⟨⟨by decide +kernel, by decide +kernel⟩, List.mem_of_getElem? (i := 105) (by decide +kernel), List.mem_of_getElem? (i := 479) (by decide +kernel), List.mem_of_getElem? (i := 480) (by decide +kernel)⟩
theorem lw_p13 : lw_okq (⟨"TitleDesk$Script", "barOfMark", "(II)I"⟩, 13) := ⟨⟨by decide +kernel, by decide +kernel⟩, List.mem_of_getElem? (i := 49) (by decide +kernel), List.mem_of_getElem? (i := 491) (by decide +kernel), List.mem_of_getElem? (i := 492) (by decide +kernel)⟩
theorem lw_p14 : lw_okq (⟨"TitleDesk$Reader", "readStrings", "()Z"⟩, 6) := ⟨⟨by decide +kernel, by decide +kernel⟩, List.mem_of_getElem? (i := 105) (by decide +kernel), List.mem_of_getElem? (i := 500) (by decide +kernel), List.mem_of_getElem? (i := 501) (by decide +kernel)⟩
theorem lw_p15 : lw_okq (⟨"TitleDesk$Reader", "readFurtherString", "(I)Z"⟩, 6) := ⟨⟨by decide +kernel, by decide +kernel⟩, List.mem_of_getElem? (i := 105) (by decide +kernel), List.mem_of_getElem? (i := 529) (by decide +kernel), List.mem_of_getElem? (i := 530) (by decide +kernel)⟩
def lw_privs_1 : List (MethodName × Nat) := [(⟨"TitleDesk$Scanner", "takeWord", "()V"⟩, 6), (⟨"TitleDesk$Scanner", "takeNumber", "()V"⟩, 6), (⟨"TitleDesk$Scanner", "takeString", "()V"⟩, 6), (⟨"TitleDesk$Scanner", "takeSingle", "(I)V"⟩, 6), (⟨"TitleDesk$Reader", "readTongues", "()Z"⟩, 6), (⟨"TitleDesk$Reader", "fail", "(II)Z"⟩, 6), (⟨"TitleDesk$Reader", "readNumber", "(II)Z"⟩, 6), (⟨"TitleDesk$Reader", "readSemicolon", "()Z"⟩, 6), (⟨"TitleDesk$Reader", "readSettings", "(I)Z"⟩, 6), (⟨"TitleDesk$Reader", "readTongueSetting", "([III)Z"⟩, 6), (⟨"TitleDesk$Reader", "readBeats", "()Z"⟩, 6), (⟨"TitleDesk$Reader", "readItems", "(I)Z"⟩, 6), (⟨"TitleDesk$Reader", "readMark", "()Z"⟩, 6), (⟨"TitleDesk$Script", "barOfMark", "(II)I"⟩, 13), (⟨"TitleDesk$Reader", "readStrings", "()Z"⟩, 6), (⟨"TitleDesk$Reader", "readFurtherString", "(I)Z"⟩, 6)]
theorem lw_r1 : ∀ q ∈ lw_privs_1, lw_okq q := List.forall_mem_cons.mpr ⟨lw_p0, List.forall_mem_cons.mpr ⟨lw_p1, List.forall_mem_cons.mpr ⟨lw_p2, List.forall_mem_cons.mpr ⟨lw_p3, List.forall_mem_cons.mpr ⟨lw_p4, List.forall_mem_cons.mpr ⟨lw_p5, List.forall_mem_cons.mpr ⟨lw_p6, List.forall_mem_cons.mpr ⟨lw_p7, List.forall_mem_cons.mpr ⟨lw_p8, List.forall_mem_cons.mpr ⟨lw_p9, List.forall_mem_cons.mpr ⟨lw_p10, List.forall_mem_cons.mpr ⟨lw_p11, List.forall_mem_cons.mpr ⟨lw_p12, List.forall_mem_cons.mpr ⟨lw_p13, List.forall_mem_cons.mpr ⟨lw_p14, List.forall_mem_cons.mpr ⟨lw_p15, fun _ h => absurd h List.not_mem_nil⟩⟩⟩⟩⟩⟩⟩⟩⟩⟩⟩⟩⟩⟩⟩⟩
theorem lw_p16 : lw_okq (⟨"TitleDesk$Reader", "stringsFit", "()Z"⟩, 6) := ⟨⟨by decide +kernel, by decide +kernel⟩, List.mem_of_getElem? (i := 105) (by decide +kernel), List.mem_of_getElem? (i := 535) (by decide +kernel), List.mem_of_getElem? (i := 536) (by decide +kernel)⟩
theorem lw_p17 : lw_okq (⟨"TitleDesk$Reader", "readCut", "()Z"⟩, 6) := ⟨⟨by decide +kernel, by decide +kernel⟩, List.mem_of_getElem? (i := 105) (by decide +kernel), List.mem_of_getElem? (i := 560) (by decide +kernel), List.mem_of_getElem? (i := 561) (by decide +kernel)⟩
theorem lw_p18 : lw_okq (⟨"TitleDesk", "takeDraft", "()V"⟩, 7) := ⟨⟨by decide +kernel, by decide +kernel⟩, List.mem_of_getElem? (i := 25) (by decide +kernel), List.mem_of_getElem? (i := 576) (by decide +kernel), List.mem_of_getElem? (i := 577) (by decide +kernel)⟩
theorem lw_p19 : lw_okq (⟨"TitleDesk$Board", "isThere", "(II)Z"⟩, 5) := ⟨⟨by decide +kernel, by decide +kernel⟩, List.mem_of_getElem? (i := 161) (by decide +kernel), List.mem_of_getElem? (i := 588) (by decide +kernel), List.mem_of_getElem? (i := 589) (by decide +kernel)⟩
theorem lw_p20 : lw_okq (⟨"TitleDesk$Breaker", "findWords", "(LTitleDesk$Wording;)V"⟩, 9) := ⟨⟨by decide +kernel, by decide +kernel⟩, List.mem_of_getElem? (i := 169) (by decide +kernel), List.mem_of_getElem? (i := 612) (by decide +kernel), List.mem_of_getElem? (i := 613) (by decide +kernel)⟩
theorem lw_p21 : lw_okq (⟨"TitleDesk$Breaker", "fillRows", "()V"⟩, 9) := ⟨⟨by decide +kernel, by decide +kernel⟩, List.mem_of_getElem? (i := 169) (by decide +kernel), List.mem_of_getElem? (i := 616) (by decide +kernel), List.mem_of_getElem? (i := 617) (by decide +kernel)⟩
theorem lw_p22 : lw_okq (⟨"TitleDesk$Breaker", "forgetPrices", "()V"⟩, 9) := ⟨⟨by decide +kernel, by decide +kernel⟩, List.mem_of_getElem? (i := 169) (by decide +kernel), List.mem_of_getElem? (i := 621) (by decide +kernel), List.mem_of_getElem? (i := 622) (by decide +kernel)⟩
theorem lw_p23 : lw_okq (⟨"TitleDesk$Breaker", "priceWays", "()V"⟩, 9) := ⟨⟨by decide +kernel, by decide +kernel⟩, List.mem_of_getElem? (i := 169) (by decide +kernel), List.mem_of_getElem? (i := 626) (by decide +kernel), List.mem_of_getElem? (i := 627) (by decide +kernel)⟩
theorem lw_p24 : lw_okq (⟨"TitleDesk$Breaker", "leastPrice", "(II)I"⟩, 9) := ⟨⟨by decide +kernel, by decide +kernel⟩, List.mem_of_getElem? (i := 169) (by decide +kernel), List.mem_of_getElem? (i := 630) (by decide +kernel), List.mem_of_getElem? (i := 631) (by decide +kernel)⟩
theorem lw_p25 : lw_okq (⟨"TitleDesk$Breaker", "priceWith", "(III)I"⟩, 9) := ⟨⟨by decide +kernel, by decide +kernel⟩, List.mem_of_getElem? (i := 169) (by decide +kernel), List.mem_of_getElem? (i := 634) (by decide +kernel), List.mem_of_getElem? (i := 635) (by decide +kernel)⟩
theorem lw_p26 : lw_okq (⟨"TitleDesk$Breaker", "writeRows", "(LTitleDesk$Wording;)V"⟩, 9) := ⟨⟨by decide +kernel, by decide +kernel⟩, List.mem_of_getElem? (i := 169) (by decide +kernel), List.mem_of_getElem? (i := 638) (by decide +kernel), List.mem_of_getElem? (i := 639) (by decide +kernel)⟩
theorem lw_p27 : lw_okq (⟨"TitleDesk$Breaker", "longestStop", "(II)I"⟩, 9) := ⟨⟨by decide +kernel, by decide +kernel⟩, List.mem_of_getElem? (i := 169) (by decide +kernel), List.mem_of_getElem? (i := 642) (by decide +kernel), List.mem_of_getElem? (i := 643) (by decide +kernel)⟩
theorem lw_p28 : lw_okq (⟨"TitleDesk$Evening", "behindCuts", "(I)I"⟩, 6) := ⟨⟨by decide +kernel, by decide +kernel⟩, List.mem_of_getElem? (i := 256) (by decide +kernel), List.mem_of_getElem? (i := 679) (by decide +kernel), List.mem_of_getElem? (i := 680) (by decide +kernel)⟩
theorem lw_p29 : lw_okq (⟨"TitleDesk$Evening", "goTo", "(I)V"⟩, 6) := ⟨⟨by decide +kernel, by decide +kernel⟩, List.mem_of_getElem? (i := 256) (by decide +kernel), List.mem_of_getElem? (i := 728) (by decide +kernel), List.mem_of_getElem? (i := 729) (by decide +kernel)⟩
theorem lw_p30 : lw_okq (⟨"TitleDesk$Wording", "rowLength", "(I)I"⟩, 7) := ⟨⟨by decide +kernel, by decide +kernel⟩, List.mem_of_getElem? (i := 204) (by decide +kernel), List.mem_of_getElem? (i := 749) (by decide +kernel), List.mem_of_getElem? (i := 750) (by decide +kernel)⟩
theorem lw_p31 : lw_okq (⟨"TitleDesk$Wording", "rowBegin", "(I)I"⟩, 7) := ⟨⟨by decide +kernel, by decide +kernel⟩, List.mem_of_getElem? (i := 204) (by decide +kernel), List.mem_of_getElem? (i := 753) (by decide +kernel), List.mem_of_getElem? (i := 754) (by decide +kernel)⟩
def lw_privs_2 : List (MethodName × Nat) := [(⟨"TitleDesk$Reader", "stringsFit", "()Z"⟩, 6), (⟨"TitleDesk$Reader", "readCut", "()Z"⟩, 6), (⟨"TitleDesk", "takeDraft", "()V"⟩, 7), (⟨"TitleDesk$Board", "isThere", "(II)Z"⟩, 5), (⟨"TitleDesk$Breaker", "findWords", "(LTitleDesk$Wording;)V"⟩, 9), (⟨"TitleDesk$Breaker", "fillRows", "()V"⟩, 9), (⟨"TitleDesk$Breaker", "forgetPrices", "()V"⟩, 9), (⟨"TitleDesk$Breaker", "priceWays", "()V"⟩, 9), (⟨"TitleDesk$Breaker", "leastPrice", "(II)I"⟩, 9), (⟨"TitleDesk$Breaker", "priceWith", "(III)I"⟩, 9), (⟨"TitleDesk$Breaker", "writeRows", "(LTitleDesk$Wording;)V"⟩, 9), (⟨"TitleDesk$Breaker", "longestStop", "(II)I"⟩, 9), (⟨"TitleDesk$Evening", "behindCuts", "(I)I"⟩, 6), (⟨"TitleDesk$Evening", "goTo", "(I)V"⟩, 6), (⟨"TitleDesk$Wording", "rowLength", "(I)I"⟩, 7), (⟨"TitleDesk$Wording", "rowBegin", "(I)I"⟩, 7)]
theorem lw_r2 : ∀ q ∈ lw_privs_2, lw_okq q := List.forall_mem_cons.mpr ⟨lw_p16, List.forall_mem_cons.mpr ⟨lw_p17, List.forall_mem_cons.mpr ⟨lw_p18, List.forall_mem_cons.mpr ⟨lw_p19, List.forall_mem_cons.mpr ⟨lw_p20, List.forall_mem_cons.mpr ⟨lw_p21, List.forall_mem_cons.mpr ⟨lw_p22, List.forall_mem_cons.mpr ⟨lw_p23, List.forall_mem_cons.mpr ⟨lw_p24, List.forall_mem_cons.mpr ⟨lw_p25, List.forall_mem_cons.mpr ⟨lw_p26, List.forall_mem_cons.mpr ⟨lw_p27, List.forall_mem_cons.mpr ⟨lw_p28, List.forall_mem_cons.mpr ⟨lw_p29, List.forall_mem_cons.mpr ⟨lw_p30, List.forall_mem_cons.mpr ⟨lw_p31, fun _ h => absurd h List.not_mem_nil⟩⟩⟩⟩⟩⟩⟩⟩⟩⟩⟩⟩⟩⟩⟩⟩
theorem lw_p32 : lw_okq (⟨"TitleDesk", "shownStep", "(I)I"⟩, 7) := ⟨⟨by decide +kernel, by decide +kernel⟩, List.mem_of_getElem? (i := 25) (by decide +kernel), List.mem_of_getElem? (i := 775) (by decide +kernel), List.mem_of_getElem? (i := 776) (by decide +kernel)⟩
theorem lw_p33 : lw_okq (⟨"TitleDesk$Evening", "nextCut", "(I)I"⟩, 6) := ⟨⟨by decide +kernel, by decide +kernel⟩, List.mem_of_getElem? (i := 256) (by decide +kernel), List.mem_of_getElem? (i := 785) (by decide +kernel), List.mem_of_getElem? (i := 786) (by decide +kernel)⟩
theorem lw_p34 : lw_okq (⟨"TitleDesk", "countedBarsOf", "(I)I"⟩, 7) := ⟨⟨by decide +kernel, by decide +kernel⟩, List.mem_of_getElem? (i := 25) (by decide +kernel), List.mem_of_getElem? (i := 793) (by decide +kernel), List.mem_of_getElem? (i := 794) (by decide +kernel)⟩
theorem lw_p35 : lw_okq (⟨"TitleDesk", "shownPage", "(III)I"⟩, 7) := ⟨⟨by decide +kernel, by decide +kernel⟩, List.mem_of_getElem? (i := 25) (by decide +kernel), List.mem_of_getElem? (i := 810) (by decide +kernel), List.mem_of_getElem? (i := 811) (by decide +kernel)⟩
theorem lw_p36 : lw_okq (⟨"java/lang/Throwable", "fillInStackTrace", "(I)Ljava/lang/Throwable;"⟩, 6) := ⟨⟨by decide +kernel, by decide +kernel⟩, List.mem_of_getElem? (i := 881) (by decide +kernel), List.mem_of_getElem? (i := 879) (by decide +kernel), List.mem_of_getElem? (i := 880) (by decide +kernel)⟩
theorem lw_p37 : lw_okq (⟨"TitleDesk", "refuseUnknown", "(II)V"⟩, 7) := ⟨⟨by decide +kernel, by decide +kernel⟩, List.mem_of_getElem? (i := 25) (by decide +kernel), List.mem_of_getElem? (i := 951) (by decide +kernel), List.mem_of_getElem? (i := 952) (by decide +kernel)⟩
theorem lw_p38 : lw_okq (⟨"TitleDeskModel", "reads", "()Z"⟩, 56) := ⟨⟨by decide +kernel, by decide +kernel⟩, List.mem_of_getElem? (i := 963) (by decide +kernel), List.mem_of_getElem? (i := 1151) (by decide +kernel), List.mem_of_getElem? (i := 1152) (by decide +kernel)⟩
theorem lw_p39 : lw_okq (⟨"TitleDeskModel", "take", "()V"⟩, 56) := ⟨⟨by decide +kernel, by decide +kernel⟩, List.mem_of_getElem? (i := 963) (by decide +kernel), List.mem_of_getElem? (i := 1155) (by decide +kernel), List.mem_of_getElem? (i := 1156) (by decide +kernel)⟩
theorem lw_p40 : lw_okq (⟨"TitleDeskModel", "isSmall", "(I)Z"⟩, 56) := ⟨⟨by decide +kernel, by decide +kernel⟩, List.mem_of_getElem? (i := 963) (by decide +kernel), List.mem_of_getElem? (i := 1159) (by decide +kernel), List.mem_of_getElem? (i := 1160) (by decide +kernel)⟩
theorem lw_p41 : lw_okq (⟨"TitleDeskModel", "wordAt", "(II)I"⟩, 56) := ⟨⟨by decide +kernel, by decide +kernel⟩, List.mem_of_getElem? (i := 963) (by decide +kernel), List.mem_of_getElem? (i := 1163) (by decide +kernel), List.mem_of_getElem? (i := 1164) (by decide +kernel)⟩
theorem lw_p42 : lw_okq (⟨"TitleDeskModel", "isDigit", "(I)Z"⟩, 56) := ⟨⟨by decide +kernel, by decide +kernel⟩, List.mem_of_getElem? (i := 963) (by decide +kernel), List.mem_of_getElem? (i := 1167) (by decide +kernel), List.mem_of_getElem? (i := 1168) (by decide +kernel)⟩
theorem lw_p43 : lw_okq (⟨"TitleDeskModel", "string", "()V"⟩, 56) := ⟨⟨by decide +kernel, by decide +kernel⟩, List.mem_of_getElem? (i := 963) (by decide +kernel), List.mem_of_getElem? (i := 1172) (by decide +kernel), List.mem_of_getElem? (i := 1173) (by decide +kernel)⟩
theorem lw_p44 : lw_okq (⟨"TitleDeskModel", "wrong", "(II)Z"⟩, 56) := ⟨⟨by decide +kernel, by decide +kernel⟩, List.mem_of_getElem? (i := 963) (by decide +kernel), List.mem_of_getElem? (i := 1176) (by decide +kernel), List.mem_of_getElem? (i := 1177) (by decide +kernel)⟩
theorem lw_p45 : lw_okq (⟨"TitleDeskModel", "number", "(II)Z"⟩, 56) := ⟨⟨by decide +kernel, by decide +kernel⟩, List.mem_of_getElem? (i := 963) (by decide +kernel), List.mem_of_getElem? (i := 1180) (by decide +kernel), List.mem_of_getElem? (i := 1181) (by decide +kernel)⟩
theorem lw_p46 : lw_okq (⟨"TitleDeskModel", "semi", "()Z"⟩, 56) := ⟨⟨by decide +kernel, by decide +kernel⟩, List.mem_of_getElem? (i := 963) (by decide +kernel), List.mem_of_getElem? (i := 1184) (by decide +kernel), List.mem_of_getElem? (i := 1185) (by decide +kernel)⟩
theorem lw_p47 : lw_okq (⟨"TitleDeskModel", "setting", "()Z"⟩, 56) := ⟨⟨by decide +kernel, by decide +kernel⟩, List.mem_of_getElem? (i := 963) (by decide +kernel), List.mem_of_getElem? (i := 1188) (by decide +kernel), List.mem_of_getElem? (i := 1189) (by decide +kernel)⟩
def lw_privs_3 : List (MethodName × Nat) := [(⟨"TitleDesk", "shownStep", "(I)I"⟩, 7), (⟨"TitleDesk$Evening", "nextCut", "(I)I"⟩, 6), (⟨"TitleDesk", "countedBarsOf", "(I)I"⟩, 7), (⟨"TitleDesk", "shownPage", "(III)I"⟩, 7), (⟨"java/lang/Throwable", "fillInStackTrace", "(I)Ljava/lang/Throwable;"⟩, 6), (⟨"TitleDesk", "refuseUnknown", "(II)V"⟩, 7), (⟨"TitleDeskModel", "reads", "()Z"⟩, 56), (⟨"TitleDeskModel", "take", "()V"⟩, 56), (⟨"TitleDeskModel", "isSmall", "(I)Z"⟩, 56), (⟨"TitleDeskModel", "wordAt", "(II)I"⟩, 56), (⟨"TitleDeskModel", "isDigit", "(I)Z"⟩, 56), (⟨"TitleDeskModel", "string", "()V"⟩, 56), (⟨"TitleDeskModel", "wrong", "(II)Z"⟩, 56), (⟨"TitleDeskModel", "number", "(II)Z"⟩, 56), (⟨"TitleDeskModel", "semi", "()Z"⟩, 56), (⟨"TitleDeskModel", "setting", "()Z"⟩, 56)]
theorem lw_r3 : ∀ q ∈ lw_privs_3, lw_okq q := List.forall_mem_cons.mpr ⟨lw_p32, List.forall_mem_cons.mpr ⟨lw_p33, List.forall_mem_cons.mpr ⟨lw_p34, List.forall_mem_cons.mpr ⟨lw_p35, List.forall_mem_cons.mpr ⟨lw_p36, List.forall_mem_cons.mpr ⟨lw_p37, List.forall_mem_cons.mpr ⟨lw_p38, List.forall_mem_cons.mpr ⟨lw_p39, List.forall_mem_cons.mpr ⟨lw_p40, List.forall_mem_cons.mpr ⟨lw_p41, List.forall_mem_cons.mpr ⟨lw_p42, List.forall_mem_cons.mpr ⟨lw_p43, List.forall_mem_cons.mpr ⟨lw_p44, List.forall_mem_cons.mpr ⟨lw_p45, List.forall_mem_cons.mpr ⟨lw_p46, List.forall_mem_cons.mpr ⟨lw_p47, fun _ h => absurd h List.not_mem_nil⟩⟩⟩⟩⟩⟩⟩⟩⟩⟩⟩⟩⟩⟩⟩⟩
theorem lw_p48 : lw_okq (⟨"TitleDeskModel", "item", "()Z"⟩, 56) := ⟨⟨by decide +kernel, by decide +kernel⟩, List.mem_of_getElem? (i := 963) (by decide +kernel), List.mem_of_getElem? (i := 1192) (by decide +kernel), List.mem_of_getElem? (i := 1193) (by decide +kernel)⟩
theorem lw_p49 : lw_okq (⟨"TitleDeskModel", "cutItem", "()Z"⟩, 56) := ⟨⟨by decide +kernel, by decide +kernel⟩, List.mem_of_getElem? (i := 963) (by decide +kernel), List.mem_of_getElem? (i := 1196) (by decide +kernel), List.mem_of_getElem? (i := 1197) (by decide +kernel)⟩
theorem lw_p50 : lw_okq (⟨"TitleDeskModel", "title", "()Z"⟩, 56) := ⟨⟨by decide +kernel, by decide +kernel⟩, List.mem_of_getElem? (i := 963) (by decide +kernel), List.mem_of_getElem? (i := 1200) (by decide +kernel), List.mem_of_getElem? (i := 1201) (by decide +kernel)⟩
theorem lw_p51 : lw_okq (⟨"TitleDeskModel", "bar", "()Z"⟩, 56) := ⟨⟨by decide +kernel, by decide +kernel⟩, List.mem_of_getElem? (i := 963) (by decide +kernel), List.mem_of_getElem? (i := 1204) (by decide +kernel), List.mem_of_getElem? (i := 1205) (by decide +kernel)⟩
theorem lw_p52 : lw_okq (⟨"TitleDeskModel", "areWords", "(II)Z"⟩, 56) := ⟨⟨by decide +kernel, by decide +kernel⟩, List.mem_of_getElem? (i := 963) (by decide +kernel), List.mem_of_getElem? (i := 1208) (by decide +kernel), List.mem_of_getElem? (i := 1209) (by decide +kernel)⟩
theorem lw_p53 : lw_okq (⟨"TitleDeskModel", "lay", "(II)Z"⟩, 56) := ⟨⟨by decide +kernel, by decide +kernel⟩, List.mem_of_getElem? (i := 963) (by decide +kernel), List.mem_of_getElem? (i := 1212) (by decide +kernel), List.mem_of_getElem? (i := 1213) (by decide +kernel)⟩
theorem lw_p54 : lw_okq (⟨"TitleDeskModel", "cutWords", "(I)V"⟩, 56) := ⟨⟨by decide +kernel, by decide +kernel⟩, List.mem_of_getElem? (i := 963) (by decide +kernel), List.mem_of_getElem? (i := 1216) (by decide +kernel), List.mem_of_getElem? (i := 1217) (by decide +kernel)⟩
theorem lw_p55 : lw_okq (⟨"TitleDeskModel", "fits", "(II)I"⟩, 56) := ⟨⟨by decide +kernel, by decide +kernel⟩, List.mem_of_getElem? (i := 963) (by decide +kernel), List.mem_of_getElem? (i := 1220) (by decide +kernel), List.mem_of_getElem? (i := 1221) (by decide +kernel)⟩
theorem lw_p56 : lw_okq (⟨"TitleDeskModel", "rowLength", "(II)I"⟩, 56) := ⟨⟨by decide +kernel, by decide +kernel⟩, List.mem_of_getElem? (i := 963) (by decide +kernel), List.mem_of_getElem? (i := 1224) (by decide +kernel), List.mem_of_getElem? (i := 1225) (by decide +kernel)⟩
theorem lw_p57 : lw_okq (⟨"TitleDeskModel", "best", "(III)I"⟩, 56) := ⟨⟨by decide +kernel, by decide +kernel⟩, List.mem_of_getElem? (i := 963) (by decide +kernel), List.mem_of_getElem? (i := 1229) (by decide +kernel), List.mem_of_getElem? (i := 1230) (by decide +kernel)⟩
theorem lw_p58 : lw_okq (⟨"TitleDeskModel", "paid", "(III)I"⟩, 56) := ⟨⟨by decide +kernel, by decide +kernel⟩, List.mem_of_getElem? (i := 963) (by decide +kernel), List.mem_of_getElem? (i := 1233) (by decide +kernel), List.mem_of_getElem? (i := 1234) (by decide +kernel)⟩
theorem lw_p59 : lw_okq (⟨"TitleDeskModel", "opens", "()V"⟩, 56) := ⟨⟨by decide +kernel, by decide +kernel⟩, List.mem_of_getElem? (i := 963) (by decide +kernel), List.mem_of_getElem? (i := 1237) (by decide +kernel), List.mem_of_getElem? (i := 1238) (by decide +kernel)⟩
theorem lw_p60 : lw_okq (⟨"TitleDeskModel", "goesOn", "()V"⟩, 56) := ⟨⟨by decide +kernel, by decide +kernel⟩, List.mem_of_getElem? (i := 963) (by decide +kernel), List.mem_of_getElem? (i := 1253) (by decide +kernel), List.mem_of_getElem? (i := 1254) (by decide +kernel)⟩
theorem lw_p61 : lw_okq (⟨"TitleDeskModel", "isCut", "(I)Z"⟩, 56) := ⟨⟨by decide +kernel, by decide +kernel⟩, List.mem_of_getElem? (i := 963) (by decide +kernel), List.mem_of_getElem? (i := 1257) (by decide +kernel), List.mem_of_getElem? (i := 1258) (by decide +kernel)⟩
theorem lw_p62 : lw_okq (⟨"TitleDeskModel", "isTitle", "(I)Z"⟩, 56) := ⟨⟨by decide +kernel, by decide +kernel⟩, List.mem_of_getElem? (i := 963) (by decide +kernel), List.mem_of_getElem? (i := 1265) (by decide +kernel), List.mem_of_getElem? (i := 1266) (by decide +kernel)⟩
theorem lw_p63 : lw_okq (⟨"TitleDeskModel", "isTongue", "(I)Z"⟩, 56) := ⟨⟨by decide +kernel, by decide +kernel⟩, List.mem_of_getElem? (i := 963) (by decide +kernel), List.mem_of_getElem? (i := 1269) (by decide +kernel), List.mem_of_getElem? (i := 1270) (by decide +kernel)⟩
def lw_privs_4 : List (MethodName × Nat) := [(⟨"TitleDeskModel", "item", "()Z"⟩, 56), (⟨"TitleDeskModel", "cutItem", "()Z"⟩, 56), (⟨"TitleDeskModel", "title", "()Z"⟩, 56), (⟨"TitleDeskModel", "bar", "()Z"⟩, 56), (⟨"TitleDeskModel", "areWords", "(II)Z"⟩, 56), (⟨"TitleDeskModel", "lay", "(II)Z"⟩, 56), (⟨"TitleDeskModel", "cutWords", "(I)V"⟩, 56), (⟨"TitleDeskModel", "fits", "(II)I"⟩, 56), (⟨"TitleDeskModel", "rowLength", "(II)I"⟩, 56), (⟨"TitleDeskModel", "best", "(III)I"⟩, 56), (⟨"TitleDeskModel", "paid", "(III)I"⟩, 56), (⟨"TitleDeskModel", "opens", "()V"⟩, 56), (⟨"TitleDeskModel", "goesOn", "()V"⟩, 56), (⟨"TitleDeskModel", "isCut", "(I)Z"⟩, 56), (⟨"TitleDeskModel", "isTitle", "(I)Z"⟩, 56), (⟨"TitleDeskModel", "isTongue", "(I)Z"⟩, 56)]
theorem lw_r4 : ∀ q ∈ lw_privs_4, lw_okq q := List.forall_mem_cons.mpr ⟨lw_p48, List.forall_mem_cons.mpr ⟨lw_p49, List.forall_mem_cons.mpr ⟨lw_p50, List.forall_mem_cons.mpr ⟨lw_p51, List.forall_mem_cons.mpr ⟨lw_p52, List.forall_mem_cons.mpr ⟨lw_p53, List.forall_mem_cons.mpr ⟨lw_p54, List.forall_mem_cons.mpr ⟨lw_p55, List.forall_mem_cons.mpr ⟨lw_p56, List.forall_mem_cons.mpr ⟨lw_p57, List.forall_mem_cons.mpr ⟨lw_p58, List.forall_mem_cons.mpr ⟨lw_p59, List.forall_mem_cons.mpr ⟨lw_p60, List.forall_mem_cons.mpr ⟨lw_p61, List.forall_mem_cons.mpr ⟨lw_p62, List.forall_mem_cons.mpr ⟨lw_p63, fun _ h => absurd h List.not_mem_nil⟩⟩⟩⟩⟩⟩⟩⟩⟩⟩⟩⟩⟩⟩⟩⟩
theorem lw_p64 : lw_okq (⟨"TitleDeskModel", "fails", "(I)I"⟩, 56) := ⟨⟨by decide +kernel, by decide +kernel⟩, List.mem_of_getElem? (i := 963) (by decide +kernel), List.mem_of_getElem? (i := 1285) (by decide +kernel), List.mem_of_getElem? (i := 1286) (by decide +kernel)⟩
theorem lw_p65 : lw_okq (⟨"TitleDeskModel", "steps", "(I)I"⟩, 56) := ⟨⟨by decide +kernel, by decide +kernel⟩, List.mem_of_getElem? (i := 963) (by decide +kernel), List.mem_of_getElem? (i := 1289) (by decide +kernel), List.mem_of_getElem? (i := 1290) (by decide +kernel)⟩
theorem lw_p66 : lw_okq (⟨"TitleDeskModel", "layTongue", "(II)V"⟩, 56) := ⟨⟨by decide +kernel, by decide +kernel⟩, List.mem_of_getElem? (i := 963) (by decide +kernel), List.mem_of_getElem? (i := 1293) (by decide +kernel), List.mem_of_getElem? (i := 1294) (by decide +kernel)⟩
theorem lw_p67 : lw_okq (⟨"TitleDeskModel", "endOf", "(I)I"⟩, 56) := ⟨⟨by decide +kernel, by decide +kernel⟩, List.mem_of_getElem? (i := 963) (by decide +kernel), List.mem_of_getElem? (i := 1297) (by decide +kernel), List.mem_of_getElem? (i := 1298) (by decide +kernel)⟩
theorem lw_p68 : lw_okq (⟨"TitleDeskModel", "bars", "(II)I"⟩, 56) := ⟨⟨by decide +kernel, by decide +kernel⟩, List.mem_of_getElem? (i := 963) (by decide +kernel), List.mem_of_getElem? (i := 1301) (by decide +kernel), List.mem_of_getElem? (i := 1302) (by decide +kernel)⟩
theorem lw_p69 : lw_okq (⟨"TitleDeskModel", "shortOf", "(I)I"⟩, 56) := ⟨⟨by decide +kernel, by decide +kernel⟩, List.mem_of_getElem? (i := 963) (by decide +kernel), List.mem_of_getElem? (i := 1305) (by decide +kernel), List.mem_of_getElem? (i := 1306) (by decide +kernel)⟩
theorem lw_p70 : lw_okq (⟨"TitleDeskModel", "stepAt", "(III)I"⟩, 56) := ⟨⟨by decide +kernel, by decide +kernel⟩, List.mem_of_getElem? (i := 963) (by decide +kernel), List.mem_of_getElem? (i := 1309) (by decide +kernel), List.mem_of_getElem? (i := 1310) (by decide +kernel)⟩
theorem lw_p71 : lw_okq (⟨"TitleDeskModel", "signOf", "(IIIII)I"⟩, 56) := ⟨⟨by decide +kernel, by decide +kernel⟩, List.mem_of_getElem? (i := 963) (by decide +kernel), List.mem_of_getElem? (i := 1325) (by decide +kernel), List.mem_of_getElem? (i := 1326) (by decide +kernel)⟩
theorem lw_p72 : lw_okq (⟨"TitleDeskModel", "standing", "()I"⟩, 56) := ⟨⟨by decide +kernel, by decide +kernel⟩, List.mem_of_getElem? (i := 963) (by decide +kernel), List.mem_of_getElem? (i := 1333) (by decide +kernel), List.mem_of_getElem? (i := 1334) (by decide +kernel)⟩
theorem lw_p73 : lw_okq (⟨"TitleDeskModel", "stepNow", "(I)I"⟩, 56) := ⟨⟨by decide +kernel, by decide +kernel⟩, List.mem_of_getElem? (i := 963) (by decide +kernel), List.mem_of_getElem? (i := 1337) (by decide +kernel), List.mem_of_getElem? (i := 1338) (by decide +kernel)⟩
theorem lw_p74 : lw_okq (⟨"TitleDeskModel", "pageNow", "(II)I"⟩, 56) := ⟨⟨by decide +kernel, by decide +kernel⟩, List.mem_of_getElem? (i := 963) (by decide +kernel), List.mem_of_getElem? (i := 1341) (by decide +kernel), List.mem_of_getElem? (i := 1342) (by decide +kernel)⟩
def lw_privs_5 : List (MethodName × Nat) := [(⟨"TitleDeskModel", "fails", "(I)I"⟩, 56), (⟨"TitleDeskModel", "steps", "(I)I"⟩, 56), (⟨"TitleDeskModel", "layTongue", "(II)V"⟩, 56), (⟨"TitleDeskModel", "endOf", "(I)I"⟩, 56), (⟨"TitleDeskModel", "bars", "(II)I"⟩, 56), (⟨"TitleDeskModel", "shortOf", "(I)I"⟩, 56), (⟨"TitleDeskModel", "stepAt", "(III)I"⟩, 56), (⟨"TitleDeskModel", "signOf", "(IIIII)I"⟩, 56), (⟨"TitleDeskModel", "standing", "()I"⟩, 56), (⟨"TitleDeskModel", "stepNow", "(I)I"⟩, 56), (⟨"TitleDeskModel", "pageNow", "(II)I"⟩, 56)]
theorem lw_r5 : ∀ q ∈ lw_privs_5, lw_okq q := List.forall_mem_cons.mpr ⟨lw_p64, List.forall_mem_cons.mpr ⟨lw_p65, List.forall_mem_cons.mpr ⟨lw_p66, List.forall_mem_cons.mpr ⟨lw_p67, List.forall_mem_cons.mpr ⟨lw_p68, List.forall_mem_cons.mpr ⟨lw_p69, List.forall_mem_cons.mpr ⟨lw_p70, List.forall_mem_cons.mpr ⟨lw_p71, List.forall_mem_cons.mpr ⟨lw_p72, List.forall_mem_cons.mpr ⟨lw_p73, List.forall_mem_cons.mpr ⟨lw_p74, fun _ h => absurd h List.not_mem_nil⟩⟩⟩⟩⟩⟩⟩⟩⟩⟩⟩
def lw_privs : List (MethodName × Nat) := lw_privs_1 ++ (lw_privs_2 ++ (lw_privs_3 ++ (lw_privs_4 ++ (lw_privs_5))))
def lw_tbl : List Cond := k2_sels lw_privs ++ tables_1
theorem lw_privs_ok : ∀ q ∈ lw_privs, lw_okq q := by
  show ∀ q ∈ lw_privs_1 ++ (lw_privs_2 ++ (lw_privs_3 ++ (lw_privs_4 ++ (lw_privs_5)))), lw_okq q
  exact List.forall_mem_append.mpr ⟨lw_r1, List.forall_mem_append.mpr ⟨lw_r2, List.forall_mem_append.mpr ⟨lw_r3, List.forall_mem_append.mpr ⟨lw_r4, lw_r5⟩⟩⟩⟩
end
section
/-! ===== BEGIN words of one list among another's, by their places ===== -/
theorem goodIn_r {big : List Cond} (ws : List Cond) (ps : List Nat) (hp : ws = ps.filterMap (fun i => big[i]?)) (h : ws.all goodWord = true) : GoodIn big ws := by
  intro w hw
  have h1 := List.all_eq_true.mp h w hw
  rw [hp] at hw
  obtain ⟨i, -, hi⟩ := List.mem_filterMap.mp hw
  have hm : w ∈ big := by first | exact List.mem_of_getElem? hi | exact List.getElem?_mem hi
  exact ⟨hm, good_of_word h1⟩
theorem goodIn_app {big a b : List Cond} (ha : GoodIn big a) (hb : GoodIn big b) : GoodIn big (a ++ b) := fun w h => (List.mem_append.mp h).elim (ha w) (hb w)
theorem goodIn_ca {big a b : List Cond} {c : Cond} (ha : GoodIn big (c :: a)) (hb : GoodIn big b) : GoodIn big (c :: (a ++ b)) := fun w h => (List.mem_cons.mp h).elim (fun e => ha w (List.mem_cons.mpr (Or.inl e))) (fun h => (List.mem_append.mp h).elim (fun h => ha w (List.mem_cons.mpr (Or.inr h))) (hb w))
theorem goodIn_sub {big ws : List Cond} (hm : ∀ w ∈ ws, w ∈ big) (h : ws.all goodWord = true) : GoodIn big ws := fun w hw => ⟨hm w hw, good_of_word (List.all_eq_true.mp h w hw)⟩
/-! ===== END ===== -/

/-! ===== BEGIN exceptions that leave a method, and their catching by the caller (launches without stack traces) ===== -/
section VXA
/-! The laws vx_back, vx_callV, vx_callS, vx_callSW, vx_throw0, vx_throwS follow proofs of the library, with one case more: JvmDerived/Free/Laws.lean (Back.of_free), Shelf42/LK1.lean (callV, callS), Shelf/KitTraced.lean (throwNew0V, throwNewS). -/
/-- where a method has thrown q: the class by its name, the cell, what was written, the world -/
def vx_T (XC : String → State → State → Prop) (st : State) (q : Addr) (t : State) (mc ms : Nat) (free : Addr → Prop) : Prop :=
  ∃ (E : String) (ce : Cell) (L : List Loc), XC E st t ∧ t.heap[q]? = some ce ∧ ce.vm = .none ∧ st.vm.findClass E = some ce.cls ∧ st.WarmedH t.vm ∧ st.sameButNew ({ t with vm := st.vm } : State) L mc ms ∧ ∀ z ∈ L, free z.base
def vx_Q (Qc : Array Value → State → Outcome → State → Prop) (XC : String → State → State → Prop) (mc ms : Nat) (free : Addr → Prop) : Array Value → State → Outcome → State → Prop := fun a st o t =>
  (Qc a st o t ∧ ∃ L, FrameEnd st o t L mc ms ∧ ∀ q ∈ L, free q.base) ∨ ∃ q, o = .threw q ∧ vx_T XC st q t mc ms free
/-- a callee that returns or throws -/
def vx_Met (l : Launch) (y : MethodName) (ws : List Cond) (rm : Room) (Pc : Array Value → State → Prop) (Qc : Array Value → State → Outcome → State → Prop) (XC : String → State → State → Prop) (mc ms : Nat) (free : Addr → Prop) : Prop :=
  MetFree l y (headSpec ws rm) Pc (fun _ _ _ _ _ => True) (vx_Q Qc XC mc ms free)
def vx_Post (XC : String → State → State → Prop) (mc ms : Nat) (free : Addr → Prop) : Pt → Array Value → Addr → Pt → Prop := fun A a q B =>
  ∃ (g : JFrame) (mk : MethodId) (t : State) (L : List Loc) (E : String) (ce : Cell), B.U.heap = t.heap ∧ B.U.vm = t.vm ∧ XC E (A.U.calling g mk a) t ∧ t.heap[q]? = some ce ∧ ce.vm = .none ∧ A.U.vm.findClass E = some ce.cls ∧ B.locs = A.locs ++ L ∧ (∀ z ∈ L, free z.base) ∧ B.cells = A.cells + mc ∧ B.slots = A.slots + ms
def vx_Back (l : Launch) (R : Room) (p : Program) (e : Env) (below : List Frame) (s : State) (sargs : Array Value) (y : MethodName) (len W9 : Nat)
    (Pre : Pt → Array Value → Prop) (Post : Pt → Array Value → Option Value → Pt → Prop) (PostX : Pt → Array Value → Addr → Pt → Prop) : Prop :=
  ∀ (m : MethodId) (meth : Method) (c : Code) (A : Pt) (g : JFrame) (ig : Instr) (mk : MethodId) (a : Array Value),
    Stand p l e R s m sargs below meth c A.U A.locs A.cells A.slots → g.method = m → g.locals.size = c.maxLocals → decode c.code g.pc = .ok (ig, len) →
    2 * g.monitorRoom + (g.stack.map fun v => v.category).sum ≤ W9 → A.U.methodNamed? y = some mk → Pre A a →
    (∃ (v : Option Value) (B : Pt), Stand p l e R s m sargs below meth c B.U B.locs B.cells B.slots ∧ Post A a v B ∧
      Steps p.tables e below (doInvoke e (A.U.setTop g) [] mk a).1 (B.U.setTop { g with pc := g.pc + len, stack := v.toList ++ g.stack })) ∨
    (∃ (q : Addr) (B : Pt), Stand p l e R s m sargs below meth c B.U B.locs B.cells B.slots ∧ PostX A a q B ∧
      Steps p.tables e below (doInvoke e (A.U.setTop g) [] mk a).1 ((B.U.setTop g).pushFrame (.throwing q)))
section Payer
variable {l : Launch} {R : Room} {p : Program} {e : Env} {below : List Frame} {s : State} {sargs : Array Value} {y : MethodName} {len W9 : Nat}
theorem vx_back {ws : List Cond} {rm : Room} {Pc : Array Value → State → Prop} {Qc : Array Value → State → Outcome → State → Prop} {XC : String → State → State → Prop} {mc ms : Nat} {free : Addr → Prop} {bytes : ByteArray} {maxL : Nat} {ret : Option FieldType}
    (hM : vx_Met l y ws rm Pc Qc XC mc ms free) (hblind : FrameBlind Pc) (hrc : rm.cells = mc) (hrs : rm.slots = ms)
    (hframes : rm.frames + 1 ≤ R.frames) (hlocals : W9 + (maxL + 11) + rm.locals ≤ R.locals)
    (hws : ∀ w ∈ ws, ∀ a' U, s.WarmedH U.vm → w.before a' U = true) (hcode : Cond.code y bytes maxL ret ∈ ws) (hinit : ∀ a' U, s.WarmedH U.vm → (Cond.initialized y.cls).before a' U = true) :
    vx_Back l R p e below s sargs y len W9 (PreOf R mc ms Pc) (PostOf Qc mc ms free) (vx_Post XC mc ms free) := by
  intro m meth c A g ig mk a X hg hsize hdg hW hn hp
  have h1 : (headSpec ws rm).pre.before a A.U = true := atoms_intro fun w hw => hws w hw _ _ X.warmed
  have h2 : (Cond.code y bytes maxL ret).before a A.U = true := hws _ hcode _ _ X.warmed
  have h3 : (Cond.initialized y.cls).before a A.U = true := hinit _ _ X.warmed
  have h4 : A.cells + (headSpec ws rm).room.cells ≤ R.cells := by rw [show (headSpec ws rm).room.cells = mc from hrc]; exact hp.1
  have h5 : A.slots + (headSpec ws rm).room.slots ≤ R.slots := by rw [show (headSpec ws rm).room.slots = ms from hrs]; exact hp.2.1
  have hPc : Pc a (A.U.calling g mk a) := hblind _ _ _ _ hp.2.2
  obtain ⟨U, Ls, c0, s0⟩ := A
  dsimp only [Pt.U, Pt.locs, Pt.cells, Pt.slots] at h1 h2 h3 h4 h5 X hn hPc ⊢
  obtain ⟨methY, cY, hmY, hcY, -, hlY, -, -, -, -⟩ := Cond.code_spec hn h2
  obtain ⟨kY, hkY, -⟩ := className_of_methodNamed hn
  have hinitY : kY.init = .initialized := Cond.initialized_spec (findClass_of_methodNamed hn) hkY h3
  have h : At U g.method c below := by rw [hg]; exact X.here
  have hlocals9 : W9 + (maxL + 11) + (headSpec ws rm).room.locals ≤ R.locals := hlocals
  have happ : (headSpec ws rm).appliesLoose y e.platform (U.calling g mk a) = true :=
    Spec.appliesLoose_calling (g := g) h hdg hn hkY hinitY
      (X.room_calling (g := g) (R' := (headSpec ws rm).room) hsize hmY hcY hframes (by rw [hlY]; omega) h4 h5) h1
  obtain ⟨mid, hmid⟩ := h.above
  have hfr : (U.setTop g).frames = (.java g :: mid) ++ below := by rw [State.frames_setTop' g h.top, hmid]; rfl
  obtain ⟨o, s₂, hsteps, -, hend, hq⟩ := Steps.callFree hM p X.admits X.cas X.clock (acts := []) hfr happ hPc trivial
  have hq' : vx_Q Qc XC mc ms free a (U.calling g mk a) o s₂ := hq
  rw [State.frames_setTop' g h.top] at hend
  obtain ⟨g₀, hg0⟩ := Option.isSome_iff_exists.mp h.top
  obtain ⟨r, hr⟩ := State.topJava?_eq_some.mp hg0
  have hr' : (({ U with heap := s₂.heap, slotsUsed := s₂.slotsUsed } : State).setVm s₂.vm).frames = .java g₀ :: r := hr
  rcases hq' with ⟨hqc, L, hfe, hL⟩ | ⟨q, rfl, E, ce, L, hx, hce, hcv, hcl, hW₂, hsm, hL⟩
  · obtain ⟨⟨v, rfl⟩, hW₂, e2, q2, q3, q4, q5, q6⟩ := id hfe
    have e3 : s₂ = ({ (U.calling g mk a).setFrames s₂.frames with heap := s₂.heap, slotsUsed := s₂.slotsUsed } : State).setVm s₂.vm := by
      have : s₂ = ({ s₂ with vm := (U.calling g mk a).vm } : State).setVm s₂.vm := rfl
      rw [e2] at this
      exact this
    obtain ⟨c₂, i₂, len₂, hc₂, hd₂, hf₂⟩ := hend
    have hW' : U.WarmedH s₂.vm := hW₂
    have hcc : c₂ = c := by
      have h1 : s₂.code? g.method = U.code? g.method := by
        rw [State.code?_eq, State.code?_eq, hW'.alike.method?]
      exact Option.some.inj (hc₂.symm.trans (h1.trans h.code))
    subst hcc
    have hlen : len₂ = len := by rw [hdg] at hd₂; cases hd₂; rfl
    subst hlen
    have hs₂ : s₂ = (({ U with heap := s₂.heap, slotsUsed := s₂.slotsUsed } : State).setVm s₂.vm).setTop { g with pc := g.pc + len₂, stack := v.toList ++ g.stack } := by
      refine e3.trans ?_
      rw [hf₂, State.calling_eq h.top, State.setFrames_setFrames, State.setTop_of_frames _ hr', hr]
      rfl
    have hsame : U.sameButNew ({ U with heap := s₂.heap, slotsUsed := s₂.slotsUsed } : State) L mc ms := by
      refine ⟨?_, q2, q3, q4, q5, q6⟩
      obtain ⟨t, ht, -⟩ := State.frames_cons hr
      show ({ U with heap := s₂.heap, slotsUsed := s₂.slotsUsed } : State) = { U.setFrames U.frames with heap := s₂.heap, slotsUsed := s₂.slotsUsed }
      rw [State.setFrames_self ht]
    subst hg
    refine Or.inl ⟨v, ⟨(({ U with heap := s₂.heap, slotsUsed := s₂.slotsUsed } : State).setVm s₂.vm), Ls ++ L, c0 + mc, s0 + ms⟩,
      ⟨X.admits, X.cas, X.clock, X.frames, X.room, X.hears, X.method, X.code, (X.here.setHeapUsed s₂.heap s₂.slotsUsed).setVm hW'.alike, X.tail, State.WarmedH.trans X.warmed hW', X.limits, X.bytes, X.same.trans (hsame.setVm s.vm)⟩,
      ⟨g, mk, s₂, L, rfl, rfl, hqc, rfl, hL, rfl, rfl⟩, ?_⟩
    show Steps p.tables e below _ ((({ U with heap := s₂.heap, slotsUsed := s₂.slotsUsed } : State).setVm s₂.vm).setTop { g with pc := g.pc + len₂, stack := v.toList ++ g.stack })
    rw [← hs₂]
    exact hsteps
  · obtain ⟨e2, q2, q3, q4, q5, q6⟩ := id hsm
    have e3 : s₂ = ({ (U.calling g mk a).setFrames s₂.frames with heap := s₂.heap, slotsUsed := s₂.slotsUsed } : State).setVm s₂.vm := by
      have : s₂ = ({ s₂ with vm := (U.calling g mk a).vm } : State).setVm s₂.vm := rfl
      rw [e2] at this
      exact this
    have hf₂ : s₂.frames = .throwing q :: .java g :: U.frames.tail := hend
    have hW' : U.WarmedH s₂.vm := hW₂
    have hs₂ : s₂ = ((({ U with heap := s₂.heap, slotsUsed := s₂.slotsUsed } : State).setVm s₂.vm).setTop g).pushFrame (.throwing q) := by
      refine e3.trans ?_
      rw [hf₂, State.calling_eq h.top, State.setFrames_setFrames, State.pushFrame, State.frames_setTop _ hr', State.setTop_of_frames _ hr', State.setFrames_setFrames, hr]
      rfl
    have hsame : U.sameButNew ({ U with heap := s₂.heap, slotsUsed := s₂.slotsUsed } : State) L mc ms := by
      refine ⟨?_, q2, q3, q4, q5, q6⟩
      obtain ⟨t, ht, -⟩ := State.frames_cons hr
      show ({ U with heap := s₂.heap, slotsUsed := s₂.slotsUsed } : State) = { U.setFrames U.frames with heap := s₂.heap, slotsUsed := s₂.slotsUsed }
      rw [State.setFrames_self ht]
    subst hg
    refine Or.inr ⟨q, ⟨(({ U with heap := s₂.heap, slotsUsed := s₂.slotsUsed } : State).setVm s₂.vm), Ls ++ L, c0 + mc, s0 + ms⟩,
      ⟨X.admits, X.cas, X.clock, X.frames, X.room, X.hears, X.method, X.code, (X.here.setHeapUsed s₂.heap s₂.slotsUsed).setVm hW'.alike, X.tail, State.WarmedH.trans X.warmed hW', X.limits, X.bytes, X.same.trans (hsame.setVm s.vm)⟩,
      ⟨g, mk, s₂, L, E, ce, rfl, rfl, hx, hce, hcv, hcl, rfl, hL, rfl, rfl⟩, ?_⟩
    show Steps p.tables e below _ (((({ U with heap := s₂.heap, slotsUsed := s₂.slotsUsed } : State).setVm s₂.vm).setTop g).pushFrame (.throwing q))
    rw [← hs₂]
    exact hsteps
end Payer
section Calls
variable {p : Program} {l : Launch} {e : Env} {R : Room} {s : State} {m : MethodId} {args : Array Value} {below : List Frame} {meth : Method} {c : Code} {T : State} {locs : List Loc} {cells slots : Nat}
theorem vx_callV (X : Stand p l e R s m args below meth c T locs cells slots) (hexec : p.tables.exec = Jvm.exec) {own C : String} {index : Nat} {y : MethodName} {bytes : ByteArray} {maxL : Nat} {ret : Option FieldType}
    (hown : s.vm.findClass own = some m.cls) (hlink : (Cond.methodLink own index y).before args s = true) (hinst : (Cond.instanceMethod y).before args s = true) (hsel : (Cond.selects C y y).before args s = true)
    (hcode : (Cond.code y bytes maxL ret).before args s = true) (hy : y.cls ≠ "java/lang/invoke/MethodHandle" ∧ y.cls ≠ "java/lang/invoke/VarHandle")
    {W9 : Nat} {Pre : Pt → Array Value → Prop} {Post : Pt → Array Value → Option Value → Pt → Prop} {PostX : Pt → Array Value → Addr → Pt → Prop} (hK : vx_Back l R p e below s args y 3 W9 Pre Post PostX)
    {b : Addr} {cellB : Cell} (hcell : T.heap[b]? = some cellB) (hobj : cellB.vm.isStatics = false) (hcls : s.vm.findClass C = some cellB.cls)
    {g : JFrame} (hg : g.method = m) (hsize : g.locals.size = c.maxLocals) {argsL rest : List Value} (hlen : ∀ sig, parseMethodDescriptor y.desc = some sig → argsL.length = sig.parameters.length)
    (hstack : g.stack = argsL.reverse ++ .ref b :: rest) (hW : 2 * g.monitorRoom + (rest.map fun v => v.category).sum ≤ W9) (hdg : decode c.code g.pc = .ok (.invokevirtual index, 3))
    (hpre : ∀ vm₁, s.WarmedH vm₁ → Pre ⟨T.setVm vm₁, locs, cells, slots⟩ (Value.ref b :: argsL).toArray) :
    (∃ (v : Option Value) (vm₁ : Vm) (B : Pt), s.WarmedH vm₁ ∧ Stand p l e R s m args below meth c B.U B.locs B.cells B.slots ∧ Post ⟨T.setVm vm₁, locs, cells, slots⟩ (Value.ref b :: argsL).toArray v B ∧
      ∀ target, Steps p.tables e below (B.U.setTop { g with pc := g.pc + 3, stack := v.toList ++ rest }) target → Steps p.tables e below (T.setTop g) target) ∨
    (∃ (q : Addr) (vm₁ : Vm) (B : Pt), s.WarmedH vm₁ ∧ Stand p l e R s m args below meth c B.U B.locs B.cells B.slots ∧ PostX ⟨T.setVm vm₁, locs, cells, slots⟩ (Value.ref b :: argsL).toArray q B ∧
      Steps p.tables e below (T.setTop g) ((B.U.setTop { g with stack := rest }).pushFrame (.throwing q))) := by
  obtain ⟨mk, methM, hnamed, hmethM, hstM, habM⟩ := Cond.instanceMethod_spec hinst
  obtain ⟨methM', cM, hmethM', -, -, -, -, -, -, hsigM⟩ := Cond.code_spec hnamed hcode
  cases hmethM.symm.trans hmethM'
  obtain ⟨c2, r2, m2, q1, q2, q3, q4, kP, hkP, hkPi⟩ := Cond.selects_spec hsel
  cases hcls.symm.trans q1
  cases (State.methodFound?_of_named hnamed hy).symm.trans q2
  cases hnamed.symm.trans q3
  have hselP : selectMethod e.platform s.vm cellB.cls mk = .method mk := by rw [Launch.admits_selectMethod X.admits]; exact q4
  obtain ⟨vm₁, X₁, hstep₁⟩ := X.invokevirtual hexec hown hlink hnamed hmethM hstM hkP hkPi hy (a := b) (cell := cellB) hcell
    (fun z h => by rw [h] at hobj; cases hobj) hselP hmethM habM hkP hkPi (g := g) hg (argsL := argsL) (rest := rest) (hlen _ hsigM) hstack hdg
  rcases hK m meth c ⟨T.setVm vm₁, locs, cells, slots⟩ { g with stack := rest } (.invokevirtual index) mk (Value.ref b :: argsL).toArray X₁ hg hsize hdg hW (X₁.named hnamed) (hpre vm₁ X₁.warmed) with ⟨v, B, X', hpost, hsteps⟩ | ⟨q, B, X', hpost, hsteps⟩
  · exact Or.inl ⟨v, vm₁, B, X₁.warmed, X', hpost, fun target h => hstep₁ _ fun acts => by rw [doInvoke_state]; exact hsteps.trans h⟩
  · exact Or.inr ⟨q, vm₁, B, X₁.warmed, X', hpost, hstep₁ _ fun acts => by rw [doInvoke_state]; exact hsteps⟩
theorem vx_callS (X : Stand p l e R s m args below meth c T locs cells slots) (hexec : p.tables.exec = Jvm.exec) {own : String} {index : Nat} {y : MethodName} {bytes : ByteArray} {maxL : Nat} {ret : Option FieldType}
    (hown : s.vm.findClass own = some m.cls) (hlink : (Cond.methodLink own index y).before args s = true) (hstat : (Cond.static y).before args s = true) (hinit : (Cond.initialized y.cls).before args s = true)
    (hcode : (Cond.code y bytes maxL ret).before args s = true) (hy : y.cls ≠ "java/lang/invoke/MethodHandle" ∧ y.cls ≠ "java/lang/invoke/VarHandle")
    {W9 : Nat} {Pre : Pt → Array Value → Prop} {Post : Pt → Array Value → Option Value → Pt → Prop} {PostX : Pt → Array Value → Addr → Pt → Prop} (hK : vx_Back l R p e below s args y 3 W9 Pre Post PostX)
    {g : JFrame} (hg : g.method = m) (hsize : g.locals.size = c.maxLocals) {argsL rest : List Value} (hlen : ∀ sig, parseMethodDescriptor y.desc = some sig → argsL.length = sig.parameters.length)
    (hstack : g.stack = argsL.reverse ++ rest) (hW : 2 * g.monitorRoom + (rest.map fun v => v.category).sum ≤ W9) (hdg : decode c.code g.pc = .ok (.invokestatic index, 3))
    (hpre : ∀ vm₁, s.WarmedH vm₁ → Pre ⟨T.setVm vm₁, locs, cells, slots⟩ argsL.toArray) :
    (∃ (v : Option Value) (vm₁ : Vm) (B : Pt), s.WarmedH vm₁ ∧ Stand p l e R s m args below meth c B.U B.locs B.cells B.slots ∧ Post ⟨T.setVm vm₁, locs, cells, slots⟩ argsL.toArray v B ∧
      ∀ target, Steps p.tables e below (B.U.setTop { g with pc := g.pc + 3, stack := v.toList ++ rest }) target → Steps p.tables e below (T.setTop g) target) ∨
    (∃ (q : Addr) (vm₁ : Vm) (B : Pt), s.WarmedH vm₁ ∧ Stand p l e R s m args below meth c B.U B.locs B.cells B.slots ∧ PostX ⟨T.setVm vm₁, locs, cells, slots⟩ argsL.toArray q B ∧
      Steps p.tables e below (T.setTop g) ((B.U.setTop { g with stack := rest }).pushFrame (.throwing q))) := by
  obtain ⟨mk, hnamed⟩ := Cond.code_named hcode
  obtain ⟨methM, cM, hmethM, -, -, -, -, -, -, hsigM⟩ := Cond.code_spec hnamed hcode
  have hstatic : methM.isStatic = true := Cond.static_spec hnamed hmethM hstat
  obtain ⟨kP, hkP, -⟩ := className_of_methodNamed hnamed
  have hinitP : kP.init = .initialized := Cond.initialized_spec (findClass_of_methodNamed hnamed) hkP hinit
  obtain ⟨vm₁, X₁, hstep₁⟩ := X.invokestatic hexec hown hlink hnamed hmethM hstatic hkP hinitP hy (g := g) hg (argsL := argsL) (rest := rest) (hlen _ hsigM) hstack hdg
  rcases hK m meth c ⟨T.setVm vm₁, locs, cells, slots⟩ { g with stack := rest } (.invokestatic index) mk argsL.toArray X₁ hg hsize hdg hW (X₁.named hnamed) (hpre vm₁ X₁.warmed) with ⟨v, B, X', hpost, hsteps⟩ | ⟨q, B, X', hpost, hsteps⟩
  · exact Or.inl ⟨v, vm₁, B, X₁.warmed, X', hpost, fun target h => hstep₁ _ fun acts => by rw [doInvoke_state]; exact hsteps.trans h⟩
  · exact Or.inr ⟨q, vm₁, B, X₁.warmed, X', hpost, hstep₁ _ fun acts => by rw [doInvoke_state]; exact hsteps⟩
end Calls
theorem vx_cls {s : State} {T : State} {vm₁ : Vm} {E : String} {k : ClassId} (hW : s.WarmedH vm₁) (h : (T.setVm vm₁).vm.findClass E = some k) : s.vm.findClass E = some k := by
  have h1 : vm₁.findClass E = some k := h
  rw [hW.alike.findClass] at h1
  exact h1
/-- the method's frame g, with q thrown over it -/
def vx_W (p : Program) (l : Launch) (e : Env) (R : Room) (s : State) (m : MethodId) (args : Array Value) (below : List Frame) (meth : Method) (c : Code) (H : Heap) (locs : List Loc) (cells slots : Nat) (Q : State → Prop) (g : JFrame) (q : Addr) : Prop :=
  ∀ T : State, T.heap = H → Stand p l e R s m args below meth c T locs cells slots → ∃ t, Steps p.tables e below ((T.setTop g).pushFrame (.throwing q)) t ∧ Q t
def vx_Run (p : Program) (l : Launch) (e : Env) (R : Room) (s : State) (m : MethodId) (args : Array Value) (below : List Frame) (meth : Method) (c : Code) (H : Heap) (locs : List Loc) (cells slots mc ms : Nat) (g : JFrame) (rest : List Value) (Qa : State → Outcome → State → Prop) (XC : String → State → State → Prop) (free : Addr → Prop) : Prop :=
  ∀ T : State, T.heap = H → Stand p l e R s m args below meth c T locs cells slots →
    (∃ (v : Option Value) (st₀ t T' : State) (L : List Loc), st₀.heap = H ∧ Stand p l e R s m args below meth c T' (locs ++ L) (cells + mc) (slots + ms) ∧ (∀ q ∈ L, free q.base) ∧ T'.heap = t.heap ∧ T'.vm = t.vm ∧ Qa st₀ (.returned v) t ∧
      Goes p e below T g T' { g with pc := g.pc + 3, stack := v.toList ++ rest }) ∨
    (∃ (q : Addr) (st₀ t T' : State) (L : List Loc) (E : String) (ce : Cell), st₀.heap = H ∧ Stand p l e R s m args below meth c T' (locs ++ L) (cells + mc) (slots + ms) ∧ (∀ z ∈ L, free z.base) ∧ T'.heap = t.heap ∧ T'.vm = t.vm ∧ XC E st₀ t ∧ t.heap[q]? = some ce ∧ ce.vm = .none ∧ s.vm.findClass E = some ce.cls ∧
      Steps p.tables e below (T.setTop g) ((T'.setTop { g with stack := rest }).pushFrame (.throwing q)))
def vx_X {S : Type} (px : S → Prop) (B : String → S → State → Prop) (A : Nat → Prop) : String → State → State → Prop := fun E st t => ∃ u : S, px u ∧ B E u t ∧ va_F A st t
section Runs
variable {p : Program} {l : Launch} {e : Env} {R : Room} {s : State} {m : MethodId} {args : Array Value} {below : List Frame} {meth : Method} {c : Code} {H : Heap} {locs : List Loc} {cells slots : Nat}
variable {y : MethodName} {bytes cc : ByteArray} {maxL nL mc ms n index : Nat} {ret : Option FieldType} {ws : List Cond} {rm : Room} {Pc : Array Value → State → Prop} {Qc : Array Value → State → Outcome → State → Prop} {XC : String → State → State → Prop} {free : Addr → Prop} {Ts : List Cond} {own C : String} {b : Addr} {As rest : List Value} {g : JFrame}
theorem vx_callBack (cb : CallB R s args own index y bytes maxL ret ws rm mc ms n) (hM : vx_Met l y ws rm Pc Qc XC mc ms free) (hbl : FrameBlind Pc) : vx_Back l R p e below s args y 3 8 (PreOf R mc ms Pc) (PostOf Qc mc ms free) (vx_Post XC mc ms free) := by
  obtain ⟨hrc, hrs, hfr, hlo, hws, hcw, -, hini, -⟩ := cb
  exact vx_back (bytes := bytes) (maxL := maxL) (ret := ret) hM hbl hrc hrs hfr hlo hws hcw (fun a' U hW => word_at hW (Or.inl (by first | rfl | simp [Cond.onTables, Cond.keeps, Cond.steady])) hini)
theorem vx_runV (S : CallFix p m c cc nL s args Ts own) (hM : vx_Met l y ws rm Pc Qc XC mc ms free) (cw : CallW R s args own C index y bytes maxL ret ws rm mc ms n) (hp : PreV s H C b Pc As)
    (hg : g.method = m) (hn : As.length = n) (hsize : g.locals.size = nL) (hstack : g.stack = As.reverse ++ .ref b :: rest) (hW : 2 * g.monitorRoom + (rest.map fun v => v.category).sum ≤ 8) (hdg : decode cc g.pc = .ok (.invokevirtual index, 3)) (hf : cells + mc ≤ R.cells ∧ slots + ms ≤ R.slots) :
    vx_Run p l e R s m args below meth c H locs cells slots mc ms g rest (Qc (Value.ref b :: As).toArray) XC free := by
  have hK : vx_Back l R p e below s args y 3 8 (PreOf R mc ms Pc) (PostOf Qc mc ms free) (vx_Post XC mc ms free) := vx_callBack cw.1 hM hp.1
  obtain ⟨⟨-, -, -, -, -, -, hcode, -, hy, hlen, hl⟩, hin, hse⟩ := cw
  obtain ⟨hx, hb, hml, ho, -⟩ := S
  obtain ⟨-, ⟨cellB, hcB, hoB, hclB⟩, hPc⟩ := hp
  intro T hT X
  rcases vx_callV X hx (C := C) (bytes := bytes) (maxL := maxL) (ret := ret) ho hl hin hse hcode hy hK (by rw [hT]; exact hcB) hoB hclB hg (hsize.trans hml.symm) (argsL := As) (rest := rest) (fun sig h => hn.trans (hlen sig h)) hstack hW (by rw [hb]; exact hdg)
    (fun vm₁ hW₁ => ⟨hf.1, hf.2, hPc (T.setVm vm₁) hT hW₁⟩) with ⟨v, vm₁, ⟨U', l2, c2, s2⟩, hW₁, X', ⟨g', mk, t, L, e1, e2, hq, h1, hL, h2, h3⟩, st⟩ | ⟨q, vm₁, ⟨U', l2, c2, s2⟩, hW₁, X', ⟨g', mk, t, L, E, ce, e1, e2, hq, hce, hcv, hcl, h1, hL, h2, h3⟩, st⟩
  · dsimp only [Pt.U, Pt.locs, Pt.cells, Pt.slots] at X' e1 e2 h1 h2 h3 st
    subst h1; subst h2; subst h3
    exact Or.inl ⟨v, (T.setVm vm₁).calling g' mk (Value.ref b :: As).toArray, t, U', L, hT, X', hL, e1, e2, hq, st⟩
  · dsimp only [Pt.U, Pt.locs, Pt.cells, Pt.slots] at X' e1 e2 h1 h2 h3 st hcl
    subst h1; subst h2; subst h3
    exact Or.inr ⟨q, (T.setVm vm₁).calling g' mk (Value.ref b :: As).toArray, t, U', L, E, ce, hT, X', hL, e1, e2, hq, hce, hcv, vx_cls hW₁ hcl, st⟩
theorem vx_runS (S : CallFix p m c cc nL s args Ts own) (hM : vx_Met l y ws rm Pc Qc XC mc ms free) (cw : CallB R s args own index y bytes maxL ret ws rm mc ms n ∧ (Cond.static y).before args s = true) (hp : PreS s H Pc As)
    (hg : g.method = m) (hn : As.length = n) (hsize : g.locals.size = nL) (hstack : g.stack = As.reverse ++ rest) (hW : 2 * g.monitorRoom + (rest.map fun v => v.category).sum ≤ 8) (hdg : decode cc g.pc = .ok (.invokestatic index, 3)) (hf : cells + mc ≤ R.cells ∧ slots + ms ≤ R.slots) :
    vx_Run p l e R s m args below meth c H locs cells slots mc ms g rest (Qc As.toArray) XC free := by
  have hK : vx_Back l R p e below s args y 3 8 (PreOf R mc ms Pc) (PostOf Qc mc ms free) (vx_Post XC mc ms free) := vx_callBack cw.1 hM hp.1
  obtain ⟨⟨-, -, -, -, -, -, hcode, hini, hy, hlen, hl⟩, hstt⟩ := cw
  obtain ⟨hx, hb, hml, ho, -⟩ := S
  intro T hT X
  rcases vx_callS X hx (bytes := bytes) (maxL := maxL) (ret := ret) ho hl hstt hini hcode hy hK hg (hsize.trans hml.symm) (argsL := As) (rest := rest) (fun sig h => hn.trans (hlen sig h)) hstack hW (by rw [hb]; exact hdg)
    (fun vm₁ hW₁ => ⟨hf.1, hf.2, hp.2 (T.setVm vm₁) hT hW₁⟩) with ⟨v, vm₁, ⟨U', l2, c2, s2⟩, hW₁, X', ⟨g', mk, t, L, e1, e2, hq, h1, hL, h2, h3⟩, st⟩ | ⟨q, vm₁, ⟨U', l2, c2, s2⟩, hW₁, X', ⟨g', mk, t, L, E, ce, e1, e2, hq, hce, hcv, hcl, h1, hL, h2, h3⟩, st⟩
  · dsimp only [Pt.U, Pt.locs, Pt.cells, Pt.slots] at X' e1 e2 h1 h2 h3 st
    subst h1; subst h2; subst h3
    exact Or.inl ⟨v, (T.setVm vm₁).calling g' mk As.toArray, t, U', L, hT, X', hL, e1, e2, hq, st⟩
  · dsimp only [Pt.U, Pt.locs, Pt.cells, Pt.slots] at X' e1 e2 h1 h2 h3 st hcl
    subst h1; subst h2; subst h3
    exact Or.inr ⟨q, (T.setVm vm₁).calling g' mk As.toArray, t, U', L, E, ce, hT, X', hL, e1, e2, hq, hce, hcv, vx_cls hW₁ hcl, st⟩
end Runs
section Rows
variable {p : Program} {l : Launch} {e : Env} {R : Room} {s : State} {m : MethodId} {args : Array Value} {below : List Frame} {meth : Method} {c : Code} {H : Heap} {locs : List Loc} {cells slots : Nat} {Q : State → Prop}
variable {mc ms : Nat} {free : Addr → Prop} {A0 A1 : Nat → Prop} {H0 : Heap} {a : Array Value} {pc : Nat} {ls : Array Slot} {st0 rest : List Value}
theorem vx_keep {st₀ t T' : State} {L : List Loc} (h0 : st₀.heap = H) (e1 : T'.heap = t.heap) (hS : va_S A0 H0 H locs) (hA : ∀ q, q < H.size → A1 q → A0 q) (hf : ∀ q, free q → A0 q) (hL : ∀ q ∈ L, free q.base) (hF : va_F A1 st₀ t) :
    H.size ≤ T'.heap.size ∧ (∀ q : Nat, q < H.size → ¬ A1 q → T'.heap[q]? = H[q]?) ∧ va_S A0 H0 T'.heap (locs ++ L) := by
  obtain ⟨hz, hk⟩ := hF
  rw [h0] at hz hk
  exact ⟨by rw [e1]; exact hz, fun q h1 h2 => by rw [e1]; exact hk q h1 h2,
    ⟨Nat.le_trans hS.1 (by rw [e1]; exact hz), fun q h1 h2 => by rw [e1, hk q (Nat.lt_of_lt_of_le h1 hS.1) (fun z => h2 (hA q (Nat.lt_of_lt_of_le h1 hS.1) z))]; exact hS.2.1 q h1 h2, fun q hq => by
      rcases List.mem_append.mp hq with h | h
      · exact hS.2.2 q h
      · exact hf _ (hL q h)⟩⟩
theorem vx_calli {S SX : Type} {post : Int32 → S → Prop} {px : SX → Prop} {B : S → State → Prop} {BX : String → SX → State → Prop} {AX : Nat → Prop} (hr : vx_Run p l e R s m args below meth c H locs cells slots mc ms (F0 m pc ls st0) rest (va_Qi post B A1 a) (vx_X px BX AX) free) (hS : va_S A0 H0 H locs) (hA : ∀ q, q < H.size → A1 q → A0 q) (hf : ∀ q, free q → A0 q) (hAX : ∀ q, q < H.size → AX q → A0 q)
    (kx : ∀ (E : String) (ce : Cell) (q9 : Addr) (u : SX) (t : State) (H1 : Heap) (locs1 : List Loc), t.heap = H1 → s.vm.Alike t.vm → px u → BX E u t → H.size ≤ H1.size → (∀ q : Nat, q < H.size → ¬ AX q → H1[q]? = H[q]?) → va_S A0 H0 H1 locs1 → H1[q9]? = some ce → ce.vm = .none → s.vm.findClass E = some ce.cls → vx_W p l e R s m args below meth c H1 locs1 (cells + mc) (slots + ms) Q (F0 m pc ls rest) q9)
    (kk : ∀ (r : Int32) (u : S) (t : State) (H1 : Heap) (locs1 : List Loc), t.heap = H1 → s.vm.Alike t.vm → post r u → B u t → H.size ≤ H1.size → (∀ q : Nat, q < H.size → ¬ A1 q → H1[q]? = H[q]?) → va_S A0 H0 H1 locs1 → W p l e R s m args below meth c H1 locs1 (cells + mc) (slots + ms) Q (F0 m (pc + 3) ls (.int r :: rest))) : W p l e R s m args below meth c H locs cells slots Q (F0 m pc ls st0) := by
  intro T hT X
  rcases hr T hT X with ⟨v, st₀, t, T', L, h0, X', hL, e1, e2, ⟨⟨r, u, hv, hp, hb⟩, hF⟩, st⟩ | ⟨q, st₀, t, T', L, E, ce, h0, X', hL, e1, e2, ⟨u, hp, hb, hF⟩, hce, hcv, hcl, st⟩
  · cases hv
    obtain ⟨k1, k2, k3⟩ := vx_keep h0 e1 hS hA hf hL hF
    obtain ⟨t2, a1, b1⟩ := kk r u t T'.heap (locs ++ L) e1.symm (by rw [← e2]; exact X'.warmed.alike) hp hb k1 k2 k3 T' rfl X'
    exact ⟨t2, st t2 a1, b1⟩
  · obtain ⟨k1, k2, k3⟩ := vx_keep h0 e1 hS hAX hf hL hF
    obtain ⟨t2, a1, b1⟩ := kx E ce q u t T'.heap (locs ++ L) e1.symm (by rw [← e2]; exact X'.warmed.alike) hp hb k1 k2 k3 (by rw [e1]; exact hce) hcv hcl T' rfl X'
    exact ⟨t2, st.trans a1, b1⟩
theorem vx_calll {S SX : Type} {post : Int64 → S → Prop} {px : SX → Prop} {B : S → State → Prop} {BX : String → SX → State → Prop} {AX : Nat → Prop} (hr : vx_Run p l e R s m args below meth c H locs cells slots mc ms (F0 m pc ls st0) rest (va_Ql post B A1 a) (vx_X px BX AX) free) (hS : va_S A0 H0 H locs) (hA : ∀ q, q < H.size → A1 q → A0 q) (hf : ∀ q, free q → A0 q) (hAX : ∀ q, q < H.size → AX q → A0 q)
    (kx : ∀ (E : String) (ce : Cell) (q9 : Addr) (u : SX) (t : State) (H1 : Heap) (locs1 : List Loc), t.heap = H1 → s.vm.Alike t.vm → px u → BX E u t → H.size ≤ H1.size → (∀ q : Nat, q < H.size → ¬ AX q → H1[q]? = H[q]?) → va_S A0 H0 H1 locs1 → H1[q9]? = some ce → ce.vm = .none → s.vm.findClass E = some ce.cls → vx_W p l e R s m args below meth c H1 locs1 (cells + mc) (slots + ms) Q (F0 m pc ls rest) q9)
    (kk : ∀ (r : Int64) (u : S) (t : State) (H1 : Heap) (locs1 : List Loc), t.heap = H1 → s.vm.Alike t.vm → post r u → B u t → H.size ≤ H1.size → (∀ q : Nat, q < H.size → ¬ A1 q → H1[q]? = H[q]?) → va_S A0 H0 H1 locs1 → W p l e R s m args below meth c H1 locs1 (cells + mc) (slots + ms) Q (F0 m (pc + 3) ls (.long r :: rest))) : W p l e R s m args below meth c H locs cells slots Q (F0 m pc ls st0) := by
  intro T hT X
  rcases hr T hT X with ⟨v, st₀, t, T', L, h0, X', hL, e1, e2, ⟨⟨r, u, hv, hp, hb⟩, hF⟩, st⟩ | ⟨q, st₀, t, T', L, E, ce, h0, X', hL, e1, e2, ⟨u, hp, hb, hF⟩, hce, hcv, hcl, st⟩
  · cases hv
    obtain ⟨k1, k2, k3⟩ := vx_keep h0 e1 hS hA hf hL hF
    obtain ⟨t2, a1, b1⟩ := kk r u t T'.heap (locs ++ L) e1.symm (by rw [← e2]; exact X'.warmed.alike) hp hb k1 k2 k3 T' rfl X'
    exact ⟨t2, st t2 a1, b1⟩
  · obtain ⟨k1, k2, k3⟩ := vx_keep h0 e1 hS hAX hf hL hF
    obtain ⟨t2, a1, b1⟩ := kx E ce q u t T'.heap (locs ++ L) e1.symm (by rw [← e2]; exact X'.warmed.alike) hp hb k1 k2 k3 (by rw [e1]; exact hce) hcv hcl T' rfl X'
    exact ⟨t2, st.trans a1, b1⟩
theorem vx_callf {S SX : Type} {post : UInt32 → S → Prop} {px : SX → Prop} {B : S → State → Prop} {BX : String → SX → State → Prop} {AX : Nat → Prop} (hr : vx_Run p l e R s m args below meth c H locs cells slots mc ms (F0 m pc ls st0) rest (va_Qf post B A1 a) (vx_X px BX AX) free) (hS : va_S A0 H0 H locs) (hA : ∀ q, q < H.size → A1 q → A0 q) (hf : ∀ q, free q → A0 q) (hAX : ∀ q, q < H.size → AX q → A0 q)
    (kx : ∀ (E : String) (ce : Cell) (q9 : Addr) (u : SX) (t : State) (H1 : Heap) (locs1 : List Loc), t.heap = H1 → s.vm.Alike t.vm → px u → BX E u t → H.size ≤ H1.size → (∀ q : Nat, q < H.size → ¬ AX q → H1[q]? = H[q]?) → va_S A0 H0 H1 locs1 → H1[q9]? = some ce → ce.vm = .none → s.vm.findClass E = some ce.cls → vx_W p l e R s m args below meth c H1 locs1 (cells + mc) (slots + ms) Q (F0 m pc ls rest) q9)
    (kk : ∀ (r : UInt32) (u : S) (t : State) (H1 : Heap) (locs1 : List Loc), t.heap = H1 → s.vm.Alike t.vm → post r u → B u t → H.size ≤ H1.size → (∀ q : Nat, q < H.size → ¬ A1 q → H1[q]? = H[q]?) → va_S A0 H0 H1 locs1 → W p l e R s m args below meth c H1 locs1 (cells + mc) (slots + ms) Q (F0 m (pc + 3) ls (.float r :: rest))) : W p l e R s m args below meth c H locs cells slots Q (F0 m pc ls st0) := by
  intro T hT X
  rcases hr T hT X with ⟨v, st₀, t, T', L, h0, X', hL, e1, e2, ⟨⟨r, u, hv, hp, hb⟩, hF⟩, st⟩ | ⟨q, st₀, t, T', L, E, ce, h0, X', hL, e1, e2, ⟨u, hp, hb, hF⟩, hce, hcv, hcl, st⟩
  · cases hv
    obtain ⟨k1, k2, k3⟩ := vx_keep h0 e1 hS hA hf hL hF
    obtain ⟨t2, a1, b1⟩ := kk r u t T'.heap (locs ++ L) e1.symm (by rw [← e2]; exact X'.warmed.alike) hp hb k1 k2 k3 T' rfl X'
    exact ⟨t2, st t2 a1, b1⟩
  · obtain ⟨k1, k2, k3⟩ := vx_keep h0 e1 hS hAX hf hL hF
    obtain ⟨t2, a1, b1⟩ := kx E ce q u t T'.heap (locs ++ L) e1.symm (by rw [← e2]; exact X'.warmed.alike) hp hb k1 k2 k3 (by rw [e1]; exact hce) hcv hcl T' rfl X'
    exact ⟨t2, st.trans a1, b1⟩
theorem vx_calld {S SX : Type} {post : UInt64 → S → Prop} {px : SX → Prop} {B : S → State → Prop} {BX : String → SX → State → Prop} {AX : Nat → Prop} (hr : vx_Run p l e R s m args below meth c H locs cells slots mc ms (F0 m pc ls st0) rest (va_Qd post B A1 a) (vx_X px BX AX) free) (hS : va_S A0 H0 H locs) (hA : ∀ q, q < H.size → A1 q → A0 q) (hf : ∀ q, free q → A0 q) (hAX : ∀ q, q < H.size → AX q → A0 q)
    (kx : ∀ (E : String) (ce : Cell) (q9 : Addr) (u : SX) (t : State) (H1 : Heap) (locs1 : List Loc), t.heap = H1 → s.vm.Alike t.vm → px u → BX E u t → H.size ≤ H1.size → (∀ q : Nat, q < H.size → ¬ AX q → H1[q]? = H[q]?) → va_S A0 H0 H1 locs1 → H1[q9]? = some ce → ce.vm = .none → s.vm.findClass E = some ce.cls → vx_W p l e R s m args below meth c H1 locs1 (cells + mc) (slots + ms) Q (F0 m pc ls rest) q9)
    (kk : ∀ (r : UInt64) (u : S) (t : State) (H1 : Heap) (locs1 : List Loc), t.heap = H1 → s.vm.Alike t.vm → post r u → B u t → H.size ≤ H1.size → (∀ q : Nat, q < H.size → ¬ A1 q → H1[q]? = H[q]?) → va_S A0 H0 H1 locs1 → W p l e R s m args below meth c H1 locs1 (cells + mc) (slots + ms) Q (F0 m (pc + 3) ls (.double r :: rest))) : W p l e R s m args below meth c H locs cells slots Q (F0 m pc ls st0) := by
  intro T hT X
  rcases hr T hT X with ⟨v, st₀, t, T', L, h0, X', hL, e1, e2, ⟨⟨r, u, hv, hp, hb⟩, hF⟩, st⟩ | ⟨q, st₀, t, T', L, E, ce, h0, X', hL, e1, e2, ⟨u, hp, hb, hF⟩, hce, hcv, hcl, st⟩
  · cases hv
    obtain ⟨k1, k2, k3⟩ := vx_keep h0 e1 hS hA hf hL hF
    obtain ⟨t2, a1, b1⟩ := kk r u t T'.heap (locs ++ L) e1.symm (by rw [← e2]; exact X'.warmed.alike) hp hb k1 k2 k3 T' rfl X'
    exact ⟨t2, st t2 a1, b1⟩
  · obtain ⟨k1, k2, k3⟩ := vx_keep h0 e1 hS hAX hf hL hF
    obtain ⟨t2, a1, b1⟩ := kx E ce q u t T'.heap (locs ++ L) e1.symm (by rw [← e2]; exact X'.warmed.alike) hp hb k1 k2 k3 (by rw [e1]; exact hce) hcv hcl T' rfl X'
    exact ⟨t2, st.trans a1, b1⟩
theorem vx_callv {S SX : Type} {post : S → Prop} {px : SX → Prop} {B : S → State → Prop} {BX : String → SX → State → Prop} {AX : Nat → Prop} (hr : vx_Run p l e R s m args below meth c H locs cells slots mc ms (F0 m pc ls st0) rest (va_Qv post B A1 a) (vx_X px BX AX) free) (hS : va_S A0 H0 H locs) (hA : ∀ q, q < H.size → A1 q → A0 q) (hf : ∀ q, free q → A0 q) (hAX : ∀ q, q < H.size → AX q → A0 q)
    (kx : ∀ (E : String) (ce : Cell) (q9 : Addr) (u : SX) (t : State) (H1 : Heap) (locs1 : List Loc), t.heap = H1 → s.vm.Alike t.vm → px u → BX E u t → H.size ≤ H1.size → (∀ q : Nat, q < H.size → ¬ AX q → H1[q]? = H[q]?) → va_S A0 H0 H1 locs1 → H1[q9]? = some ce → ce.vm = .none → s.vm.findClass E = some ce.cls → vx_W p l e R s m args below meth c H1 locs1 (cells + mc) (slots + ms) Q (F0 m pc ls rest) q9)
    (kk : ∀ (u : S) (t : State) (H1 : Heap) (locs1 : List Loc), t.heap = H1 → s.vm.Alike t.vm → post u → B u t → H.size ≤ H1.size → (∀ q : Nat, q < H.size → ¬ A1 q → H1[q]? = H[q]?) → va_S A0 H0 H1 locs1 → W p l e R s m args below meth c H1 locs1 (cells + mc) (slots + ms) Q (F0 m (pc + 3) ls (rest))) : W p l e R s m args below meth c H locs cells slots Q (F0 m pc ls st0) := by
  intro T hT X
  rcases hr T hT X with ⟨v, st₀, t, T', L, h0, X', hL, e1, e2, ⟨⟨u, hv, hp, hb⟩, hF⟩, st⟩ | ⟨q, st₀, t, T', L, E, ce, h0, X', hL, e1, e2, ⟨u, hp, hb, hF⟩, hce, hcv, hcl, st⟩
  · cases hv
    obtain ⟨k1, k2, k3⟩ := vx_keep h0 e1 hS hA hf hL hF
    obtain ⟨t2, a1, b1⟩ := kk u t T'.heap (locs ++ L) e1.symm (by rw [← e2]; exact X'.warmed.alike) hp hb k1 k2 k3 T' rfl X'
    exact ⟨t2, st t2 a1, b1⟩
  · obtain ⟨k1, k2, k3⟩ := vx_keep h0 e1 hS hAX hf hL hF
    obtain ⟨t2, a1, b1⟩ := kx E ce q u t T'.heap (locs ++ L) e1.symm (by rw [← e2]; exact X'.warmed.alike) hp hb k1 k2 k3 (by rw [e1]; exact hce) hcv hcl T' rfl X'
    exact ⟨t2, st.trans a1, b1⟩
/-- caught by the row x of this method's table; the rows ahead don't take it -/
theorem vx_catch {own name : String} {E : String} {ce : Cell} {q : Addr} (hown : s.vm.findClass own = some m.cls) (pre : List ExceptionTableEntry) (x : ExceptionTableEntry) (suf : List ExceptionTableEntry) (hsplit : c.exceptionTable.toList = pre ++ x :: suf)
    (hpass : ∀ z ∈ pre, covers z pc = false ∨ (z.catchType ≠ 0 ∧ ∃ nm : String, (Cond.classLink own z.catchType nm).before args s = true ∧ va_Nc E nm s)) (hx : covers x pc = true) (h0 : x.catchType ≠ 0)
    (hlink : (Cond.classLink own x.catchType name).before args s = true) (hcast : (Cond.castable E name).before args s = true) (hcell : H[q]? = some ce) (hv : ce.vm = .none) (hcl : s.vm.findClass E = some ce.cls)
    (kk : W p l e R s m args below meth c H locs cells slots Q (F0 m x.handlerPc ls [.ref q])) : vx_W p l e R s m args below meth c H locs cells slots Q (F0 m pc ls rest) q := by
  intro T hT X
  have hpl : e.platform.magicAccessors = ({} : Platform).magicAccessors := by rw [X.admits.platform]
  obtain ⟨c3, c4, hc3, hc4, hasg⟩ := Cond.castable_spec hcast
  cases Option.some.inj (hc3.symm.trans hcl)
  obtain ⟨c5, hc5, hcl5⟩ := Cond.classLink_spec hown hlink e.platform hpl
  cases Option.some.inj (hc4.symm.trans hc5)
  obtain ⟨vm', X', st⟩ := X.thenCaughtThrough q (g := F0 m pc ls rest) rfl (Steps.refl _) (by rw [hT]; exact hcell) (by rw [hv]; rfl) (by obtain ⟨k9, h9, -⟩ := Vm.findClass_spec hcl; exact ⟨k9, h9⟩) pre x suf hsplit
    (fun z hz => by
      rcases hpass z hz with h | ⟨hz0, nm, hl1, hn1⟩
      · exact Or.inl h
      · obtain ⟨c6, hc6, hcl6⟩ := Cond.classLink_spec hown hl1 e.platform hpl
        obtain ⟨a8, b8, h1, h2, h3⟩ := hn1
        cases Option.some.inj (h1.symm.trans hcl)
        cases Option.some.inj (h2.symm.trans hc6)
        exact Or.inr ⟨hz0, _, hcl6, h3⟩) hx (Or.inr ⟨h0, c4, hcl5, hasg⟩)
  obtain ⟨t, a1, b1⟩ := kk (T.setVm vm') hT X'
  exact ⟨t, st.trans a1, b1⟩
end Rows
section Ends
variable {p : Program} {l : Launch} {e : Env} {R : Room} {s : State} {m : MethodId} {args : Array Value} {below : List Frame} {meth : Method} {c : Code} {H : Heap} {locs : List Loc} {cells slots : Nat} {Q : State → Prop}
variable {mc ms : Nat} {free : Addr → Prop} {A0 A1 : Nat → Prop} {H0 : Heap} {a : Array Value} {ls : Array Slot} {st0 rest : List Value}
variable {Qc : Array Value → State → Outcome → State → Prop} {XC : String → State → State → Prop}
/-- what a body that may throw owes at its end -/
def vx_MQ (below : List Frame) (Qc : Array Value → State → Outcome → State → Prop) (XC : String → State → State → Prop) (a : Array Value) (s : State) (mc ms : Nat) (free : Addr → Prop) : State → Prop := fun t =>
  ∃ o, t.status = .running ∧ Ended t below o ∧ vx_Q Qc XC mc ms free a s o t
theorem vx_ret {g : JFrame} {mc ms : Nat} (k : W p l e R s m args below meth c H locs cells slots (MQ below Qc args s mc ms free) g) : W p l e R s m args below meth c H locs cells slots (vx_MQ below Qc XC args s mc ms free) g := by
  intro T hT X
  obtain ⟨t, a1, o, b1, b2, b3, b4⟩ := k T hT X
  exact ⟨t, a1, o, b1, b2, Or.inl ⟨b3, b4⟩⟩
/-- not caught here: it goes on to the caller -/
theorem vx_widen {g : JFrame} {q : Addr} {k n : Nat} (h1 : cells ≤ k) (h2 : slots ≤ n) (kk : vx_W p l e R s m args below meth c H locs k n Q g q) : vx_W p l e R s m args below meth c H locs cells slots Q g q := fun T hT X => kk T hT (stand_widen X h1 h2)
theorem vx_out {pc : Nat} {E : String} {ce : Cell} {q : Addr} {mc ms : Nat} (hout : ∀ x ∈ c.exceptionTable.toList, covers x pc = false) (hlocks : meth.locks = false) (hcell : H[q]? = some ce) (hv : ce.vm = .none) (hcl : s.vm.findClass E = some ce.cls)
    (hx : ∀ t : State, t.heap = H → s.vm.Alike t.vm → XC E s t) (hf : ∀ z ∈ locs, free z.base) (hc : cells ≤ mc) (hs : slots ≤ ms) :
    vx_W p l e R s m args below meth c H locs cells slots (vx_MQ below Qc XC args s mc ms free) (F0 m pc ls rest) q := by
  intro T hT X
  obtain ⟨st1, hrun, hend, hW, hsm⟩ := X.leaveThrown q (g := F0 m pc ls rest) rfl rfl rfl hout hlocks
  have hcell9 : (T.setFrames (.throwing q :: below)).heap[q]? = some ce := by
    show T.heap[q]? = some ce
    rw [hT]; exact hcell
  exact ⟨_, st1, .threw q, hrun, hend, Or.inr ⟨q, rfl, E, ce, locs, hx _ hT hW.alike, hcell9, hv, hcl, hW, hsm.mono hc hs, hf⟩⟩
theorem vx_frame {U : State} {k n : Nat} (h : s.sameButNew ({ U with vm := s.vm } : State) locs k n) : s.heap.size ≤ U.heap.size ∧ ∀ q : Nat, q < s.heap.size → (∀ z ∈ locs, z.base ≠ q) → U.heap[q]? = s.heap[q]? := by
  obtain ⟨-, h2, -, -, -, h6⟩ := h
  refine ⟨h2, fun q hq hz => ?_⟩
  obtain ⟨c9, e1, e2, e3, e4⟩ := h6 q _ (Array.getElem?_eq_getElem hq)
  have hs : c9.slots = (s.heap[q]).slots := Array.ext_getElem? fun i => e4 i fun hm => hz _ hm rfl
  have h9 : c9 = s.heap[q] := by
    rw [hs] at e2
    exact e2
  have e5 : U.heap[q]? = some c9 := e1
  rw [e5, h9, Array.getElem?_eq_getElem hq]
/-- the words of a throw but the four that speak of the heap -/
def vx_no (w : Cond) : Bool := decide (w ≠ .isRef (.static Bundle.tN "UNASSIGNED_STACK" Bundle.steD)) && decide (w ≠ .isRef (.static Bundle.tN "SUPPRESSED_SENTINEL" Bundle.listD)) && decide (w ≠ .laysStatic Bundle.tN "UNASSIGNED_STACK" Bundle.steD) && decide (w ≠ .laysStatic Bundle.tN "SUPPRESSED_SENTINEL" Bundle.listD)
def vx_at0 (own : String) (ic : Nat) (X : String) (names : List String) : List Cond := (Bundle.ownAtoms0 own ic X names).filter vx_no
def vx_atS (own : String) (ic : Nat) (X : String) (names : List String) : List Cond := (Bundle.ownAtoms own ic X names).filter vx_no
/-- a word that the tables alone decide, or a good one -/
def vx_ot (w : Cond) : Bool := w.onTables || goodWord w
theorem vx_ot_at {args a' : Array Value} {s U : State} {w : Cond} (hW : s.WarmedH U.vm) (hvm : s.vm = U.vm) (hg : vx_ot w = true) (h : w.before args s = true) : w.before a' U = true := by
  simp only [vx_ot, Bool.or_eq_true] at hg
  rcases hg with hg | hg
  · exact va_tabs hg hvm h
  · exact word_at hW (good_of_word hg) h
/-- a list's words: the good ones out of the method's own list, the others by premises of their own -/
theorem vx_hat {args : Array Value} {s : State} {L B : List Cond} (h1 : ∀ w ∈ L.filter goodWord, w.before args s = true) (h2 : ∀ w ∈ L.filter (fun w => !goodWord w), w ∈ B) (h3 : ∀ w ∈ B, w.before args s = true) : ∀ w ∈ L, w.before args s = true := by
  intro w hw
  by_cases g : goodWord w = true
  · exact h1 w (List.mem_filter.mpr ⟨hw, g⟩)
  · refine h3 w (h2 w (List.mem_filter.mpr ⟨hw, ?_⟩))
    show (!goodWord w) = true
    cases hgw : goodWord w
    · rfl
    · exact absurd hgw g
theorem vx_c {args : Array Value} {s : State} {w : Cond} {B : List Cond} (h : w.before args s = true) (t : ∀ w ∈ B, w.before args s = true) : ∀ w' ∈ w :: B, w'.before args s = true := fun w' h' => (List.mem_cons.mp h').elim (fun e => by rw [e]; exact h) (t w')
theorem vx_n {args : Array Value} {s : State} : ∀ w ∈ ([] : List Cond), w.before args s = true := fun _ h => nomatch h
theorem vx_own {args : Array Value} {s : State} {L : List Cond} (h1 : ∀ w ∈ L.filter vx_no, w.before args s = true)
    (hU : (Cond.isRef (.static Bundle.tN "UNASSIGNED_STACK" Bundle.steD)).before args s = true) (hN : (Cond.isRef (.static Bundle.tN "SUPPRESSED_SENTINEL" Bundle.listD)).before args s = true)
    (lU : (Cond.laysStatic Bundle.tN "UNASSIGNED_STACK" Bundle.steD).before args s = true) (lN : (Cond.laysStatic Bundle.tN "SUPPRESSED_SENTINEL" Bundle.listD).before args s = true) : ∀ w ∈ L, w.before args s = true := by
  intro w hw
  by_cases e1 : w = .isRef (.static Bundle.tN "UNASSIGNED_STACK" Bundle.steD)
  · rw [e1]; exact hU
  · by_cases e2 : w = .isRef (.static Bundle.tN "SUPPRESSED_SENTINEL" Bundle.listD)
    · rw [e2]; exact hN
    · by_cases e3 : w = .laysStatic Bundle.tN "UNASSIGNED_STACK" Bundle.steD
      · rw [e3]; exact lU
      · by_cases e4 : w = .laysStatic Bundle.tN "SUPPRESSED_SENTINEL" Bundle.listD
        · rw [e4]; exact lN
        · exact h1 w (List.mem_filter.mpr ⟨hw, by unfold vx_no; rw [decide_eq_true e1, decide_eq_true e2, decide_eq_true e3, decide_eq_true e4]; rfl⟩)
/-- where a static field lies, its class's statics cell in H -/
def vx_L (C n d : String) (A : Nat → Prop) (U : State) (H : Heap) : Prop := ∃ (c : ClassId) (k : Class) (i : Nat) (f : Field) (a : Nat) (cell : Cell), U.vm.findClass C = some c ∧ U.fieldFound? C n d = some (c, k, i, f) ∧ f.isStatic = true ∧ k.statics = some a ∧ H[a]? = some cell ∧ cell.vm.isStatics = true ∧ cell.cls = c ∧ f.slot < cell.slots.size ∧ k.staticTypes[f.slot]? = some f.type ∧ ¬ A a
theorem vx_L.moved {C n d : String} {A : Nat → Prop} {u U : State} {H : Heap} (hvm : u.vm.Alike U.vm) (h : vx_L C n d A u H) : vx_L C n d A U H := by
  obtain ⟨c, k, i, f, a, cell, h1, h2, h3, h4, h5, h6, h7, h8, h9, h10⟩ := h
  obtain ⟨k', hi', he⟩ := State.fieldFound?_setVm hvm h2
  exact ⟨c, k', i, f, a, cell, by rw [hvm.findClass]; exact h1, hi', h3, by rw [he]; exact h4, h5, h6, h7, h8, by rw [he]; exact h9, h10⟩
theorem vx_L.kept {C n d : String} {A : Nat → Prop} {U : State} {H H1 : Heap} (h : vx_L C n d A U H) (hq : ∀ a : Nat, a < H.size → ¬ A a → H1[a]? = H[a]?) : vx_L C n d A U H1 := by
  obtain ⟨c, k, i, f, a, cell, h1, h2, h3, h4, h5, h6, h7, h8, h9, h10⟩ := h
  exact ⟨c, k, i, f, a, cell, h1, h2, h3, h4, by rw [hq a (Array.getElem?_eq_some_iff.mp h5).1 h10]; exact h5, h6, h7, h8, h9, h10⟩
theorem vx_L.narrow {C n d : String} {A B : Nat → Prop} {U : State} {H : Heap} (h : vx_L C n d A U H) (hAB : ∀ q, B q → A q) : vx_L C n d B U H := by
  obtain ⟨c, k, i, f, a, cell, h1, h2, h3, h4, h5, h6, h7, h8, h9, h10⟩ := h
  exact ⟨c, k, i, f, a, cell, h1, h2, h3, h4, h5, h6, h7, h8, h9, fun z => h10 (hAB _ z)⟩
theorem vx_L.word {C n d : String} {A : Nat → Prop} {s : State} {args : Array Value} (h : vx_L C n d A s s.heap) : (Cond.laysStatic C n d).before args s = true := by
  obtain ⟨c, k, i, f, a, cell, h1, h2, h3, h4, h5, h6, h7, h8, h9, -⟩ := h
  show (Cond.laysStatic C n d).holds args s none s [] = true
  exact Cond.laysStatic_of h1 h2 h3 h4 h5 h6 h7 h8 h9
/-- .. and what it holds: null or some reference -/
def vx_Zq (C n d : String) (A : Nat → Prop) (U : State) (H : Heap) : Prop := va_Zq C n d A U H ∧ vx_L C n d A U H
theorem vx_Zq.moved {C n d : String} {A : Nat → Prop} {u U : State} {H : Heap} (hvm : u.vm.Alike U.vm) (h : vx_Zq C n d A u H) : vx_Zq C n d A U H := ⟨va_Zq.moved hvm h.1, vx_L.moved hvm h.2⟩
theorem vx_Zq.kept {C n d : String} {A : Nat → Prop} {U : State} {H H1 : Heap} (h : vx_Zq C n d A U H) (hq : ∀ a : Nat, a < H.size → ¬ A a → H1[a]? = H[a]?) : vx_Zq C n d A U H1 := ⟨va_Zq.kept h.1 hq, vx_L.kept h.2 hq⟩
theorem vx_Zq.narrow {C n d : String} {A B : Nat → Prop} {U : State} {H : Heap} (h : vx_Zq C n d A U H) (hAB : ∀ q, B q → A q) : vx_Zq C n d B U H := ⟨va_Zq.narrow h.1 hAB, vx_L.narrow h.2 hAB⟩
theorem vx_Zqof {args : Array Value} {s : State} {C n d : String} {A : Nat → Prop} (hl : (Cond.laysStatic C n d).before args s = true) (hini : (Cond.initialized C).before args s = true) (h : (Cond.isRef (.static C n d)).before args s = true) (hA : ∀ a : Nat, a < s.heap.size → ¬ A a) : vx_Zq C n d A s s.heap := by
  refine ⟨va_Zqof hl hini h hA, ?_⟩
  obtain ⟨c, k, i, f, a, cell, h1, h2, h3, h4, h5, h6, h7, h8, h9⟩ := Cond.laysStatic_spec hl
  exact ⟨c, k, i, f, a, cell, h1, h2, h3, h4, h5, h6, h7, h8, h9, hA a (Array.getElem?_eq_some_iff.mp h5).1⟩
theorem vx_isRef {C n d : String} {v : Value} {A : Nat → Prop} {s : State} {args : Array Value} (h : va_Z C n d v A s s.heap) (hv : v.isRef = true) : (Cond.isRef (.static C n d)).before args s = true := by
  obtain ⟨cf, kf, fi, f, a, cell, h1, h2, h3, h4, h5, h6, h7, -⟩ := h
  have he : (Term.static C n d).eval args s none [] s = some v := by
    simp [Term.eval, State.fieldNamed?, h1, h2, h4, h5, h6, h7]
  simp only [Cond.before, Cond.holds, Cond.value, he]
  cases v <;> simp_all [Value.isRef]
theorem vx_isRefq {C n d : String} {A : Nat → Prop} {s : State} {args : Array Value} (h : va_Zq C n d A s s.heap) : (Cond.isRef (.static C n d)).before args s = true := by
  rcases h with h | ⟨t, h⟩
  · exact vx_isRef h rfl
  · exact vx_isRef h rfl
/-- the same frame, seen from here: as if the method were called anew in this heap -/
theorem vx_rebase {T : State} (X : Stand p l e R s m args below meth c T locs cells slots) {R' : Room} (hf : R'.frames ≤ R.frames) (hl : R'.locals ≤ R.locals) (hc : cells + R'.cells ≤ R.cells) (hs : slots + R'.slots ≤ R.slots) :
    Stand p l e R' ((T.setVm s.vm).setFrames (.invoking m args :: below)) m args below meth c T [] 0 0 := by
  have htop : (T.setVm s.vm).topJava?.isSome := X.here.top
  have hF : ((T.setVm s.vm).setFrames (.invoking m args :: below)).frames = .invoking m args :: below := State.frames_setFrames _ (State.cur_lt_of_top htop)
  obtain ⟨g₀, hg0⟩ := Option.isSome_iff_exists.mp htop
  obtain ⟨r, hr⟩ := State.topJava?_eq_some.mp hg0
  have hl9 : e.platform.stackLimits (T.setVm s.vm).me = e.platform.stackLimits s.me := X.limits
  have hb9 : (T.setVm s.vm).me.stackBytes = s.me.stackBytes := X.bytes
  refine ⟨X.admits, X.cas, X.clock, hF, ?_, X.hears, X.method, X.code, X.here, X.tail, X.warmed, ?_, ?_, ?_⟩
  · have h := X.room
    have hU : ((T.setVm s.vm).setFrames (.invoking m args :: below)).localsInUse = s.localsInUse := by
      rw [State.localsInUse_invoking hF (meth := meth) (c := c) X.method X.code, State.localsInUse_invoking X.frames X.method X.code]
    simp only [State.hasRoom, Bool.and_eq_true, decide_eq_true_eq] at h ⊢
    obtain ⟨⟨⟨⟨h1, h2, h3, h4, h5, h6⟩, h7⟩, h8⟩, h9⟩ := h
    rw [X.frames, List.length_cons] at h2 h3
    have q1 := X.heapSize
    have q2 := X.used
    simp only [hF, hU, List.length_cons, State.stackLimits_setFrames, State.stackBytes_setFrames, hl9, hb9]
    refine ⟨⟨⟨⟨by omega, by omega, by omega, by omega, by omega, h6⟩, ?_⟩, ?_⟩, X.book⟩
    · show T.heap.size + R'.cells ≤ e.platform.maxCells
      omega
    · show T.slotsUsed + R'.slots ≤ e.platform.maxSlots
      omega
  · rw [State.stackLimits_setFrames]; rfl
  · rw [State.stackBytes_setFrames]; rfl
  · refine ⟨?_, Nat.le_refl _, Nat.le_refl _, ?_, ?_, fun a c9 h9 => ⟨c9, h9, rfl, rfl, fun _ _ => rfl⟩⟩
    · obtain ⟨t, ht, -⟩ := State.frames_cons hr
      show T.setVm s.vm = { ((T.setVm s.vm).setFrames (.invoking m args :: below)).setFrames (T.setVm s.vm).frames with heap := T.heap, slotsUsed := T.slotsUsed }
      rw [State.setFrames_setFrames, State.setFrames_self ht]
      rfl
    · show T.slotsUsed = T.slotsUsed + ((T.heap.toList.drop T.heap.size).map (·.slots.size)).sum
      rw [List.drop_eq_nil_of_le (Nat.le_of_eq Array.length_toList)]
      rfl
    · show ((T.heap.toList.drop T.heap.size).map (·.slots.size)).sum ≤ 0
      rw [List.drop_eq_nil_of_le (Nat.le_of_eq Array.length_toList)]
      exact Nat.le_refl _
/-- 'throw new E()': new; dup; invokespecial; athrow -/
theorem vx_throw0 {cc : ByteArray} {pc : Nat} (hexec : p.tables.exec = Jvm.exec) (hb : c.code = cc) (hl : l.stackTraces = false) {own cls : String} {names : List String} {ik ic mc ms : Nat} {A : Nat → Prop}
    (hown : s.vm.findClass own = some m.cls) (hcls : Bundle.fit cls = true) (hnames : ∀ n ∈ names, Bundle.fit n = true)
    (hk : (Cond.classLink own ik cls).before args s = true) (hini : (Cond.initialized cls).before args s = true) (hat : ∀ w ∈ vx_at0 own ic cls names, w.before args s = true)
    (hgood : ∀ w ∈ Cond.classLink own ik cls :: Cond.initialized cls :: vx_at0 own ic cls names, vx_ot w = true)
    (hU : vx_Zq Bundle.tN "UNASSIGNED_STACK" Bundle.steD A s s.heap) (hN : vx_Zq Bundle.tN "SUPPRESSED_SENTINEL" Bundle.listD A s s.heap) (hS : va_S A s.heap H locs) (hsize : ls.size = c.maxLocals)
    (d0 : decode cc pc = .ok (.new ik, 3)) (d3 : decode cc (pc + 3) = .ok (.dup, 1)) (d4 : decode cc (pc + 4) = .ok (.invokespecial ic, 3)) (d7 : decode cc (pc + 7) = .ok (.athrow, 1))
    (hout : ∀ x ∈ c.exceptionTable.toList, covers x (pc + 7) = false)
    (hRframes : names.length + 3 < R.frames) (hRlocals : (rest.map fun v => v.category).sum + (13 * (names.length + 1) + 42) ≤ R.locals) (hRcells : cells + 1 ≤ R.cells) (hRslots : slots + 6 ≤ R.slots) (hlocks : meth.locks = false)
    (hx : ∀ t : State, s.vm.Alike t.vm → H.size ≤ t.heap.size → (∀ q : Nat, q < H.size → t.heap[q]? = H[q]?) → XC cls s t)
    (hf : ∀ z ∈ locs, free z.base) (hc : cells + 1 ≤ mc) (hs : slots + 6 ≤ ms) :
    W p l e R s m args below meth c H locs cells slots (vx_MQ below Qc XC args s mc ms free) (F0 m pc ls rest) := by
  intro T hT X
  have htr : e.platform.stackTraces = false := (show e.platform.stackTraces = l.stackTraces by rw [X.admits.platform]).trans hl
  have Y := vx_rebase X (R' := { frames := R.frames, locals := R.locals, cells := 1, slots := 6 }) (Nat.le_refl _) (Nat.le_refl _) hRcells hRslots
  obtain ⟨s', hA⟩ : ∃ z, z = (T.setVm s.vm).setFrames (.invoking m args :: below) := ⟨_, rfl⟩
  rw [← hA] at Y
  have hvm : s'.vm = s.vm := by rw [hA]; rfl
  have hhp : s'.heap = H := by rw [hA]; exact hT
  have hW0 : s.WarmedH s'.vm := by rw [hvm]; exact State.WarmedH.refl s
  have hat' : ∀ w ∈ vx_at0 own ic cls names, w.before args s' = true := fun w hw => vx_ot_at hW0 hvm.symm (hgood w (List.mem_cons_of_mem _ (List.mem_cons_of_mem _ hw))) (hat w hw)
  have hk' : (Cond.classLink own ik cls).before args s' = true := vx_ot_at hW0 hvm.symm (hgood _ List.mem_cons_self) hk
  have hini' : (Cond.initialized cls).before args s' = true := vx_ot_at hW0 hvm.symm (hgood _ (List.mem_cons_of_mem _ List.mem_cons_self)) hini
  have hU' : vx_Zq Bundle.tN "UNASSIGNED_STACK" Bundle.steD A s' s'.heap := by rw [hhp]; exact vx_Zq.moved hW0.alike (hU.kept hS.2.1)
  have hN' : vx_Zq Bundle.tN "SUPPRESSED_SENTINEL" Bundle.listD A s' s'.heap := by rw [hhp]; exact vx_Zq.moved hW0.alike (hN.kept hS.2.1)
  have h : ∀ w ∈ Bundle.ownAtoms0 own ic cls names, w.before args s' = true := vx_own hat' (vx_isRefq hU'.1) (vx_isRefq hN'.1) hU'.2.word hN'.2.word
  have hown' : s'.vm.findClass own = some m.cls := by rw [hvm]; exact hown
  have hins : (Cond.instantiable cls 6).before args s' = true := h _ (by simp [Bundle.ownAtoms0])
  obtain ⟨vm₁, cX, kX, hfX, hkX, -, -, X₁, st1⟩ := Y.newCold hexec (own := own) (C := cls) (index := ik) (n := 6) hown' hk' hins hini'
    (g := F0 m pc ls rest) rfl (by rw [hb]; exact d0) (Nat.le_refl _) (Nat.le_refl _)
  generalize hT1 : (T.setVm vm₁).pushCell { cls := cX, slots := kX.instanceTypes.map defaultValue, vm := .none } = T1 at X₁ st1
  have hcat : (Value.ref T.heap.size).category = 1 := rfl
  have hcellA : T1.heap[T.heap.size]? = some (freshCell cX kX) := by rw [← hT1]; exact State.heap_pushCell_size _ _
  have d3' : decode c.code (pc + 3) = .ok (.dup, 1) := by rw [hb]; exact d3
  obtain ⟨U, hsteps, hrun, hend, hW, hsame, ce, hce, hO⟩ := X₁.ctorThrow0 hexec htr (own := own) (cls := cls) (names := names) (ic := ic) hown' hcls hnames h (fun x hx => nomatch hx) hfX hkX hcellA (by rw [hhp, hT]; exact Nat.le_refl _)
    (g := { method := m, pc := pc + 4, locals := ls, stack := .ref T.heap.size :: .ref T.heap.size :: rest, locked := none }) rfl hsize rfl rfl (rest := rest) rfl
    (by rw [hb]; exact d4) (by rw [hb]; exact d7) hout hRframes (by simp only [List.map_cons, List.sum_cons, hcat]; omega) hlocks
  obtain ⟨f1, f2⟩ := vx_frame hsame
  rw [hhp] at f1 f2
  have hWs : s.WarmedH U.vm := State.WarmedH.trans hW0 hW
  have hcl : s.vm.findClass cls = some ce.cls := by
    have h9 := hO.cls
    rw [hvm] at h9
    exact h9
  have hall : s.sameButNew ({ U with vm := s.vm } : State) locs mc ms := by
    subst hA
    obtain ⟨e1, e2⟩ := hsame
    rw [State.setFrames_setFrames] at e1
    have h2 : (T.setVm s.vm).sameButNew ({ U with vm := s.vm } : State) [] (0 + 1) (0 + 6) := ⟨e1, e2⟩
    have h3 := X.same.trans h2
    rw [List.append_nil] at h3
    exact h3.mono hc hs
  refine ⟨U, ?_, .threw T.heap.size, hrun, hend, Or.inr ⟨T.heap.size, rfl, cls, ce, locs, hx U hWs.alike f1 (fun q hq => f2 q hq (fun z hz => nomatch hz)), hce, hO.vm, hcl, hWs, hall, hf⟩⟩
  refine st1 _ ?_
  show Steps p.tables e below (T1.setTop { method := m, pc := pc + 3, locals := ls, stack := .ref T.heap.size :: rest, locked := none }) _
  jvm_step X₁.here [X₁.here.top, hexec, d3', Value.category]
  exact hsteps
/-- 'throw new E("text")': new; dup; ldc; invokespecial; athrow -/
theorem vx_throwS {cc : ByteArray} {pc : Nat} (hexec : p.tables.exec = Jvm.exec) (hb : c.code = cc) (hl : l.stackTraces = false) {own cls text : String} {names : List String} {ik is ic mc ms sa : Nat} {A : Nat → Prop}
    (hown : s.vm.findClass own = some m.cls) (hcls : Bundle.fit cls = true) (hnames : ∀ n ∈ names, Bundle.fit n = true)
    (hk : (Cond.classLink own ik cls).before args s = true) (hini : (Cond.initialized cls).before args s = true) (hstr : vk_R own is text sa s) (hat : ∀ w ∈ vx_atS own ic cls names, w.before args s = true)
    (hgood : ∀ w ∈ Cond.classLink own ik cls :: Cond.initialized cls :: vx_atS own ic cls names, vx_ot w = true)
    (hU : vx_Zq Bundle.tN "UNASSIGNED_STACK" Bundle.steD A s s.heap) (hN : vx_Zq Bundle.tN "SUPPRESSED_SENTINEL" Bundle.listD A s s.heap) (hS : va_S A s.heap H locs) (hsize : ls.size = c.maxLocals)
    (d0 : decode cc pc = .ok (.new ik, 3)) (d3 : decode cc (pc + 3) = .ok (.dup, 1)) (d4 : decode cc (pc + 4) = .ok (.ldc is, 2)) (d6 : decode cc (pc + 6) = .ok (.invokespecial ic, 3)) (d9 : decode cc (pc + 9) = .ok (.athrow, 1))
    (hout : ∀ x ∈ c.exceptionTable.toList, covers x (pc + 9) = false)
    (hRframes : names.length + 3 < R.frames) (hRlocals : (rest.map fun v => v.category).sum + (13 * (names.length + 1) + 43) ≤ R.locals) (hRcells : cells + 1 ≤ R.cells) (hRslots : slots + 6 ≤ R.slots) (hlocks : meth.locks = false)
    (hx : ∀ t : State, s.vm.Alike t.vm → H.size ≤ t.heap.size → (∀ q : Nat, q < H.size → t.heap[q]? = H[q]?) → XC cls s t)
    (hf : ∀ z ∈ locs, free z.base) (hc : cells + 1 ≤ mc) (hs : slots + 6 ≤ ms) :
    W p l e R s m args below meth c H locs cells slots (vx_MQ below Qc XC args s mc ms free) (F0 m pc ls rest) := by
  intro T hT X
  have htr : e.platform.stackTraces = false := (show e.platform.stackTraces = l.stackTraces by rw [X.admits.platform]).trans hl
  have Y := vx_rebase X (R' := { frames := R.frames, locals := R.locals, cells := 1, slots := 6 }) (Nat.le_refl _) (Nat.le_refl _) hRcells hRslots
  obtain ⟨s', hA⟩ : ∃ z, z = (T.setVm s.vm).setFrames (.invoking m args :: below) := ⟨_, rfl⟩
  rw [← hA] at Y
  have hvm : s'.vm = s.vm := by rw [hA]; rfl
  have hhp : s'.heap = H := by rw [hA]; exact hT
  have hW0 : s.WarmedH s'.vm := by rw [hvm]; exact State.WarmedH.refl s
  have hat' : ∀ w ∈ vx_atS own ic cls names, w.before args s' = true := fun w hw => vx_ot_at hW0 hvm.symm (hgood w (List.mem_cons_of_mem _ (List.mem_cons_of_mem _ hw))) (hat w hw)
  have hk' : (Cond.classLink own ik cls).before args s' = true := vx_ot_at hW0 hvm.symm (hgood _ List.mem_cons_self) hk
  have hini' : (Cond.initialized cls).before args s' = true := vx_ot_at hW0 hvm.symm (hgood _ (List.mem_cons_of_mem _ List.mem_cons_self)) hini
  have hU' : vx_Zq Bundle.tN "UNASSIGNED_STACK" Bundle.steD A s' s'.heap := by rw [hhp]; exact vx_Zq.moved hW0.alike (hU.kept hS.2.1)
  have hN' : vx_Zq Bundle.tN "SUPPRESSED_SENTINEL" Bundle.listD A s' s'.heap := by rw [hhp]; exact vx_Zq.moved hW0.alike (hN.kept hS.2.1)
  have h : ∀ w ∈ Bundle.ownAtoms own ic cls names, w.before args s' = true := vx_own hat' (vx_isRefq hU'.1) (vx_isRefq hN'.1) hU'.2.word hN'.2.word
  have hown' : s'.vm.findClass own = some m.cls := by rw [hvm]; exact hown
  have hins : (Cond.instantiable cls 6).before args s' = true := h _ (by simp [Bundle.ownAtoms])
  obtain ⟨vm₁, cX, kX, hfX, hkX, -, -, X₁, st1⟩ := Y.newCold hexec (own := own) (C := cls) (index := ik) (n := 6) hown' hk' hins hini'
    (g := F0 m pc ls rest) rfl (by rw [hb]; exact d0) (Nat.le_refl _) (Nat.le_refl _)
  generalize hT1 : (T.setVm vm₁).pushCell { cls := cX, slots := kX.instanceTypes.map defaultValue, vm := .none } = T1 at X₁ st1
  have hcat : (Value.ref T.heap.size).category = 1 := rfl
  have hcellA : T1.heap[T.heap.size]? = some (freshCell cX kX) := by rw [← hT1]; exact State.heap_pushCell_size _ _
  have d3' : decode c.code (pc + 3) = .ok (.dup, 1) := by rw [hb]; exact d3
  have d4' : decode c.code (pc + 4) = .ok (.ldc is, 2) := by rw [hb]; exact d4
  have hstr' : vk_R own is text sa s' := vk_R.warm hW0 hstr
  obtain ⟨U, hsteps, hrun, hend, hW, hsame, ce, hce, hO⟩ := X₁.ctorThrowS hexec htr (own := own) (cls := cls) (names := names) (ic := ic) hown' hcls hnames h (fun x hx => nomatch hx) hfX hkX hcellA (by rw [hhp, hT]; exact Nat.le_refl _) (msg := .ref sa) rfl
    (g := { method := m, pc := pc + 6, locals := ls, stack := .ref sa :: .ref T.heap.size :: .ref T.heap.size :: rest, locked := none }) rfl hsize rfl rfl (rest := rest) rfl
    (by rw [hb]; exact d6) (by rw [hb]; exact d9) hout hRframes (by simp only [List.map_cons, List.sum_cons, hcat]; omega) hlocks
  obtain ⟨f1, f2⟩ := vx_frame hsame
  rw [hhp] at f1 f2
  have hWs : s.WarmedH U.vm := State.WarmedH.trans hW0 hW
  have hcl : s.vm.findClass cls = some ce.cls := by
    have h9 := hO.cls
    rw [hvm] at h9
    exact h9
  have hall : s.sameButNew ({ U with vm := s.vm } : State) locs mc ms := by
    subst hA
    obtain ⟨e1, e2⟩ := hsame
    rw [State.setFrames_setFrames] at e1
    have h2 : (T.setVm s.vm).sameButNew ({ U with vm := s.vm } : State) [] (0 + 1) (0 + 6) := ⟨e1, e2⟩
    have h3 := X.same.trans h2
    rw [List.append_nil] at h3
    exact h3.mono hc hs
  refine ⟨U, ?_, .threw T.heap.size, hrun, hend, Or.inr ⟨T.heap.size, rfl, cls, ce, locs, hx U hWs.alike f1 (fun q hq => f2 q hq (fun z hz => nomatch hz)), hce, hO.vm, hcl, hWs, hall, hf⟩⟩
  refine st1 _ ?_
  show Steps p.tables e below (T1.setTop { method := m, pc := pc + 3, locals := ls, stack := .ref T.heap.size :: rest, locked := none }) _
  jvm_step X₁.here [X₁.here.top, hexec, d3', Value.category]
  exact X₁.ldcString hexec (own := own) (text := text) (index := is) (a := sa) hown' hstr'.1 hstr'.2
    (g := { method := m, pc := pc + 4, locals := ls, stack := .ref T.heap.size :: .ref T.heap.size :: rest, locked := none }) rfl d4' _ hsteps
/-- 'throw new E("text")', the text by a wide index -/
theorem vx_throwSW {cc : ByteArray} {pc : Nat} (hexec : p.tables.exec = Jvm.exec) (hb : c.code = cc) (hl : l.stackTraces = false) {own cls text : String} {names : List String} {ik is ic mc ms sa : Nat} {A : Nat → Prop}
    (hown : s.vm.findClass own = some m.cls) (hcls : Bundle.fit cls = true) (hnames : ∀ n ∈ names, Bundle.fit n = true)
    (hk : (Cond.classLink own ik cls).before args s = true) (hini : (Cond.initialized cls).before args s = true) (hstr : vk_R own is text sa s) (hat : ∀ w ∈ vx_atS own ic cls names, w.before args s = true)
    (hgood : ∀ w ∈ Cond.classLink own ik cls :: Cond.initialized cls :: vx_atS own ic cls names, vx_ot w = true)
    (hU : vx_Zq Bundle.tN "UNASSIGNED_STACK" Bundle.steD A s s.heap) (hN : vx_Zq Bundle.tN "SUPPRESSED_SENTINEL" Bundle.listD A s s.heap) (hS : va_S A s.heap H locs) (hsize : ls.size = c.maxLocals)
    (d0 : decode cc pc = .ok (.new ik, 3)) (d3 : decode cc (pc + 3) = .ok (.dup, 1)) (d4 : decode cc (pc + 4) = .ok (.ldc_w is, 3)) (d7 : decode cc (pc + 7) = .ok (.invokespecial ic, 3)) (d10 : decode cc (pc + 10) = .ok (.athrow, 1))
    (hout : ∀ x ∈ c.exceptionTable.toList, covers x (pc + 10) = false)
    (hRframes : names.length + 3 < R.frames) (hRlocals : (rest.map fun v => v.category).sum + (13 * (names.length + 1) + 43) ≤ R.locals) (hRcells : cells + 1 ≤ R.cells) (hRslots : slots + 6 ≤ R.slots) (hlocks : meth.locks = false)
    (hx : ∀ t : State, s.vm.Alike t.vm → H.size ≤ t.heap.size → (∀ q : Nat, q < H.size → t.heap[q]? = H[q]?) → XC cls s t)
    (hf : ∀ z ∈ locs, free z.base) (hc : cells + 1 ≤ mc) (hs : slots + 6 ≤ ms) :
    W p l e R s m args below meth c H locs cells slots (vx_MQ below Qc XC args s mc ms free) (F0 m pc ls rest) := by
  intro T hT X
  have htr : e.platform.stackTraces = false := (show e.platform.stackTraces = l.stackTraces by rw [X.admits.platform]).trans hl
  have Y := vx_rebase X (R' := { frames := R.frames, locals := R.locals, cells := 1, slots := 6 }) (Nat.le_refl _) (Nat.le_refl _) hRcells hRslots
  obtain ⟨s', hA⟩ : ∃ z, z = (T.setVm s.vm).setFrames (.invoking m args :: below) := ⟨_, rfl⟩
  rw [← hA] at Y
  have hvm : s'.vm = s.vm := by rw [hA]; rfl
  have hhp : s'.heap = H := by rw [hA]; exact hT
  have hW0 : s.WarmedH s'.vm := by rw [hvm]; exact State.WarmedH.refl s
  have hat' : ∀ w ∈ vx_atS own ic cls names, w.before args s' = true := fun w hw => vx_ot_at hW0 hvm.symm (hgood w (List.mem_cons_of_mem _ (List.mem_cons_of_mem _ hw))) (hat w hw)
  have hk' : (Cond.classLink own ik cls).before args s' = true := vx_ot_at hW0 hvm.symm (hgood _ List.mem_cons_self) hk
  have hini' : (Cond.initialized cls).before args s' = true := vx_ot_at hW0 hvm.symm (hgood _ (List.mem_cons_of_mem _ List.mem_cons_self)) hini
  have hU' : vx_Zq Bundle.tN "UNASSIGNED_STACK" Bundle.steD A s' s'.heap := by rw [hhp]; exact vx_Zq.moved hW0.alike (hU.kept hS.2.1)
  have hN' : vx_Zq Bundle.tN "SUPPRESSED_SENTINEL" Bundle.listD A s' s'.heap := by rw [hhp]; exact vx_Zq.moved hW0.alike (hN.kept hS.2.1)
  have h : ∀ w ∈ Bundle.ownAtoms own ic cls names, w.before args s' = true := vx_own hat' (vx_isRefq hU'.1) (vx_isRefq hN'.1) hU'.2.word hN'.2.word
  have hown' : s'.vm.findClass own = some m.cls := by rw [hvm]; exact hown
  have hins : (Cond.instantiable cls 6).before args s' = true := h _ (by simp [Bundle.ownAtoms])
  obtain ⟨vm₁, cX, kX, hfX, hkX, -, -, X₁, st1⟩ := Y.newCold hexec (own := own) (C := cls) (index := ik) (n := 6) hown' hk' hins hini'
    (g := F0 m pc ls rest) rfl (by rw [hb]; exact d0) (Nat.le_refl _) (Nat.le_refl _)
  generalize hT1 : (T.setVm vm₁).pushCell { cls := cX, slots := kX.instanceTypes.map defaultValue, vm := .none } = T1 at X₁ st1
  have hcat : (Value.ref T.heap.size).category = 1 := rfl
  have hcellA : T1.heap[T.heap.size]? = some (freshCell cX kX) := by rw [← hT1]; exact State.heap_pushCell_size _ _
  have d3' : decode c.code (pc + 3) = .ok (.dup, 1) := by rw [hb]; exact d3
  have d4' : decode c.code (pc + 4) = .ok (.ldc_w is, 3) := by rw [hb]; exact d4
  have hstr' : vk_R own is text sa s' := vk_R.warm hW0 hstr
  obtain ⟨U, hsteps, hrun, hend, hW, hsame, ce, hce, hO⟩ := X₁.ctorThrowS hexec htr (own := own) (cls := cls) (names := names) (ic := ic) hown' hcls hnames h (fun x hx => nomatch hx) hfX hkX hcellA (by rw [hhp, hT]; exact Nat.le_refl _) (msg := .ref sa) rfl
    (g := { method := m, pc := pc + 7, locals := ls, stack := .ref sa :: .ref T.heap.size :: .ref T.heap.size :: rest, locked := none }) rfl hsize rfl rfl (rest := rest) rfl
    (by rw [hb]; exact d7) (by rw [hb]; exact d10) hout hRframes (by simp only [List.map_cons, List.sum_cons, hcat]; omega) hlocks
  obtain ⟨f1, f2⟩ := vx_frame hsame
  rw [hhp] at f1 f2
  have hWs : s.WarmedH U.vm := State.WarmedH.trans hW0 hW
  have hcl : s.vm.findClass cls = some ce.cls := by
    have h9 := hO.cls
    rw [hvm] at h9
    exact h9
  have hall : s.sameButNew ({ U with vm := s.vm } : State) locs mc ms := by
    subst hA
    obtain ⟨e1, e2⟩ := hsame
    rw [State.setFrames_setFrames] at e1
    have h2 : (T.setVm s.vm).sameButNew ({ U with vm := s.vm } : State) [] (0 + 1) (0 + 6) := ⟨e1, e2⟩
    have h3 := X.same.trans h2
    rw [List.append_nil] at h3
    exact h3.mono hc hs
  refine ⟨U, ?_, .threw T.heap.size, hrun, hend, Or.inr ⟨T.heap.size, rfl, cls, ce, locs, hx U hWs.alike f1 (fun q hq => f2 q hq (fun z hz => nomatch hz)), hce, hO.vm, hcl, hWs, hall, hf⟩⟩
  refine st1 _ ?_
  show Steps p.tables e below (T1.setTop { method := m, pc := pc + 3, locals := ls, stack := .ref T.heap.size :: rest, locked := none }) _
  jvm_step X₁.here [X₁.here.top, hexec, d3', Value.category]
  exact X₁.ldcStringW hexec (own := own) (text := text) (index := is) (a := sa) hown' hstr'.1 hstr'.2
    (g := { method := m, pc := pc + 4, locals := ls, stack := .ref T.heap.size :: .ref T.heap.size :: rest, locked := none }) rfl d4' _ hsteps
end Ends
section Bodies
variable {l : Launch}
theorem vx_ofW {y : MethodName} {ws ws' : List Cond} {rm : Room} {Pc : Array Value → State → Prop} {Qc : Array Value → State → Outcome → State → Prop} {XC : String → State → State → Prop} {mc ms : Nat} {free : Addr → Prop} {cc : ByteArray} {maxL : Nat} {ret : Option FieldType}
    (hy : plainName y.cls = true) (hw : ws = Cond.code y cc maxL ret :: ws')
    (body : ∀ p e s m args below meth c s₁, BodyLoose p l y (headSpec ws rm) cc maxL ret e s m args below meth c s₁ → c.maxLocals = maxL → (∀ x ∈ c.exceptionTable.toList, False) → Pc args s →
      W p l e (headSpec ws rm).room s m args below meth c s.heap [] 0 0 (vx_MQ below Qc XC args s mc ms free) (entryFrame m args maxL)) : vx_Met l y ws rm Pc Qc XC mc ms free := by
  refine MetFree.of_bodyS (code := cc) (maxLocals := maxL) (ret := ret) hy ?_ ?_
  · intro args s m h hn
    obtain ⟨meth, c, h1, h2, h3, h4, h5, h6, -, -⟩ := Cond.code_spec hn (atoms_spec (ws := ws) h _ (by rw [hw]; exact List.mem_cons_self))
    exact ⟨meth, c, h1, h2, h3, h4, h5, h6⟩
  · intro p e s m args below meth c s₁ B hml hP _
    have hh0 : s₁.heap = s.heap := by rw [B.state]; rfl
    have ht : ∀ x ∈ c.exceptionTable.toList, False := by
      obtain ⟨meth9, c9, h1, h2, -, -, -, -, h7, -⟩ := Cond.code_spec B.named (atoms_spec (ws := ws) B.pre _ (by rw [hw]; exact List.mem_cons_self))
      cases Option.some.inj (h1.symm.trans B.method)
      cases Option.some.inj (h2.symm.trans (Stand.of_body B).code)
      intro x hx
      rw [Array.isEmpty_iff.mp h7] at hx
      cases hx
    obtain ⟨t, a1, o, b1, b2, b3⟩ := body p e s m args below meth c s₁ B hml ht hP s₁ hh0 (Stand.of_body B)
    exact ⟨t, o, a1, b1, b2, b3⟩
/-- the table of a body with handlers -/
theorem vx_table {p : Program} {x y : MethodName} {S : Spec} {cc bytes : ByteArray} {maxL maxL' : Nat} {ret ret' : Option FieldType} {e : Env} {s s₁ : State} {m : MethodId} {args : Array Value} {below : List Frame} {meth : Method} {c : Code} {hh : List (Nat × Nat × Nat × Nat)}
    (B : BodyLoose p l y S cc maxL ret e s m args below meth c s₁) (h : (Cond.codeWith y bytes maxL' ret' hh).before args s = true) : c.exceptionTable.toList = tableOf hh := by
  obtain ⟨m9, meth9, c9, hn9, h1, h2, -, -, h6, -⟩ := Cond.codeWith_spec h
  cases Option.some.inj (hn9.symm.trans B.named)
  cases Option.some.inj (h1.symm.trans B.method)
  cases Option.some.inj (h2.symm.trans (Stand.of_body B).code)
  rw [← h6, table_eq]
end Bodies
end VXA
/-! ===== END ===== -/
/-! ===== BEGIN a static call of a method with an exception table ===== -/
section VXS
variable {p : Program} {l : Launch} {e : Env} {R : Room} {s : State} {m : MethodId} {args : Array Value} {below : List Frame} {meth : Method} {c : Code} {T : State} {H : Heap} {locs : List Loc} {cells slots : Nat}
abbrev vx_CSW (R : Room) (s : State) (args : Array Value) (own : String) (index : Nat) (y : MethodName) (bytes : ByteArray) (maxL : Nat) (ret : Option FieldType) (hh : List (Nat × Nat × Nat × Nat)) (ws : List Cond) (rm : Room) (mc ms n : Nat) : Prop :=
  (rm.cells = mc ∧ rm.slots = ms ∧ rm.frames + 1 ≤ R.frames ∧ 8 + (maxL + 11) + rm.locals ≤ R.locals ∧ (∀ w ∈ ws, ∀ (a' : Array Value) (U : State), s.WarmedH U.vm → w.before a' U = true) ∧ Cond.codeWith y bytes maxL ret hh ∈ ws) ∧
  (Cond.codeWith y bytes maxL ret hh).before args s = true ∧ (Cond.initialized y.cls).before args s = true ∧ (y.cls ≠ "java/lang/invoke/MethodHandle" ∧ y.cls ≠ "java/lang/invoke/VarHandle") ∧
  (∀ sig, parseMethodDescriptor y.desc = some sig → n = sig.parameters.length) ∧ (Cond.methodLink own index y).before args s = true ∧ (Cond.static y).before args s = true
theorem vx_cwSW {own : String} {index maxL mc ms : Nat} {y : MethodName} {bytes : ByteArray} {ret : Option FieldType} {hh : List (Nat × Nat × Nat × Nat)} {Ts ws ws' : List Cond} {rm : Room} (n : Nat) (ht : ∀ w ∈ Ts, w.before args s = true) (hT : GoodIn Ts (va_wsS own index y ws)) (hw : ws = Cond.codeWith y bytes maxL ret hh :: ws') (hrc : rm.cells = mc) (hrs : rm.slots = ms)
    (hd : y.cls ≠ "java/lang/invoke/MethodHandle" ∧ y.cls ≠ "java/lang/invoke/VarHandle" ∧ (parseMethodDescriptor y.desc).map (fun d => d.parameters.length) = some n) (hR : rm.frames + 1 ≤ R.frames ∧ 8 + (maxL + 11) + rm.locals ≤ R.locals) :
    vx_CSW R s args own index y bytes maxL ret hh ws rm mc ms n := by
  have ok : ∀ w ∈ va_wsS own index y ws, w.before args s = true := fun w h => ht w (hT w h).1
  have hG : GoodIn Ts ws := fun w h => hT w (by unfold va_wsS; exact List.mem_append_right _ h)
  have hc : Cond.codeWith y bytes maxL ret hh ∈ ws := by rw [hw]; exact List.mem_cons_self
  refine ⟨⟨hrc, hrs, hR.1, hR.2, pay_in ht hG, hc⟩, ht _ (hG _ hc).1, ok _ (by simp [va_wsS]), ⟨hd.1, hd.2.1⟩, fun sig h => ?_, ok _ (by simp [va_wsS]), ok _ (by simp [va_wsS])⟩
  have h2 := hd.2.2
  rw [h] at h2
  exact (Option.some.inj h2).symm
theorem vx_callSW (X : Stand p l e R s m args below meth c T locs cells slots) (hexec : p.tables.exec = Jvm.exec) {own : String} {index : Nat} {y : MethodName} {bytes : ByteArray} {maxL : Nat} {ret : Option FieldType} {hh : List (Nat × Nat × Nat × Nat)}
    (hown : s.vm.findClass own = some m.cls) (hlink : (Cond.methodLink own index y).before args s = true) (hstat : (Cond.static y).before args s = true) (hinit : (Cond.initialized y.cls).before args s = true)
    (hcode : (Cond.codeWith y bytes maxL ret hh).before args s = true) (hy : y.cls ≠ "java/lang/invoke/MethodHandle" ∧ y.cls ≠ "java/lang/invoke/VarHandle")
    {W9 : Nat} {Pre : Pt → Array Value → Prop} {Post : Pt → Array Value → Option Value → Pt → Prop} (hK : Back l R p e below s args y 3 W9 Pre Post)
    {g : JFrame} (hg : g.method = m) (hsize : g.locals.size = c.maxLocals) {argsL rest : List Value} (hlen : ∀ sig, parseMethodDescriptor y.desc = some sig → argsL.length = sig.parameters.length)
    (hstack : g.stack = argsL.reverse ++ rest) (hW : 2 * g.monitorRoom + (rest.map fun v => v.category).sum ≤ W9) (hdg : decode c.code g.pc = .ok (.invokestatic index, 3))
    (hpre : ∀ vm₁, s.WarmedH vm₁ → Pre ⟨T.setVm vm₁, locs, cells, slots⟩ argsL.toArray) :
    ∃ (v : Option Value) (vm₁ : Vm) (B : Pt), s.WarmedH vm₁ ∧ Stand p l e R s m args below meth c B.U B.locs B.cells B.slots ∧ Post ⟨T.setVm vm₁, locs, cells, slots⟩ argsL.toArray v B ∧
      ∀ target, Steps p.tables e below (B.U.setTop { g with pc := g.pc + 3, stack := v.toList ++ rest }) target → Steps p.tables e below (T.setTop g) target := by
  obtain ⟨mk, methM, cM, hnamed, hmethM, -, -, -, -, -, -, hsigM⟩ := Cond.codeWith_spec hcode
  have hstatic : methM.isStatic = true := Cond.static_spec hnamed hmethM hstat
  obtain ⟨kP, hkP, -⟩ := className_of_methodNamed hnamed
  have hinitP : kP.init = .initialized := Cond.initialized_spec (findClass_of_methodNamed hnamed) hkP hinit
  obtain ⟨vm₁, X₁, hstep₁⟩ := X.invokestatic hexec hown hlink hnamed hmethM hstatic hkP hinitP hy (g := g) hg (argsL := argsL) (rest := rest) (hlen _ hsigM) hstack hdg
  obtain ⟨v, B, X', hpost, hsteps⟩ := hK m meth c ⟨T.setVm vm₁, locs, cells, slots⟩ { g with stack := rest } (.invokestatic index) mk argsL.toArray X₁ hg hsize hdg hW (X₁.named hnamed) (hpre vm₁ X₁.warmed)
  exact ⟨v, vm₁, B, X₁.warmed, X', hpost, fun target h => hstep₁ _ fun acts => by rw [doInvoke_state]; exact hsteps.trans h⟩
theorem vx_runSW {y : MethodName} {bytes cc : ByteArray} {maxL nL mc ms n index : Nat} {ret : Option FieldType} {hh : List (Nat × Nat × Nat × Nat)} {ws : List Cond} {rm : Room} {Pc : Array Value → State → Prop} {Qc : Array Value → State → Outcome → State → Prop} {free : Addr → Prop} {Ts : List Cond} {own : String} {As rest : List Value} {g : JFrame}
    (S : CallFix p m c cc nL s args Ts own) (hM : Met l y ws rm Pc Qc mc ms free) (cw : vx_CSW R s args own index y bytes maxL ret hh ws rm mc ms n) (hp : PreS s H Pc As)
    (hg : g.method = m) (hn : As.length = n) (hsize : g.locals.size = nL) (hstack : g.stack = As.reverse ++ rest) (hW : 2 * g.monitorRoom + (rest.map fun v => v.category).sum ≤ 8) (hdg : decode cc g.pc = .ok (.invokestatic index, 3)) (hf : cells + mc ≤ R.cells ∧ slots + ms ≤ R.slots) :
    va_Run p l e R s m args below meth c H locs cells slots mc ms g rest (Qc As.toArray) (free) := by
  obtain ⟨⟨hrc, hrs, hfr, hlo, hws, hcw⟩, hcode, hini, hy, hlen, hl, hstt⟩ := cw
  have hK : Back l R p e below s args y 3 8 (PreOf R mc ms Pc) (PostOf Qc mc ms free) := va_backW (hh := hh) (bytes := bytes) (maxL := maxL) (ret := ret) hM hp.1 hrc hrs hfr hlo hws hcw (fun a' U hW => word_at hW (Or.inl (by first | rfl | simp [Cond.onTables, Cond.keeps, Cond.steady])) hini)
  obtain ⟨hx, hb, hml, ho, -⟩ := S
  intro T hT X
  obtain ⟨v, vm₁, ⟨U', l2, c2, s2⟩, hW₁, X', ⟨g', mk, t, L, e1, e2, hq, h1, hL, h2, h3⟩, st⟩ := vx_callSW X hx (hh := hh) (bytes := bytes) (maxL := maxL) (ret := ret) ho hl hstt hini hcode hy hK hg (hsize.trans hml.symm) (argsL := As) (rest := rest) (fun sig h => hn.trans (hlen sig h)) hstack hW (by rw [hb]; exact hdg)
    (fun vm₁ hW₁ => ⟨hf.1, hf.2, hp.2 (T.setVm vm₁) hT hW₁⟩)
  dsimp only [Pt.U, Pt.locs, Pt.cells, Pt.slots] at X' e1 e2 h1 h2 h3 st
  subst h1; subst h2; subst h3
  exact ⟨v, (T.setVm vm₁).calling g' mk As.toArray, t, U', L, hT, X', hL, e1, e2, hq, st⟩
/-- not caught here, past rows that name other classes: it goes on to the caller -/
theorem vx_outP {p : Program} {l : Launch} {e : Env} {R : Room} {s : State} {m : MethodId} {args : Array Value} {below : List Frame} {meth : Method} {c : Code} {H : Heap} {locs : List Loc} {cells slots : Nat} {free : Addr → Prop} {ls : Array Slot} {rest : List Value} {Qc : Array Value → State → Outcome → State → Prop} {XC : String → State → State → Prop}
    {pc : Nat} {own E : String} {ce : Cell} {q : Addr} {mc ms : Nat} (hown : s.vm.findClass own = some m.cls) (hlocks : meth.locks = false)
    (hpass : ∀ z ∈ c.exceptionTable.toList, covers z pc = false ∨ (z.catchType ≠ 0 ∧ ∃ nm : String, (Cond.classLink own z.catchType nm).before args s = true ∧ va_Nc E nm s)) (hcell : H[q]? = some ce) (hv : ce.vm = .none) (hcl : s.vm.findClass E = some ce.cls)
    (hx : ∀ t : State, t.heap = H → s.vm.Alike t.vm → XC E s t) (hf : ∀ z ∈ locs, free z.base) (hc : cells ≤ mc) (hs : slots ≤ ms) :
    vx_W p l e R s m args below meth c H locs cells slots (vx_MQ below Qc XC args s mc ms free) (F0 m pc ls rest) q := by
  intro T hT X
  have hpl : e.platform.magicAccessors = ({} : Platform).magicAccessors := by rw [X.admits.platform]
  obtain ⟨vm', hW', X', st⟩ := X.outThrough hlocks q (g := F0 m pc ls rest) rfl rfl rfl (cell := ce) (by rw [hT]; exact hcell) (by rw [hv]; rfl)
    (by obtain ⟨k9, h9, -⟩ := Vm.findClass_spec hcl; exact ⟨k9, h9⟩) (fun z hz => by
      rcases hpass z hz with h | ⟨hz0, nm, hl1, hn1⟩
      · exact Or.inl h
      · obtain ⟨c6, hc6, hcl6⟩ := Cond.classLink_spec hown hl1 e.platform hpl
        obtain ⟨a8, b8, h1, h2, h3⟩ := hn1
        cases Option.some.inj (h1.symm.trans hcl)
        cases Option.some.inj (h2.symm.trans hc6)
        exact Or.inr ⟨hz0, _, hcl6, h3⟩)
  obtain ⟨g₀, hfr⟩ := X'.frames_eq
  have hcell9 : ((T.setVm vm').setFrames (.throwing q :: below)).heap[q]? = some ce := by
    show T.heap[q]? = some ce
    rw [hT]; exact hcell
  have hend : Ended ((T.setVm vm').setFrames (.throwing q :: below)) below (.threw q) := State.frames_setFrames _ (State.cur_lt_of_frames hfr)
  refine ⟨(T.setVm vm').setFrames (.throwing q :: below), ?_, .threw q, X'.here.running, hend, Or.inr ⟨q, rfl, E, ce, locs, hx _ hT (X'.ends _).1.alike, hcell9, hv, hcl, (X'.ends _).1, (X'.ends _).2.mono hc hs, hf⟩⟩
  rw [X.pushThrowing_eq]
  exact st
/-- a thing of a world lies in the heap -/
theorem vx_lt {D : va_G} {cl : List vw_C} {ws : va_W} {H1 : Heap} (h : va_P D cl ws H1) {k : Nat} {q : Nat × va_E} (hk : ws[k]? = some q) : q.1 < H1.size := (h k q hk).lt
end VXS
/-! ===== END ===== -/
/-! ===== BEGIN methods with a table of their own: called by a name, returning or throwing ===== -/
section VXH
/-! vx_backW, vx_callVX, vx_callSX, vx_callVW, vx_runVW, vx_runVX, vx_runSX, vx_ofWH follow the same proofs as their sisters above (Free/Laws.lean, Shelf42/LK1.lean); vx_outP calls Shelf42/NT130.lean (outThrough). -/
section
variable {l : Launch} {R : Room} {p : Program} {e : Env} {below : List Frame} {s : State} {sargs : Array Value} {y : MethodName} {len W9 : Nat}
theorem vx_backW {ws : List Cond} {rm : Room} {Pc : Array Value → State → Prop} {Qc : Array Value → State → Outcome → State → Prop} {XC : String → State → State → Prop} {mc ms : Nat} {free : Addr → Prop} {bytes : ByteArray} {maxL : Nat} {ret : Option FieldType} {hh : List (Nat × Nat × Nat × Nat)}
    (hM : vx_Met l y ws rm Pc Qc XC mc ms free) (hblind : FrameBlind Pc) (hrc : rm.cells = mc) (hrs : rm.slots = ms)
    (hframes : rm.frames + 1 ≤ R.frames) (hlocals : W9 + (maxL + 11) + rm.locals ≤ R.locals)
    (hws : ∀ w ∈ ws, ∀ a' U, s.WarmedH U.vm → w.before a' U = true) (hcode : Cond.codeWith y bytes maxL ret hh ∈ ws) (hinit : ∀ a' U, s.WarmedH U.vm → (Cond.initialized y.cls).before a' U = true) :
    vx_Back l R p e below s sargs y len W9 (PreOf R mc ms Pc) (PostOf Qc mc ms free) (vx_Post XC mc ms free) := by
  intro m meth c A g ig mk a X hg hsize hdg hW hn hp
  have h1 : (headSpec ws rm).pre.before a A.U = true := atoms_intro fun w hw => hws w hw _ _ X.warmed
  have h2 : (Cond.codeWith y bytes maxL ret hh).before a A.U = true := hws _ hcode _ _ X.warmed
  have h3 : (Cond.initialized y.cls).before a A.U = true := hinit _ _ X.warmed
  have h4 : A.cells + (headSpec ws rm).room.cells ≤ R.cells := by rw [show (headSpec ws rm).room.cells = mc from hrc]; exact hp.1
  have h5 : A.slots + (headSpec ws rm).room.slots ≤ R.slots := by rw [show (headSpec ws rm).room.slots = ms from hrs]; exact hp.2.1
  have hPc : Pc a (A.U.calling g mk a) := hblind _ _ _ _ hp.2.2
  obtain ⟨U, Ls, c0, s0⟩ := A
  dsimp only [Pt.U, Pt.locs, Pt.cells, Pt.slots] at h1 h2 h3 h4 h5 X hn hPc ⊢
  obtain ⟨m9, methY, cY, hn9, hmY, hcY, -, hlY, -⟩ := Cond.codeWith_spec h2
  cases Option.some.inj (hn9.symm.trans hn)
  obtain ⟨kY, hkY, -⟩ := className_of_methodNamed hn
  have hinitY : kY.init = .initialized := Cond.initialized_spec (findClass_of_methodNamed hn) hkY h3
  have h : At U g.method c below := by rw [hg]; exact X.here
  have hlocals9 : W9 + (maxL + 11) + (headSpec ws rm).room.locals ≤ R.locals := hlocals
  have happ : (headSpec ws rm).appliesLoose y e.platform (U.calling g mk a) = true :=
    Spec.appliesLoose_calling (g := g) h hdg hn hkY hinitY
      (X.room_calling (g := g) (R' := (headSpec ws rm).room) hsize hmY hcY hframes (by rw [hlY]; omega) h4 h5) h1
  obtain ⟨mid, hmid⟩ := h.above
  have hfr : (U.setTop g).frames = (.java g :: mid) ++ below := by rw [State.frames_setTop' g h.top, hmid]; rfl
  obtain ⟨o, s₂, hsteps, -, hend, hq⟩ := Steps.callFree hM p X.admits X.cas X.clock (acts := []) hfr happ hPc trivial
  have hq' : vx_Q Qc XC mc ms free a (U.calling g mk a) o s₂ := hq
  rw [State.frames_setTop' g h.top] at hend
  obtain ⟨g₀, hg0⟩ := Option.isSome_iff_exists.mp h.top
  obtain ⟨r, hr⟩ := State.topJava?_eq_some.mp hg0
  have hr' : (({ U with heap := s₂.heap, slotsUsed := s₂.slotsUsed } : State).setVm s₂.vm).frames = .java g₀ :: r := hr
  rcases hq' with ⟨hqc, L, hfe, hL⟩ | ⟨q, rfl, E, ce, L, hx, hce, hcv, hcl, hW₂, hsm, hL⟩
  · obtain ⟨⟨v, rfl⟩, hW₂, e2, q2, q3, q4, q5, q6⟩ := id hfe
    have e3 : s₂ = ({ (U.calling g mk a).setFrames s₂.frames with heap := s₂.heap, slotsUsed := s₂.slotsUsed } : State).setVm s₂.vm := by
      have : s₂ = ({ s₂ with vm := (U.calling g mk a).vm } : State).setVm s₂.vm := rfl
      rw [e2] at this
      exact this
    obtain ⟨c₂, i₂, len₂, hc₂, hd₂, hf₂⟩ := hend
    have hW' : U.WarmedH s₂.vm := hW₂
    have hcc : c₂ = c := by
      have h1 : s₂.code? g.method = U.code? g.method := by
        rw [State.code?_eq, State.code?_eq, hW'.alike.method?]
      exact Option.some.inj (hc₂.symm.trans (h1.trans h.code))
    subst hcc
    have hlen : len₂ = len := by rw [hdg] at hd₂; cases hd₂; rfl
    subst hlen
    have hs₂ : s₂ = (({ U with heap := s₂.heap, slotsUsed := s₂.slotsUsed } : State).setVm s₂.vm).setTop { g with pc := g.pc + len₂, stack := v.toList ++ g.stack } := by
      refine e3.trans ?_
      rw [hf₂, State.calling_eq h.top, State.setFrames_setFrames, State.setTop_of_frames _ hr', hr]
      rfl
    have hsame : U.sameButNew ({ U with heap := s₂.heap, slotsUsed := s₂.slotsUsed } : State) L mc ms := by
      refine ⟨?_, q2, q3, q4, q5, q6⟩
      obtain ⟨t, ht, -⟩ := State.frames_cons hr
      show ({ U with heap := s₂.heap, slotsUsed := s₂.slotsUsed } : State) = { U.setFrames U.frames with heap := s₂.heap, slotsUsed := s₂.slotsUsed }
      rw [State.setFrames_self ht]
    subst hg
    refine Or.inl ⟨v, ⟨(({ U with heap := s₂.heap, slotsUsed := s₂.slotsUsed } : State).setVm s₂.vm), Ls ++ L, c0 + mc, s0 + ms⟩,
      ⟨X.admits, X.cas, X.clock, X.frames, X.room, X.hears, X.method, X.code, (X.here.setHeapUsed s₂.heap s₂.slotsUsed).setVm hW'.alike, X.tail, State.WarmedH.trans X.warmed hW', X.limits, X.bytes, X.same.trans (hsame.setVm s.vm)⟩,
      ⟨g, mk, s₂, L, rfl, rfl, hqc, rfl, hL, rfl, rfl⟩, ?_⟩
    show Steps p.tables e below _ ((({ U with heap := s₂.heap, slotsUsed := s₂.slotsUsed } : State).setVm s₂.vm).setTop { g with pc := g.pc + len₂, stack := v.toList ++ g.stack })
    rw [← hs₂]
    exact hsteps
  · obtain ⟨e2, q2, q3, q4, q5, q6⟩ := id hsm
    have e3 : s₂ = ({ (U.calling g mk a).setFrames s₂.frames with heap := s₂.heap, slotsUsed := s₂.slotsUsed } : State).setVm s₂.vm := by
      have : s₂ = ({ s₂ with vm := (U.calling g mk a).vm } : State).setVm s₂.vm := rfl
      rw [e2] at this
      exact this
    have hf₂ : s₂.frames = .throwing q :: .java g :: U.frames.tail := hend
    have hW' : U.WarmedH s₂.vm := hW₂
    have hs₂ : s₂ = ((({ U with heap := s₂.heap, slotsUsed := s₂.slotsUsed } : State).setVm s₂.vm).setTop g).pushFrame (.throwing q) := by
      refine e3.trans ?_
      rw [hf₂, State.calling_eq h.top, State.setFrames_setFrames, State.pushFrame, State.frames_setTop _ hr', State.setTop_of_frames _ hr', State.setFrames_setFrames, hr]
      rfl
    have hsame : U.sameButNew ({ U with heap := s₂.heap, slotsUsed := s₂.slotsUsed } : State) L mc ms := by
      refine ⟨?_, q2, q3, q4, q5, q6⟩
      obtain ⟨t, ht, -⟩ := State.frames_cons hr
      show ({ U with heap := s₂.heap, slotsUsed := s₂.slotsUsed } : State) = { U.setFrames U.frames with heap := s₂.heap, slotsUsed := s₂.slotsUsed }
      rw [State.setFrames_self ht]
    subst hg
    refine Or.inr ⟨q, ⟨(({ U with heap := s₂.heap, slotsUsed := s₂.slotsUsed } : State).setVm s₂.vm), Ls ++ L, c0 + mc, s0 + ms⟩,
      ⟨X.admits, X.cas, X.clock, X.frames, X.room, X.hears, X.method, X.code, (X.here.setHeapUsed s₂.heap s₂.slotsUsed).setVm hW'.alike, X.tail, State.WarmedH.trans X.warmed hW', X.limits, X.bytes, X.same.trans (hsame.setVm s.vm)⟩,
      ⟨g, mk, s₂, L, E, ce, rfl, rfl, hx, hce, hcv, hcl, rfl, hL, rfl, rfl⟩, ?_⟩
    show Steps p.tables e below _ (((({ U with heap := s₂.heap, slotsUsed := s₂.slotsUsed } : State).setVm s₂.vm).setTop g).pushFrame (.throwing q))
    rw [← hs₂]
    exact hsteps
end
variable {p : Program} {l : Launch} {e : Env} {R : Room} {s : State} {m : MethodId} {args : Array Value} {below : List Frame} {meth : Method} {c : Code} {T : State} {H : Heap} {locs : List Loc} {cells slots : Nat}
theorem vx_callVX (X : Stand p l e R s m args below meth c T locs cells slots) (hexec : p.tables.exec = Jvm.exec) {own C : String} {index : Nat} {y : MethodName} {bytes : ByteArray} {maxL : Nat} {ret : Option FieldType} {hh : List (Nat × Nat × Nat × Nat)}
    (hown : s.vm.findClass own = some m.cls) (hlink : (Cond.methodLink own index y).before args s = true) (hinst : (Cond.instanceMethod y).before args s = true) (hsel : (Cond.selects C y y).before args s = true)
    (hcode : (Cond.codeWith y bytes maxL ret hh).before args s = true) (hy : y.cls ≠ "java/lang/invoke/MethodHandle" ∧ y.cls ≠ "java/lang/invoke/VarHandle")
    {W9 : Nat} {Pre : Pt → Array Value → Prop} {Post : Pt → Array Value → Option Value → Pt → Prop} {PostX : Pt → Array Value → Addr → Pt → Prop} (hK : vx_Back l R p e below s args y 3 W9 Pre Post PostX)
    {b : Addr} {cellB : Cell} (hcell : T.heap[b]? = some cellB) (hobj : cellB.vm.isStatics = false) (hcls : s.vm.findClass C = some cellB.cls)
    {g : JFrame} (hg : g.method = m) (hsize : g.locals.size = c.maxLocals) {argsL rest : List Value} (hlen : ∀ sig, parseMethodDescriptor y.desc = some sig → argsL.length = sig.parameters.length)
    (hstack : g.stack = argsL.reverse ++ .ref b :: rest) (hW : 2 * g.monitorRoom + (rest.map fun v => v.category).sum ≤ W9) (hdg : decode c.code g.pc = .ok (.invokevirtual index, 3))
    (hpre : ∀ vm₁, s.WarmedH vm₁ → Pre ⟨T.setVm vm₁, locs, cells, slots⟩ (Value.ref b :: argsL).toArray) :
    (∃ (v : Option Value) (vm₁ : Vm) (B : Pt), s.WarmedH vm₁ ∧ Stand p l e R s m args below meth c B.U B.locs B.cells B.slots ∧ Post ⟨T.setVm vm₁, locs, cells, slots⟩ (Value.ref b :: argsL).toArray v B ∧
      ∀ target, Steps p.tables e below (B.U.setTop { g with pc := g.pc + 3, stack := v.toList ++ rest }) target → Steps p.tables e below (T.setTop g) target) ∨
    (∃ (q : Addr) (vm₁ : Vm) (B : Pt), s.WarmedH vm₁ ∧ Stand p l e R s m args below meth c B.U B.locs B.cells B.slots ∧ PostX ⟨T.setVm vm₁, locs, cells, slots⟩ (Value.ref b :: argsL).toArray q B ∧
      Steps p.tables e below (T.setTop g) ((B.U.setTop { g with stack := rest }).pushFrame (.throwing q))) := by
  obtain ⟨mk, methM, hnamed, hmethM, hstM, habM⟩ := Cond.instanceMethod_spec hinst
  obtain ⟨m8, methM', cM, hn8, hmethM', -, -, -, -, -, -, hsigM⟩ := Cond.codeWith_spec hcode
  cases Option.some.inj (hn8.symm.trans hnamed)
  cases hmethM.symm.trans hmethM'
  obtain ⟨c2, r2, m2, q1, q2, q3, q4, kP, hkP, hkPi⟩ := Cond.selects_spec hsel
  cases hcls.symm.trans q1
  cases (State.methodFound?_of_named hnamed hy).symm.trans q2
  cases hnamed.symm.trans q3
  have hselP : selectMethod e.platform s.vm cellB.cls mk = .method mk := by rw [Launch.admits_selectMethod X.admits]; exact q4
  obtain ⟨vm₁, X₁, hstep₁⟩ := X.invokevirtual hexec hown hlink hnamed hmethM hstM hkP hkPi hy (a := b) (cell := cellB) hcell
    (fun z h => by rw [h] at hobj; cases hobj) hselP hmethM habM hkP hkPi (g := g) hg (argsL := argsL) (rest := rest) (hlen _ hsigM) hstack hdg
  rcases hK m meth c ⟨T.setVm vm₁, locs, cells, slots⟩ { g with stack := rest } (.invokevirtual index) mk (Value.ref b :: argsL).toArray X₁ hg hsize hdg hW (X₁.named hnamed) (hpre vm₁ X₁.warmed) with ⟨v, B, X', hpost, hsteps⟩ | ⟨q, B, X', hpost, hsteps⟩
  · exact Or.inl ⟨v, vm₁, B, X₁.warmed, X', hpost, fun target h => hstep₁ _ fun acts => by rw [doInvoke_state]; exact hsteps.trans h⟩
  · exact Or.inr ⟨q, vm₁, B, X₁.warmed, X', hpost, hstep₁ _ fun acts => by rw [doInvoke_state]; exact hsteps⟩
theorem vx_callSX (X : Stand p l e R s m args below meth c T locs cells slots) (hexec : p.tables.exec = Jvm.exec) {own : String} {index : Nat} {y : MethodName} {bytes : ByteArray} {maxL : Nat} {ret : Option FieldType} {hh : List (Nat × Nat × Nat × Nat)}
    (hown : s.vm.findClass own = some m.cls) (hlink : (Cond.methodLink own index y).before args s = true) (hstat : (Cond.static y).before args s = true) (hinit : (Cond.initialized y.cls).before args s = true)
    (hcode : (Cond.codeWith y bytes maxL ret hh).before args s = true) (hy : y.cls ≠ "java/lang/invoke/MethodHandle" ∧ y.cls ≠ "java/lang/invoke/VarHandle")
    {W9 : Nat} {Pre : Pt → Array Value → Prop} {Post : Pt → Array Value → Option Value → Pt → Prop} {PostX : Pt → Array Value → Addr → Pt → Prop} (hK : vx_Back l R p e below s args y 3 W9 Pre Post PostX)
    {g : JFrame} (hg : g.method = m) (hsize : g.locals.size = c.maxLocals) {argsL rest : List Value} (hlen : ∀ sig, parseMethodDescriptor y.desc = some sig → argsL.length = sig.parameters.length)
    (hstack : g.stack = argsL.reverse ++ rest) (hW : 2 * g.monitorRoom + (rest.map fun v => v.category).sum ≤ W9) (hdg : decode c.code g.pc = .ok (.invokestatic index, 3))
    (hpre : ∀ vm₁, s.WarmedH vm₁ → Pre ⟨T.setVm vm₁, locs, cells, slots⟩ argsL.toArray) :
    (∃ (v : Option Value) (vm₁ : Vm) (B : Pt), s.WarmedH vm₁ ∧ Stand p l e R s m args below meth c B.U B.locs B.cells B.slots ∧ Post ⟨T.setVm vm₁, locs, cells, slots⟩ argsL.toArray v B ∧
      ∀ target, Steps p.tables e below (B.U.setTop { g with pc := g.pc + 3, stack := v.toList ++ rest }) target → Steps p.tables e below (T.setTop g) target) ∨
    (∃ (q : Addr) (vm₁ : Vm) (B : Pt), s.WarmedH vm₁ ∧ Stand p l e R s m args below meth c B.U B.locs B.cells B.slots ∧ PostX ⟨T.setVm vm₁, locs, cells, slots⟩ argsL.toArray q B ∧
      Steps p.tables e below (T.setTop g) ((B.U.setTop { g with stack := rest }).pushFrame (.throwing q))) := by
  obtain ⟨mk, methM, cM, hnamed, hmethM, -, -, -, -, -, -, hsigM⟩ := Cond.codeWith_spec hcode
  have hstatic : methM.isStatic = true := Cond.static_spec hnamed hmethM hstat
  obtain ⟨kP, hkP, -⟩ := className_of_methodNamed hnamed
  have hinitP : kP.init = .initialized := Cond.initialized_spec (findClass_of_methodNamed hnamed) hkP hinit
  obtain ⟨vm₁, X₁, hstep₁⟩ := X.invokestatic hexec hown hlink hnamed hmethM hstatic hkP hinitP hy (g := g) hg (argsL := argsL) (rest := rest) (hlen _ hsigM) hstack hdg
  rcases hK m meth c ⟨T.setVm vm₁, locs, cells, slots⟩ { g with stack := rest } (.invokestatic index) mk argsL.toArray X₁ hg hsize hdg hW (X₁.named hnamed) (hpre vm₁ X₁.warmed) with ⟨v, B, X', hpost, hsteps⟩ | ⟨q, B, X', hpost, hsteps⟩
  · exact Or.inl ⟨v, vm₁, B, X₁.warmed, X', hpost, fun target h => hstep₁ _ fun acts => by rw [doInvoke_state]; exact hsteps.trans h⟩
  · exact Or.inr ⟨q, vm₁, B, X₁.warmed, X', hpost, hstep₁ _ fun acts => by rw [doInvoke_state]; exact hsteps⟩
theorem vx_callVW (X : Stand p l e R s m args below meth c T locs cells slots) (hexec : p.tables.exec = Jvm.exec) {own C : String} {index : Nat} {y : MethodName} {bytes : ByteArray} {maxL : Nat} {ret : Option FieldType} {hh : List (Nat × Nat × Nat × Nat)}
    (hown : s.vm.findClass own = some m.cls) (hlink : (Cond.methodLink own index y).before args s = true) (hinst : (Cond.instanceMethod y).before args s = true) (hsel : (Cond.selects C y y).before args s = true)
    (hcode : (Cond.codeWith y bytes maxL ret hh).before args s = true) (hy : y.cls ≠ "java/lang/invoke/MethodHandle" ∧ y.cls ≠ "java/lang/invoke/VarHandle")
    {W9 : Nat} {Pre : Pt → Array Value → Prop} {Post : Pt → Array Value → Option Value → Pt → Prop} (hK : Back l R p e below s args y 3 W9 Pre Post)
    {b : Addr} {cellB : Cell} (hcell : T.heap[b]? = some cellB) (hobj : cellB.vm.isStatics = false) (hcls : s.vm.findClass C = some cellB.cls)
    {g : JFrame} (hg : g.method = m) (hsize : g.locals.size = c.maxLocals) {argsL rest : List Value} (hlen : ∀ sig, parseMethodDescriptor y.desc = some sig → argsL.length = sig.parameters.length)
    (hstack : g.stack = argsL.reverse ++ .ref b :: rest) (hW : 2 * g.monitorRoom + (rest.map fun v => v.category).sum ≤ W9) (hdg : decode c.code g.pc = .ok (.invokevirtual index, 3))
    (hpre : ∀ vm₁, s.WarmedH vm₁ → Pre ⟨T.setVm vm₁, locs, cells, slots⟩ (Value.ref b :: argsL).toArray) :
    ∃ (v : Option Value) (vm₁ : Vm) (B : Pt), s.WarmedH vm₁ ∧ Stand p l e R s m args below meth c B.U B.locs B.cells B.slots ∧ Post ⟨T.setVm vm₁, locs, cells, slots⟩ (Value.ref b :: argsL).toArray v B ∧
      ∀ target, Steps p.tables e below (B.U.setTop { g with pc := g.pc + 3, stack := v.toList ++ rest }) target → Steps p.tables e below (T.setTop g) target := by
  obtain ⟨mk, methM, hnamed, hmethM, hstM, habM⟩ := Cond.instanceMethod_spec hinst
  obtain ⟨m8, methM', cM, hn8, hmethM', -, -, -, -, -, -, hsigM⟩ := Cond.codeWith_spec hcode
  cases Option.some.inj (hn8.symm.trans hnamed)
  cases hmethM.symm.trans hmethM'
  obtain ⟨c2, r2, m2, q1, q2, q3, q4, kP, hkP, hkPi⟩ := Cond.selects_spec hsel
  cases hcls.symm.trans q1
  cases (State.methodFound?_of_named hnamed hy).symm.trans q2
  cases hnamed.symm.trans q3
  have hselP : selectMethod e.platform s.vm cellB.cls mk = .method mk := by rw [Launch.admits_selectMethod X.admits]; exact q4
  obtain ⟨vm₁, X₁, hstep₁⟩ := X.invokevirtual hexec hown hlink hnamed hmethM hstM hkP hkPi hy (a := b) (cell := cellB) hcell
    (fun z h => by rw [h] at hobj; cases hobj) hselP hmethM habM hkP hkPi (g := g) hg (argsL := argsL) (rest := rest) (hlen _ hsigM) hstack hdg
  obtain ⟨v, B, X', hpost, hsteps⟩ := hK m meth c ⟨T.setVm vm₁, locs, cells, slots⟩ { g with stack := rest } (.invokevirtual index) mk (Value.ref b :: argsL).toArray X₁ hg hsize hdg hW (X₁.named hnamed) (hpre vm₁ X₁.warmed)
  exact ⟨v, vm₁, B, X₁.warmed, X', hpost, fun target h => hstep₁ _ fun acts => by rw [doInvoke_state]; exact hsteps.trans h⟩
abbrev vx_CVW (R : Room) (s : State) (args : Array Value) (own C : String) (index : Nat) (y : MethodName) (bytes : ByteArray) (maxL : Nat) (ret : Option FieldType) (hh : List (Nat × Nat × Nat × Nat)) (ws : List Cond) (rm : Room) (mc ms n : Nat) : Prop :=
  (rm.cells = mc ∧ rm.slots = ms ∧ rm.frames + 1 ≤ R.frames ∧ 8 + (maxL + 11) + rm.locals ≤ R.locals ∧ (∀ w ∈ ws, ∀ (a' : Array Value) (U : State), s.WarmedH U.vm → w.before a' U = true) ∧ Cond.codeWith y bytes maxL ret hh ∈ ws) ∧
  (Cond.codeWith y bytes maxL ret hh).before args s = true ∧ (Cond.initialized y.cls).before args s = true ∧ (y.cls ≠ "java/lang/invoke/MethodHandle" ∧ y.cls ≠ "java/lang/invoke/VarHandle") ∧
  (∀ sig, parseMethodDescriptor y.desc = some sig → n = sig.parameters.length) ∧ (Cond.methodLink own index y).before args s = true ∧ (Cond.instanceMethod y).before args s = true ∧ (Cond.selects C y y).before args s = true
theorem vx_cwVW {own C : String} {index maxL mc ms : Nat} {y : MethodName} {bytes : ByteArray} {ret : Option FieldType} {hh : List (Nat × Nat × Nat × Nat)} {Ts ws ws' : List Cond} {rm : Room} (n : Nat) (ht : ∀ w ∈ Ts, w.before args s = true) (hT : GoodIn Ts (wsV own index C y ws)) (hw : ws = Cond.codeWith y bytes maxL ret hh :: ws') (hrc : rm.cells = mc) (hrs : rm.slots = ms)
    (hd : y.cls = C ∧ y.cls ≠ "java/lang/invoke/MethodHandle" ∧ y.cls ≠ "java/lang/invoke/VarHandle" ∧ (parseMethodDescriptor y.desc).map (fun d => d.parameters.length) = some n) (hR : rm.frames + 1 ≤ R.frames ∧ 8 + (maxL + 11) + rm.locals ≤ R.locals) :
    vx_CVW R s args own C index y bytes maxL ret hh ws rm mc ms n := by
  obtain ⟨hC, hd⟩ := hd
  subst hC
  have ok : ∀ w ∈ wsV own index y.cls y ws, w.before args s = true := fun w h => ht w (hT w h).1
  have hG : GoodIn Ts ws := fun w h => hT w (by unfold wsV; exact List.mem_append_right _ h)
  have hc : Cond.codeWith y bytes maxL ret hh ∈ ws := by rw [hw]; exact List.mem_cons_self
  refine ⟨⟨hrc, hrs, hR.1, hR.2, pay_in ht hG, hc⟩, ht _ (hG _ hc).1, ok _ (by simp [wsV]), ⟨hd.1, hd.2.1⟩, fun sig h => ?_, ok _ (by simp [wsV]), ok _ (by simp [wsV]), ok _ (by simp [wsV])⟩
  have h2 := hd.2.2
  rw [h] at h2
  exact (Option.some.inj h2).symm
theorem vx_runVW {y : MethodName} {bytes cc : ByteArray} {maxL nL mc ms n index : Nat} {ret : Option FieldType} {hh : List (Nat × Nat × Nat × Nat)} {ws : List Cond} {rm : Room} {Pc : Array Value → State → Prop} {Qc : Array Value → State → Outcome → State → Prop} {free : Addr → Prop} {Ts : List Cond} {own C : String} {b : Addr} {As rest : List Value} {g : JFrame}
    (S : CallFix p m c cc nL s args Ts own) (hM : Met l y ws rm Pc Qc mc ms free) (cw : vx_CVW R s args own C index y bytes maxL ret hh ws rm mc ms n) (hp : PreV s H C b Pc As)
    (hg : g.method = m) (hn : As.length = n) (hsize : g.locals.size = nL) (hstack : g.stack = As.reverse ++ .ref b :: rest) (hW : 2 * g.monitorRoom + (rest.map fun v => v.category).sum ≤ 8) (hdg : decode cc g.pc = .ok (.invokevirtual index, 3)) (hf : cells + mc ≤ R.cells ∧ slots + ms ≤ R.slots) :
    va_Run p l e R s m args below meth c H locs cells slots mc ms g rest (Qc (Value.ref b :: As).toArray) free := by
  obtain ⟨⟨hrc, hrs, hfr, hlo, hws, hcw⟩, hcode, hini, hy, hlen, hl, hin, hse⟩ := cw
  have hK : Back l R p e below s args y 3 8 (PreOf R mc ms Pc) (PostOf Qc mc ms free) := va_backW (hh := hh) (bytes := bytes) (maxL := maxL) (ret := ret) hM hp.1 hrc hrs hfr hlo hws hcw (fun a' U hW => word_at hW (Or.inl (by first | rfl | simp [Cond.onTables, Cond.keeps, Cond.steady])) hini)
  obtain ⟨hx, hb, hml, ho, -⟩ := S
  obtain ⟨-, ⟨cellB, hcB, hoB, hclB⟩, hPc⟩ := hp
  intro T hT X
  obtain ⟨v, vm₁, ⟨U', l2, c2, s2⟩, hW₁, X', ⟨g', mk, t, L, e1, e2, hq, h1, hL, h2, h3⟩, st⟩ := vx_callVW X hx (C := C) (hh := hh) (bytes := bytes) (maxL := maxL) (ret := ret) ho hl hin hse hcode hy hK (by rw [hT]; exact hcB) hoB hclB hg (hsize.trans hml.symm) (argsL := As) (rest := rest) (fun sig h => hn.trans (hlen sig h)) hstack hW (by rw [hb]; exact hdg)
    (fun vm₁ hW₁ => ⟨hf.1, hf.2, hPc (T.setVm vm₁) hT hW₁⟩)
  dsimp only [Pt.U, Pt.locs, Pt.cells, Pt.slots] at X' e1 e2 h1 h2 h3 st
  subst h1; subst h2; subst h3
  exact ⟨v, (T.setVm vm₁).calling g' mk (Value.ref b :: As).toArray, t, U', L, hT, X', hL, e1, e2, hq, st⟩
section
variable {y : MethodName} {bytes cc : ByteArray} {maxL nL mc ms n index : Nat} {ret : Option FieldType} {ws : List Cond} {rm : Room} {Pc : Array Value → State → Prop} {Qc : Array Value → State → Outcome → State → Prop} {XC : String → State → State → Prop} {free : Addr → Prop} {Ts : List Cond} {own C : String} {b : Addr} {As rest : List Value} {g : JFrame}
theorem vx_runVX {hh : List (Nat × Nat × Nat × Nat)} (S : CallFix p m c cc nL s args Ts own) (hM : vx_Met l y ws rm Pc Qc XC mc ms free) (cw : vx_CVW R s args own C index y bytes maxL ret hh ws rm mc ms n) (hp : PreV s H C b Pc As)
    (hg : g.method = m) (hn : As.length = n) (hsize : g.locals.size = nL) (hstack : g.stack = As.reverse ++ .ref b :: rest) (hW : 2 * g.monitorRoom + (rest.map fun v => v.category).sum ≤ 8) (hdg : decode cc g.pc = .ok (.invokevirtual index, 3)) (hf : cells + mc ≤ R.cells ∧ slots + ms ≤ R.slots) :
    vx_Run p l e R s m args below meth c H locs cells slots mc ms g rest (Qc (Value.ref b :: As).toArray) XC free := by
  obtain ⟨⟨hrc, hrs, hfr, hlo, hws, hcw⟩, hcode, hini, hy, hlen, hl, hin, hse⟩ := cw
  have hK : vx_Back l R p e below s args y 3 8 (PreOf R mc ms Pc) (PostOf Qc mc ms free) (vx_Post XC mc ms free) := vx_backW (hh := hh) (bytes := bytes) (maxL := maxL) (ret := ret) hM hp.1 hrc hrs hfr hlo hws hcw (fun a' U hW => word_at hW (Or.inl (by first | rfl | simp [Cond.onTables, Cond.keeps, Cond.steady])) hini)
  obtain ⟨hx, hb, hml, ho, -⟩ := S
  obtain ⟨-, ⟨cellB, hcB, hoB, hclB⟩, hPc⟩ := hp
  intro T hT X
  rcases vx_callVX X hx (C := C) (hh := hh) (bytes := bytes) (maxL := maxL) (ret := ret) ho hl hin hse hcode hy hK (by rw [hT]; exact hcB) hoB hclB hg (hsize.trans hml.symm) (argsL := As) (rest := rest) (fun sig h => hn.trans (hlen sig h)) hstack hW (by rw [hb]; exact hdg)
    (fun vm₁ hW₁ => ⟨hf.1, hf.2, hPc (T.setVm vm₁) hT hW₁⟩) with ⟨v, vm₁, ⟨U', l2, c2, s2⟩, hW₁, X', ⟨g', mk, t, L, e1, e2, hq, h1, hL, h2, h3⟩, st⟩ | ⟨q, vm₁, ⟨U', l2, c2, s2⟩, hW₁, X', ⟨g', mk, t, L, E, ce, e1, e2, hq, hce, hcv, hcl, h1, hL, h2, h3⟩, st⟩
  · dsimp only [Pt.U, Pt.locs, Pt.cells, Pt.slots] at X' e1 e2 h1 h2 h3 st
    subst h1; subst h2; subst h3
    exact Or.inl ⟨v, (T.setVm vm₁).calling g' mk (Value.ref b :: As).toArray, t, U', L, hT, X', hL, e1, e2, hq, st⟩
  · dsimp only [Pt.U, Pt.locs, Pt.cells, Pt.slots] at X' e1 e2 h1 h2 h3 st hcl
    subst h1; subst h2; subst h3
    exact Or.inr ⟨q, (T.setVm vm₁).calling g' mk (Value.ref b :: As).toArray, t, U', L, E, ce, hT, X', hL, e1, e2, hq, hce, hcv, vx_cls hW₁ hcl, st⟩
theorem vx_runSX {hh : List (Nat × Nat × Nat × Nat)} (S : CallFix p m c cc nL s args Ts own) (hM : vx_Met l y ws rm Pc Qc XC mc ms free) (cw : vx_CSW R s args own index y bytes maxL ret hh ws rm mc ms n) (hp : PreS s H Pc As)
    (hg : g.method = m) (hn : As.length = n) (hsize : g.locals.size = nL) (hstack : g.stack = As.reverse ++ rest) (hW : 2 * g.monitorRoom + (rest.map fun v => v.category).sum ≤ 8) (hdg : decode cc g.pc = .ok (.invokestatic index, 3)) (hf : cells + mc ≤ R.cells ∧ slots + ms ≤ R.slots) :
    vx_Run p l e R s m args below meth c H locs cells slots mc ms g rest (Qc As.toArray) XC free := by
  obtain ⟨⟨hrc, hrs, hfr, hlo, hws, hcw⟩, hcode, hini, hy, hlen, hl, hstt⟩ := cw
  have hK : vx_Back l R p e below s args y 3 8 (PreOf R mc ms Pc) (PostOf Qc mc ms free) (vx_Post XC mc ms free) := vx_backW (hh := hh) (bytes := bytes) (maxL := maxL) (ret := ret) hM hp.1 hrc hrs hfr hlo hws hcw (fun a' U hW => word_at hW (Or.inl (by first | rfl | simp [Cond.onTables, Cond.keeps, Cond.steady])) hini)
  obtain ⟨hx, hb, hml, ho, -⟩ := S
  intro T hT X
  rcases vx_callSX X hx (hh := hh) (bytes := bytes) (maxL := maxL) (ret := ret) ho hl hstt hini hcode hy hK hg (hsize.trans hml.symm) (argsL := As) (rest := rest) (fun sig h => hn.trans (hlen sig h)) hstack hW (by rw [hb]; exact hdg)
    (fun vm₁ hW₁ => ⟨hf.1, hf.2, hp.2 (T.setVm vm₁) hT hW₁⟩) with ⟨v, vm₁, ⟨U', l2, c2, s2⟩, hW₁, X', ⟨g', mk, t, L, e1, e2, hq, h1, hL, h2, h3⟩, st⟩ | ⟨q, vm₁, ⟨U', l2, c2, s2⟩, hW₁, X', ⟨g', mk, t, L, E, ce, e1, e2, hq, hce, hcv, hcl, h1, hL, h2, h3⟩, st⟩
  · dsimp only [Pt.U, Pt.locs, Pt.cells, Pt.slots] at X' e1 e2 h1 h2 h3 st
    subst h1; subst h2; subst h3
    exact Or.inl ⟨v, (T.setVm vm₁).calling g' mk As.toArray, t, U', L, hT, X', hL, e1, e2, hq, st⟩
  · dsimp only [Pt.U, Pt.locs, Pt.cells, Pt.slots] at X' e1 e2 h1 h2 h3 st hcl
    subst h1; subst h2; subst h3
    exact Or.inr ⟨q, (T.setVm vm₁).calling g' mk As.toArray, t, U', L, E, ce, hT, X', hL, e1, e2, hq, hce, hcv, vx_cls hW₁ hcl, st⟩
end
end VXH
theorem vx_ofWH {l : Launch} {y : MethodName} {ws ws' : List Cond} {rm : Room} {Pc : Array Value → State → Prop} {Qc : Array Value → State → Outcome → State → Prop} {XC : String → State → State → Prop} {mc ms : Nat} {free : Addr → Prop} {cc : ByteArray} {maxL : Nat} {ret : Option FieldType} {hh : List (Nat × Nat × Nat × Nat)}
    (hy : plainName y.cls = true) (hw : ws = Cond.codeWith y cc maxL ret hh :: ws')
    (body : ∀ p e s m args below meth c s₁, BodyLoose p l y (headSpec ws rm) cc maxL ret e s m args below meth c s₁ → c.maxLocals = maxL → Pc args s →
      W p l e (headSpec ws rm).room s m args below meth c s.heap [] 0 0 (vx_MQ below Qc XC args s mc ms free) (entryFrame m args maxL)) : vx_Met l y ws rm Pc Qc XC mc ms free := by
  refine MetFree.of_bodyS (code := cc) (maxLocals := maxL) (ret := ret) hy ?_ ?_
  · intro args s m h hn
    obtain ⟨m9, meth, c, hn9, h1, h2, h3, h4, -, h5, h6, -⟩ := Cond.codeWith_spec (atoms_spec (ws := ws) h _ (by rw [hw]; exact List.mem_cons_self))
    cases hn.symm.trans hn9
    exact ⟨meth, c, h1, h2, h3, h4, h5, h6⟩
  · intro p e s m args below meth c s₁ B hml hP _
    have hh0 : s₁.heap = s.heap := by rw [B.state]; rfl
    obtain ⟨t, a1, o, b1, b2, b3⟩ := body p e s m args below meth c s₁ B hml hP s₁ hh0 (Stand.of_body B)
    exact ⟨t, o, a1, b1, b2, b3⟩
/-! ===== END ===== -/
end
section
def RX0 : String := "TitleDesk$Board"
def TX0 : u_T := fun k => match k with
  | 0 => ("TitleDesk$Board", "wordings", "[LTitleDesk$Wording;", true)
  | 1 => ("TitleDesk$Board", "noWording", "LTitleDesk$Wording;", true)
  | 2 => ("TitleDesk$Board", "breaker", "LTitleDesk$Breaker;", true)
  | 3 => ("TitleDesk$Board", "script", "LTitleDesk$Script;", false)
  | _ => ("TitleDesk$Board", "textSigns", "[B", false)
def tyX0 : Nat → FieldType := fun k => match k with
  | 0 => .array (.object "TitleDesk$Wording")
  | 1 => .object "TitleDesk$Wording"
  | 2 => .object "TitleDesk$Breaker"
  | 3 => .object "TitleDesk$Script"
  | _ => .array .byte
abbrev wsX00 : List Cond := u_ws RX0 TX0 5
theorem nmX0 : ∀ a, a < 5 → ∀ b, b < 5 → a ≠ b → (TX0 a).2.1 ≠ (TX0 b).2.1 := by decide +kernel
theorem tyX0_ok : ∀ k, k < 5 → parseFieldDescriptor (TX0 k).2.2.1 = some (tyX0 k) := by decide +kernel
abbrev cX0_init : ByteArray := prog_2_method_1_code
def yX0_init : MethodName := ⟨RX0, "<init>", "(LTitleDesk$Script;[B)V"⟩
abbrev cX0_useScript : ByteArray := prog_2_method_2_code
def yX0_useScript : MethodName := ⟨RX0, "useScript", "(LTitleDesk$Script;[B)V"⟩
abbrev cX0_restoreAll : ByteArray := prog_2_method_3_code
def yX0_restoreAll : MethodName := ⟨RX0, "restoreAll", "()V"⟩
abbrev cX0_restore : ByteArray := prog_2_method_4_code
def yX0_restore : MethodName := ⟨RX0, "restore", "(II)V"⟩
abbrev cX0_replace : ByteArray := prog_2_method_5_code
def yX0_replace : MethodName := ⟨RX0, "replace", "(II[B)V"⟩
abbrev cX0_isThere : ByteArray := prog_2_method_6_code
def yX0_isThere : MethodName := ⟨RX0, "isThere", "(II)Z"⟩
abbrev cX0_wordingOf : ByteArray := prog_2_method_7_code
def yX0_wordingOf : MethodName := ⟨RX0, "wordingOf", "(II)LTitleDesk$Wording;"⟩
abbrev cX0_isChanged : ByteArray := prog_2_method_8_code
def yX0_isChanged : MethodName := ⟨RX0, "isChanged", "(I)Z"⟩
abbrev cX0_stepsOf : ByteArray := prog_2_method_9_code
def yX0_stepsOf : MethodName := ⟨RX0, "stepsOf", "(I)I"⟩
abbrev cX0_stepBehind : ByteArray := prog_2_method_10_code
def yX0_stepBehind : MethodName := ⟨RX0, "stepBehind", "(III)I"⟩
abbrev cX0_pageInStep : ByteArray := prog_2_method_11_code
def yX0_pageInStep : MethodName := ⟨RX0, "pageInStep", "(III)I"⟩
abbrev cX0_shortOf : ByteArray := prog_2_method_12_code
def yX0_shortOf : MethodName := ⟨RX0, "shortOf", "(II)I"⟩
abbrev cX0_barsOfPage : ByteArray := prog_2_method_13_code
def yX0_barsOfPage : MethodName := ⟨RX0, "barsOfPage", "(IIII)I"⟩
def RX1 : String := "TitleDesk$Breaker"
def TX1 : u_T := fun k => match k with
  | 0 => ("TitleDesk$Breaker", "wordBegins", "[I", true)
  | 1 => ("TitleDesk$Breaker", "wordEnds", "[I", true)
  | 2 => ("TitleDesk$Breaker", "rowStops", "[I", true)
  | 3 => ("TitleDesk$Breaker", "leastRows", "[I", true)
  | 4 => ("TitleDesk$Breaker", "mostAhead", "[I", true)
  | 5 => ("TitleDesk$Breaker", "prices", "[[I", true)
  | 6 => ("TitleDesk$Breaker", "words", "I", false)
  | 7 => ("TitleDesk$Breaker", "width", "I", false)
  | _ => ("TitleDesk$Breaker", "slots", "I", false)
def tyX1 : Nat → FieldType := fun k => match k with
  | 0 => .array .int
  | 1 => .array .int
  | 2 => .array .int
  | 3 => .array .int
  | 4 => .array .int
  | 5 => .array (.array .int)
  | 6 => .int
  | 7 => .int
  | _ => .int
abbrev wsX10 : List Cond := u_ws RX1 TX1 9
theorem nmX1 : ∀ a, a < 9 → ∀ b, b < 9 → a ≠ b → (TX1 a).2.1 ≠ (TX1 b).2.1 := by decide +kernel
theorem tyX1_ok : ∀ k, k < 9 → parseFieldDescriptor (TX1 k).2.2.1 = some (tyX1 k) := by decide +kernel
abbrev cX1_init : ByteArray := prog_3_method_1_code
def yX1_init : MethodName := ⟨RX1, "<init>", "()V"⟩
abbrev cX1_layOut : ByteArray := prog_3_method_2_code
def yX1_layOut : MethodName := ⟨RX1, "layOut", "(LTitleDesk$Wording;I)V"⟩
abbrev cX1_findWords : ByteArray := prog_3_method_3_code
def yX1_findWords : MethodName := ⟨RX1, "findWords", "(LTitleDesk$Wording;)V"⟩
abbrev cX1_fillRows : ByteArray := prog_3_method_4_code
def yX1_fillRows : MethodName := ⟨RX1, "fillRows", "()V"⟩
abbrev cX1_forgetPrices : ByteArray := prog_3_method_5_code
def yX1_forgetPrices : MethodName := ⟨RX1, "forgetPrices", "()V"⟩
abbrev cX1_priceWays : ByteArray := prog_3_method_6_code
def yX1_priceWays : MethodName := ⟨RX1, "priceWays", "()V"⟩
abbrev cX1_leastPrice : ByteArray := prog_3_method_7_code
def yX1_leastPrice : MethodName := ⟨RX1, "leastPrice", "(II)I"⟩
abbrev cX1_priceWith : ByteArray := prog_3_method_8_code
def yX1_priceWith : MethodName := ⟨RX1, "priceWith", "(III)I"⟩
abbrev cX1_writeRows : ByteArray := prog_3_method_9_code
def yX1_writeRows : MethodName := ⟨RX1, "writeRows", "(LTitleDesk$Wording;)V"⟩
abbrev cX1_longestStop : ByteArray := prog_3_method_10_code
def yX1_longestStop : MethodName := ⟨RX1, "longestStop", "(II)I"⟩
def RX2 : String := "TitleDesk$Evening"
def TX2 : u_T := fun k => match k with
  | 0 => ("TitleDesk$Evening", "pos", "I", false)
  | 1 => ("TitleDesk$Evening", "following", "Z", false)
  | 2 => ("TitleDesk$Evening", "doubts", "I", false)
  | 3 => ("TitleDesk$Evening", "latestInDoubt", "I", false)
  | 4 => ("TitleDesk$Evening", "cutsOn", "[Z", true)
  | _ => ("TitleDesk$Evening", "script", "LTitleDesk$Script;", false)
def tyX2 : Nat → FieldType := fun k => match k with
  | 0 => .int
  | 1 => .boolean
  | 2 => .int
  | 3 => .int
  | 4 => .array .boolean
  | _ => .object "TitleDesk$Script"
abbrev wsX20 : List Cond := u_ws RX2 TX2 6
theorem nmX2 : ∀ a, a < 6 → ∀ b, b < 6 → a ≠ b → (TX2 a).2.1 ≠ (TX2 b).2.1 := by decide +kernel
theorem tyX2_ok : ∀ k, k < 6 → parseFieldDescriptor (TX2 k).2.2.1 = some (tyX2 k) := by decide +kernel
abbrev cX2_init : ByteArray := prog_4_method_1_code
def yX2_init : MethodName := ⟨RX2, "<init>", "(LTitleDesk$Script;)V"⟩
abbrev cX2_start : ByteArray := prog_4_method_2_code
def yX2_start : MethodName := ⟨RX2, "start", "(LTitleDesk$Script;)V"⟩
abbrev cX2_lead : ByteArray := prog_4_method_3_code
def yX2_lead : MethodName := ⟨RX2, "lead", "(IZ)V"⟩
abbrev cX2_goTo : ByteArray := prog_4_method_4_code
def yX2_goTo : MethodName := ⟨RX2, "goTo", "(I)V"⟩
abbrev cX2_hear : ByteArray := prog_4_method_5_code
def yX2_hear : MethodName := ⟨RX2, "hear", "(I)V"⟩
abbrev cX2_switchCut : ByteArray := prog_4_method_6_code
def yX2_switchCut : MethodName := ⟨RX2, "switchCut", "(IZ)V"⟩
abbrev cX2_behindCuts : ByteArray := prog_4_method_7_code
def yX2_behindCuts : MethodName := ⟨RX2, "behindCuts", "(I)I"⟩
abbrev cX2_nextCut : ByteArray := prog_4_method_8_code
def yX2_nextCut : MethodName := ⟨RX2, "nextCut", "(I)I"⟩
abbrev cX2_countedBars : ByteArray := prog_4_method_9_code
def yX2_countedBars : MethodName := ⟨RX2, "countedBars", "(II)I"⟩
def RX3 : String := "TitleDesk$Reader"
def TX3 : u_T := fun k => match k with
  | 0 => ("TitleDesk$Reader", "faultNumber", "I", false)
  | 1 => ("TitleDesk$Reader", "faultPlace", "I", false)
  | 2 => ("TitleDesk$Reader", "scanner", "LTitleDesk$Scanner;", true)
  | 3 => ("TitleDesk$Reader", "script", "LTitleDesk$Script;", false)
  | 4 => ("TitleDesk$Reader", "number", "I", false)
  | _ => ("TitleDesk$Reader", "numberPlace", "I", false)
def tyX3 : Nat → FieldType := fun k => match k with
  | 0 => .int
  | 1 => .int
  | 2 => .object "TitleDesk$Scanner"
  | 3 => .object "TitleDesk$Script"
  | 4 => .int
  | _ => .int
abbrev wsX30 : List Cond := u_ws RX3 TX3 6
theorem nmX3 : ∀ a, a < 6 → ∀ b, b < 6 → a ≠ b → (TX3 a).2.1 ≠ (TX3 b).2.1 := by decide +kernel
theorem tyX3_ok : ∀ k, k < 6 → parseFieldDescriptor (TX3 k).2.2.1 = some (tyX3 k) := by decide +kernel
abbrev cX3_init : ByteArray := prog_5_method_1_code
def yX3_init : MethodName := ⟨RX3, "<init>", "(LTitleDesk$Script;[B)V"⟩
abbrev cX3_read : ByteArray := prog_5_method_2_code
def yX3_read : MethodName := ⟨RX3, "read", "([BILTitleDesk$Script;)Z"⟩
abbrev cX3_fail : ByteArray := prog_5_method_3_code
def yX3_fail : MethodName := ⟨RX3, "fail", "(II)Z"⟩
abbrev cX3_readTongues : ByteArray := prog_5_method_4_code
def yX3_readTongues : MethodName := ⟨RX3, "readTongues", "()Z"⟩
abbrev cX3_readNumber : ByteArray := prog_5_method_5_code
def yX3_readNumber : MethodName := ⟨RX3, "readNumber", "(II)Z"⟩
abbrev cX3_readSemicolon : ByteArray := prog_5_method_6_code
def yX3_readSemicolon : MethodName := ⟨RX3, "readSemicolon", "()Z"⟩
abbrev cX3_readSettings : ByteArray := prog_5_method_7_code
def yX3_readSettings : MethodName := ⟨RX3, "readSettings", "(I)Z"⟩
abbrev cX3_readTongueSetting : ByteArray := prog_5_method_8_code
def yX3_readTongueSetting : MethodName := ⟨RX3, "readTongueSetting", "([III)Z"⟩
abbrev cX3_readBeats : ByteArray := prog_5_method_9_code
def yX3_readBeats : MethodName := ⟨RX3, "readBeats", "()Z"⟩
abbrev cX3_readItems : ByteArray := prog_5_method_10_code
def yX3_readItems : MethodName := ⟨RX3, "readItems", "(I)Z"⟩
abbrev cX3_readMark : ByteArray := prog_5_method_11_code
def yX3_readMark : MethodName := ⟨RX3, "readMark", "()Z"⟩
abbrev cX3_readStrings : ByteArray := prog_5_method_12_code
def yX3_readStrings : MethodName := ⟨RX3, "readStrings", "()Z"⟩
abbrev cX3_readFurtherString : ByteArray := prog_5_method_13_code
def yX3_readFurtherString : MethodName := ⟨RX3, "readFurtherString", "(I)Z"⟩
abbrev cX3_stringsFit : ByteArray := prog_5_method_14_code
def yX3_stringsFit : MethodName := ⟨RX3, "stringsFit", "()Z"⟩
abbrev cX3_readCut : ByteArray := prog_5_method_15_code
def yX3_readCut : MethodName := ⟨RX3, "readCut", "()Z"⟩
def RX4 : String := "TitleDesk$Scanner"
def TX4 : u_T := fun k => match k with
  | 0 => ("TitleDesk$Scanner", "signs", "[B", false)
  | 1 => ("TitleDesk$Scanner", "kind", "I", false)
  | 2 => ("TitleDesk$Scanner", "place", "I", false)
  | 3 => ("TitleDesk$Scanner", "value", "I", false)
  | 4 => ("TitleDesk$Scanner", "length", "I", false)
  | _ => ("TitleDesk$Scanner", "behind", "I", false)
def tyX4 : Nat → FieldType := fun k => match k with
  | 0 => .array .byte
  | 1 => .int
  | 2 => .int
  | 3 => .int
  | 4 => .int
  | _ => .int
abbrev wsX40 : List Cond := u_ws RX4 TX4 6
theorem nmX4 : ∀ a, a < 6 → ∀ b, b < 6 → a ≠ b → (TX4 a).2.1 ≠ (TX4 b).2.1 := by decide +kernel
theorem tyX4_ok : ∀ k, k < 6 → parseFieldDescriptor (TX4 k).2.2.1 = some (tyX4 k) := by decide +kernel
abbrev cX4_init : ByteArray := prog_6_method_1_code
def yX4_init : MethodName := ⟨RX4, "<init>", "([B)V"⟩
abbrev cX4_open : ByteArray := prog_6_method_2_code
def yX4_open : MethodName := ⟨RX4, "open", "([BI)V"⟩
abbrev cX4_step : ByteArray := prog_6_method_3_code
def yX4_step : MethodName := ⟨RX4, "step", "()V"⟩
abbrev cX4_takeWord : ByteArray := prog_6_method_4_code
def yX4_takeWord : MethodName := ⟨RX4, "takeWord", "()V"⟩
abbrev cX4_takeNumber : ByteArray := prog_6_method_5_code
def yX4_takeNumber : MethodName := ⟨RX4, "takeNumber", "()V"⟩
abbrev cX4_takeString : ByteArray := prog_6_method_6_code
def yX4_takeString : MethodName := ⟨RX4, "takeString", "()V"⟩
abbrev cX4_takeSingle : ByteArray := prog_6_method_7_code
def yX4_takeSingle : MethodName := ⟨RX4, "takeSingle", "(I)V"⟩
abbrev cX4_isWord : ByteArray := prog_6_method_8_code
def yX4_isWord : MethodName := ⟨RX4, "isWord", "(Ljava/lang/String;)Z"⟩
abbrev cX4_stringFrom : ByteArray := prog_6_method_9_code
def yX4_stringFrom : MethodName := ⟨RX4, "stringFrom", "()I"⟩
abbrev cX4_stringLength : ByteArray := prog_6_method_10_code
def yX4_stringLength : MethodName := ⟨RX4, "stringLength", "()I"⟩
def RX5 : String := "TitleDesk$Script"
def TX5 : u_T := fun k => match k with
  | 0 => ("TitleDesk$Script", "tongues", "I", false)
  | 1 => ("TitleDesk$Script", "titles", "I", false)
  | 2 => ("TitleDesk$Script", "cuts", "I", false)
  | 3 => ("TitleDesk$Script", "marks", "I", false)
  | 4 => ("TitleDesk$Script", "beats", "I", false)
  | 5 => ("TitleDesk$Script", "widths", "[I", true)
  | 6 => ("TitleDesk$Script", "speeds", "[I", true)
  | 7 => ("TitleDesk$Script", "cutFirsts", "[I", true)
  | 8 => ("TitleDesk$Script", "cutBehinds", "[I", true)
  | 9 => ("TitleDesk$Script", "markBars", "[I", true)
  | 10 => ("TitleDesk$Script", "titleMarks", "[I", true)
  | 11 => ("TitleDesk$Script", "stringFroms", "[I", true)
  | _ => ("TitleDesk$Script", "stringLengths", "[I", true)
def tyX5 : Nat → FieldType := fun k => match k with
  | 0 => .int
  | 1 => .int
  | 2 => .int
  | 3 => .int
  | 4 => .int
  | 5 => .array .int
  | 6 => .array .int
  | 7 => .array .int
  | 8 => .array .int
  | 9 => .array .int
  | 10 => .array .int
  | 11 => .array .int
  | _ => .array .int
abbrev wsX50 : List Cond := u_ws RX5 TX5 13
theorem nmX5 : ∀ a, a < 13 → ∀ b, b < 13 → a ≠ b → (TX5 a).2.1 ≠ (TX5 b).2.1 := by decide +kernel
theorem tyX5_ok : ∀ k, k < 13 → parseFieldDescriptor (TX5 k).2.2.1 = some (tyX5 k) := by decide +kernel
abbrev cX5_init : ByteArray := prog_7_method_1_code
def yX5_init : MethodName := ⟨RX5, "<init>", "()V"⟩
abbrev cX5_clear : ByteArray := prog_7_method_2_code
def yX5_clear : MethodName := ⟨RX5, "clear", "()V"⟩
abbrev cX5_hasTongue : ByteArray := prog_7_method_3_code
def yX5_hasTongue : MethodName := ⟨RX5, "hasTongue", "(I)Z"⟩
abbrev cX5_hasTitle : ByteArray := prog_7_method_4_code
def yX5_hasTitle : MethodName := ⟨RX5, "hasTitle", "(I)Z"⟩
abbrev cX5_hasCut : ByteArray := prog_7_method_5_code
def yX5_hasCut : MethodName := ⟨RX5, "hasCut", "(I)Z"⟩
abbrev cX5_isFullOfMarks : ByteArray := prog_7_method_6_code
def yX5_isFullOfMarks : MethodName := ⟨RX5, "isFullOfMarks", "()Z"⟩
abbrev cX5_isFullOfCuts : ByteArray := prog_7_method_7_code
def yX5_isFullOfCuts : MethodName := ⟨RX5, "isFullOfCuts", "()Z"⟩
abbrev cX5_tells : ByteArray := prog_7_method_8_code
def yX5_tells : MethodName := ⟨RX5, "tells", "([II)Z"⟩
abbrev cX5_tell : ByteArray := prog_7_method_9_code
def yX5_tell : MethodName := ⟨RX5, "tell", "([III)V"⟩
abbrev cX5_tellsBeats : ByteArray := prog_7_method_10_code
def yX5_tellsBeats : MethodName := ⟨RX5, "tellsBeats", "()Z"⟩
abbrev cX5_tellBeats : ByteArray := prog_7_method_11_code
def yX5_tellBeats : MethodName := ⟨RX5, "tellBeats", "(I)V"⟩
abbrev cX5_widthOf : ByteArray := prog_7_method_12_code
def yX5_widthOf : MethodName := ⟨RX5, "widthOf", "(I)I"⟩
abbrev cX5_speedOf : ByteArray := prog_7_method_13_code
def yX5_speedOf : MethodName := ⟨RX5, "speedOf", "(I)I"⟩
abbrev cX5_beatsOfBar : ByteArray := prog_7_method_14_code
def yX5_beatsOfBar : MethodName := ⟨RX5, "beatsOfBar", "()I"⟩
abbrev cX5_addMark : ByteArray := prog_7_method_15_code
def yX5_addMark : MethodName := ⟨RX5, "addMark", "(I)V"⟩
abbrev cX5_addTitle : ByteArray := prog_7_method_16_code
def yX5_addTitle : MethodName := ⟨RX5, "addTitle", "(II)V"⟩
abbrev cX5_setString : ByteArray := prog_7_method_17_code
def yX5_setString : MethodName := ⟨RX5, "setString", "(III)V"⟩
abbrev cX5_addCut : ByteArray := prog_7_method_18_code
def yX5_addCut : MethodName := ⟨RX5, "addCut", "(III)V"⟩
abbrev cX5_latestBar : ByteArray := prog_7_method_19_code
def yX5_latestBar : MethodName := ⟨RX5, "latestBar", "()I"⟩
abbrev cX5_barOf : ByteArray := prog_7_method_20_code
def yX5_barOf : MethodName := ⟨RX5, "barOf", "(I)I"⟩
abbrev cX5_endOf : ByteArray := prog_7_method_21_code
def yX5_endOf : MethodName := ⟨RX5, "endOf", "(I)I"⟩
abbrev cX5_barOfMark : ByteArray := prog_7_method_22_code
def yX5_barOfMark : MethodName := ⟨RX5, "barOfMark", "(II)I"⟩
abbrev cX5_titleAt : ByteArray := prog_7_method_23_code
def yX5_titleAt : MethodName := ⟨RX5, "titleAt", "(I)I"⟩
abbrev cX5_stringFrom : ByteArray := prog_7_method_24_code
def yX5_stringFrom : MethodName := ⟨RX5, "stringFrom", "(II)I"⟩
abbrev cX5_stringLength : ByteArray := prog_7_method_25_code
def yX5_stringLength : MethodName := ⟨RX5, "stringLength", "(II)I"⟩
abbrev cX5_slotOf : ByteArray := prog_7_method_26_code
def yX5_slotOf : MethodName := ⟨RX5, "slotOf", "(II)I"⟩
abbrev cX5_cutTakes : ByteArray := prog_7_method_27_code
def yX5_cutTakes : MethodName := ⟨RX5, "cutTakes", "(II)Z"⟩
abbrev cX5_cutFirst : ByteArray := prog_7_method_28_code
def yX5_cutFirst : MethodName := ⟨RX5, "cutFirst", "(I)I"⟩
abbrev cX5_cutBehind : ByteArray := prog_7_method_29_code
def yX5_cutBehind : MethodName := ⟨RX5, "cutBehind", "(I)I"⟩
def RX6 : String := "TitleDesk$Tape"
def TX6 : u_T := fun k => match k with
  | 0 => ("TitleDesk$Tape", "signs", "[B", true)
  | _ => ("TitleDesk$Tape", "size", "I", false)
def tyX6 : Nat → FieldType := fun k => match k with
  | 0 => .array .byte
  | _ => .int
abbrev wsX60 : List Cond := u_ws RX6 TX6 2
theorem nmX6 : ∀ a, a < 2 → ∀ b, b < 2 → a ≠ b → (TX6 a).2.1 ≠ (TX6 b).2.1 := by decide +kernel
theorem tyX6_ok : ∀ k, k < 2 → parseFieldDescriptor (TX6 k).2.2.1 = some (tyX6 k) := by decide +kernel
abbrev cX6_init : ByteArray := prog_8_method_1_code
def yX6_init : MethodName := ⟨RX6, "<init>", "()V"⟩
abbrev cX6_hasRoom : ByteArray := prog_8_method_2_code
def yX6_hasRoom : MethodName := ⟨RX6, "hasRoom", "()Z"⟩
abbrev cX6_holds : ByteArray := prog_8_method_3_code
def yX6_holds : MethodName := ⟨RX6, "holds", "(I)Z"⟩
abbrev cX6_append : ByteArray := prog_8_method_4_code
def yX6_append : MethodName := ⟨RX6, "append", "(I)V"⟩
abbrev cX6_clear : ByteArray := prog_8_method_5_code
def yX6_clear : MethodName := ⟨RX6, "clear", "()V"⟩
def RX7 : String := "TitleDesk$Wording"
def TX7 : u_T := fun k => match k with
  | 0 => ("TitleDesk$Wording", "signs", "[B", false)
  | 1 => ("TitleDesk$Wording", "from", "I", false)
  | 2 => ("TitleDesk$Wording", "length", "I", false)
  | 3 => ("TitleDesk$Wording", "isChanged", "Z", false)
  | 4 => ("TitleDesk$Wording", "pages", "I", false)
  | 5 => ("TitleDesk$Wording", "price", "I", false)
  | _ => ("TitleDesk$Wording", "rowEnds", "[I", true)
def tyX7 : Nat → FieldType := fun k => match k with
  | 0 => .array .byte
  | 1 => .int
  | 2 => .int
  | 3 => .boolean
  | 4 => .int
  | 5 => .int
  | _ => .array .int
abbrev wsX70 : List Cond := u_ws RX7 TX7 7
theorem nmX7 : ∀ a, a < 7 → ∀ b, b < 7 → a ≠ b → (TX7 a).2.1 ≠ (TX7 b).2.1 := by decide +kernel
theorem tyX7_ok : ∀ k, k < 7 → parseFieldDescriptor (TX7 k).2.2.1 = some (tyX7 k) := by decide +kernel
abbrev cX7_init : ByteArray := prog_9_method_1_code
def yX7_init : MethodName := ⟨RX7, "<init>", "([B)V"⟩
abbrev cX7_setString : ByteArray := prog_9_method_2_code
def yX7_setString : MethodName := ⟨RX7, "setString", "([BIIZ)V"⟩
abbrev cX7_setRowEnd : ByteArray := prog_9_method_3_code
def yX7_setRowEnd : MethodName := ⟨RX7, "setRowEnd", "(II)V"⟩
abbrev cX7_rowBegin : ByteArray := prog_9_method_4_code
def yX7_rowBegin : MethodName := ⟨RX7, "rowBegin", "(I)I"⟩
abbrev cX7_rowLength : ByteArray := prog_9_method_5_code
def yX7_rowLength : MethodName := ⟨RX7, "rowLength", "(I)I"⟩
abbrev cX7_signsOf : ByteArray := prog_9_method_6_code
def yX7_signsOf : MethodName := ⟨RX7, "signsOf", "(I)I"⟩
abbrev cX7_signAt : ByteArray := prog_9_method_7_code
def yX7_signAt : MethodName := ⟨RX7, "signAt", "(III)I"⟩
def RX8 : String := "TitleDesk$Words"
def TX8 : u_T := fun k => match k with
  | _ => ("", "", "", false)
def tyX8 : Nat → FieldType := fun k => match k with
  | _ => .int
abbrev wsX80 : List Cond := u_ws RX8 TX8 0
theorem nmX8 : ∀ a, a < 0 → ∀ b, b < 0 → a ≠ b → (TX8 a).2.1 ≠ (TX8 b).2.1 := by decide +kernel
theorem tyX8_ok : ∀ k, k < 0 → parseFieldDescriptor (TX8 k).2.2.1 = some (tyX8 k) := by decide +kernel
abbrev cX8_areWithin : ByteArray := prog_10_method_2_code
def yX8_areWithin : MethodName := ⟨RX8, "areWithin", "([BII)Z"⟩
abbrev cX8_areProper : ByteArray := prog_10_method_3_code
def yX8_areProper : MethodName := ⟨RX8, "areProper", "([BII)Z"⟩
abbrev cX8_fit : ByteArray := prog_10_method_4_code
def yX8_fit : MethodName := ⟨RX8, "fit", "([BIII)Z"⟩
abbrev cX8_leastRows : ByteArray := prog_10_method_5_code
def yX8_leastRows : MethodName := ⟨RX8, "leastRows", "([BIII)I"⟩
def RX9 : String := "TitleDesk"
def TX9 : u_T := fun k => match k with
  | 0 => ("TitleDesk", "tape", "LTitleDesk$Tape;", false)
  | 1 => ("TitleDesk", "textTape", "LTitleDesk$Tape;", false)
  | 2 => ("TitleDesk", "script", "LTitleDesk$Script;", false)
  | 3 => ("TitleDesk", "draft", "LTitleDesk$Script;", false)
  | 4 => ("TitleDesk", "reader", "LTitleDesk$Reader;", true)
  | 5 => ("TitleDesk", "board", "LTitleDesk$Board;", true)
  | _ => ("TitleDesk", "evening", "LTitleDesk$Evening;", true)
def tyX9 : Nat → FieldType := fun k => match k with
  | 0 => .object "TitleDesk$Tape"
  | 1 => .object "TitleDesk$Tape"
  | 2 => .object "TitleDesk$Script"
  | 3 => .object "TitleDesk$Script"
  | 4 => .object "TitleDesk$Reader"
  | 5 => .object "TitleDesk$Board"
  | _ => .object "TitleDesk$Evening"
abbrev wsX90 : List Cond := u_ws RX9 TX9 7
theorem nmX9 : ∀ a, a < 7 → ∀ b, b < 7 → a ≠ b → (TX9 a).2.1 ≠ (TX9 b).2.1 := by decide +kernel
theorem tyX9_ok : ∀ k, k < 7 → parseFieldDescriptor (TX9 k).2.2.1 = some (tyX9 k) := by decide +kernel
abbrev cX9_init : ByteArray := prog_1_method_1_code
def yX9_init : MethodName := ⟨RX9, "<init>", "()V"⟩
abbrev cX9_feed : ByteArray := prog_1_method_2_code
def yX9_feed : MethodName := ⟨RX9, "feed", "(IIIII)I"⟩
abbrev cX9_text : ByteArray := prog_1_method_3_code
def yX9_text : MethodName := ⟨RX9, "text", "(I)I"⟩
abbrev cX9_takeDraft : ByteArray := prog_1_method_4_code
def yX9_takeDraft : MethodName := ⟨RX9, "takeDraft", "()V"⟩
abbrev cX9_fault : ByteArray := prog_1_method_5_code
def yX9_fault : MethodName := ⟨RX9, "fault", "(I)I"⟩
abbrev cX9_begin : ByteArray := prog_1_method_6_code
def yX9_begin : MethodName := ⟨RX9, "begin", "()V"⟩
abbrev cX9_cut : ByteArray := prog_1_method_7_code
def yX9_cut : MethodName := ⟨RX9, "cut", "(IZ)Z"⟩
abbrev cX9_change : ByteArray := prog_1_method_8_code
def yX9_change : MethodName := ⟨RX9, "change", "(III)Z"⟩
abbrev cX9_heard : ByteArray := prog_1_method_9_code
def yX9_heard : MethodName := ⟨RX9, "heard", "(I)I"⟩
abbrev cX9_hand : ByteArray := prog_1_method_10_code
def yX9_hand : MethodName := ⟨RX9, "hand", "(IZ)I"⟩
abbrev cX9_title : ByteArray := prog_1_method_11_code
def yX9_title : MethodName := ⟨RX9, "title", "(II)I"⟩
abbrev cX9_pages : ByteArray := prog_1_method_12_code
def yX9_pages : MethodName := ⟨RX9, "pages", "(II)I"⟩
abbrev cX9_price : ByteArray := prog_1_method_13_code
def yX9_price : MethodName := ⟨RX9, "price", "(II)I"⟩
abbrev cX9_refuseUnknown : ByteArray := prog_1_method_14_code
def yX9_refuseUnknown : MethodName := ⟨RX9, "refuseUnknown", "(II)V"⟩
abbrev cX9_sign : ByteArray := prog_1_method_15_code
def yX9_sign : MethodName := ⟨RX9, "sign", "(IIIII)I"⟩
abbrev cX9_shown : ByteArray := prog_1_method_16_code
def yX9_shown : MethodName := ⟨RX9, "shown", "(I)I"⟩
abbrev cX9_now : ByteArray := prog_1_method_17_code
def yX9_now : MethodName := ⟨RX9, "now", "(III)I"⟩
abbrev cX9_count : ByteArray := prog_1_method_18_code
def yX9_count : MethodName := ⟨RX9, "count", "(I)I"⟩
abbrev cX9_countedBarsOf : ByteArray := prog_1_method_19_code
def yX9_countedBarsOf : MethodName := ⟨RX9, "countedBarsOf", "(I)I"⟩
abbrev cX9_shownStep : ByteArray := prog_1_method_20_code
def yX9_shownStep : MethodName := ⟨RX9, "shownStep", "(I)I"⟩
abbrev cX9_shownPage : ByteArray := prog_1_method_21_code
def yX9_shownPage : MethodName := ⟨RX9, "shownPage", "(III)I"⟩
abbrev cX9_share : ByteArray := prog_1_method_22_code
def yX9_share : MethodName := ⟨RX9, "share", "(III)I"⟩
def RX10 : String := "TitleDeskModel"
def TX10 : u_T := fun k => match k with
  | 0 => ("TitleDeskModel", "tape", "[I", true)
  | 1 => ("TitleDeskModel", "tapeSize", "I", false)
  | 2 => ("TitleDeskModel", "thrown", "I", false)
  | 3 => ("TitleDeskModel", "tongues", "I", false)
  | 4 => ("TitleDeskModel", "width", "[I", true)
  | 5 => ("TitleDeskModel", "speed", "[I", true)
  | 6 => ("TitleDeskModel", "beats", "I", false)
  | 7 => ("TitleDeskModel", "items", "I", false)
  | 8 => ("TitleDeskModel", "titles", "I", false)
  | 9 => ("TitleDeskModel", "itemBar", "[I", true)
  | 10 => ("TitleDeskModel", "itemTitle", "[I", true)
  | 11 => ("TitleDeskModel", "titleItem", "[I", true)
  | 12 => ("TitleDeskModel", "cutFrom", "[I", true)
  | 13 => ("TitleDeskModel", "cutTo", "[I", true)
  | 14 => ("TitleDeskModel", "cuts", "I", false)
  | 15 => ("TitleDeskModel", "signs", "[I", true)
  | 16 => ("TitleDeskModel", "sizes", "[I", true)
  | 17 => ("TitleDeskModel", "own", "[Z", true)
  | 18 => ("TitleDeskModel", "isOn", "[Z", true)
  | 19 => ("TitleDeskModel", "changed", "[Z", true)
  | 20 => ("TitleDeskModel", "tonight", "[I", true)
  | 21 => ("TitleDeskModel", "tonightSize", "[I", true)
  | 22 => ("TitleDeskModel", "pos", "I", false)
  | 23 => ("TitleDeskModel", "following", "Z", false)
  | 24 => ("TitleDeskModel", "doubts", "I", false)
  | 25 => ("TitleDeskModel", "lastDoubt", "I", false)
  | 26 => ("TitleDeskModel", "hand", "[I", true)
  | 27 => ("TitleDeskModel", "wordFrom", "[I", true)
  | 28 => ("TitleDeskModel", "wordTo", "[I", true)
  | 29 => ("TitleDeskModel", "words", "I", false)
  | 30 => ("TitleDeskModel", "least", "[I", true)
  | 31 => ("TitleDeskModel", "rowMany", "[I", true)
  | 32 => ("TitleDeskModel", "pageMany", "I", false)
  | 33 => ("TitleDeskModel", "priceOf", "I", false)
  | 34 => ("TitleDeskModel", "size", "I", false)
  | 35 => ("TitleDeskModel", "next", "I", false)
  | 36 => ("TitleDeskModel", "kind", "I", false)
  | 37 => ("TitleDeskModel", "which", "I", false)
  | 38 => ("TitleDeskModel", "place", "I", false)
  | 39 => ("TitleDeskModel", "fault", "I", false)
  | 40 => ("TitleDeskModel", "faultPlace", "I", false)
  | 41 => ("TitleDeskModel", "rTongues", "I", false)
  | 42 => ("TitleDeskModel", "rWidth", "[I", true)
  | 43 => ("TitleDeskModel", "rSpeed", "[I", true)
  | 44 => ("TitleDeskModel", "rBeats", "I", false)
  | 45 => ("TitleDeskModel", "rItems", "I", false)
  | 46 => ("TitleDeskModel", "rTitles", "I", false)
  | 47 => ("TitleDeskModel", "rBar", "[I", true)
  | 48 => ("TitleDeskModel", "rTitle", "[I", true)
  | 49 => ("TitleDeskModel", "rCutFrom", "[I", true)
  | 50 => ("TitleDeskModel", "rCutTo", "[I", true)
  | 51 => ("TitleDeskModel", "rCuts", "I", false)
  | 52 => ("TitleDeskModel", "rFrom", "[I", true)
  | 53 => ("TitleDeskModel", "rSize", "[I", true)
  | 54 => ("TitleDeskModel", "wordRow", "[I", true)
  | _ => ("TitleDeskModel", "told", "I", false)
def tyX10 : Nat → FieldType := fun k => match k with
  | 0 => .array .int
  | 1 => .int
  | 2 => .int
  | 3 => .int
  | 4 => .array .int
  | 5 => .array .int
  | 6 => .int
  | 7 => .int
  | 8 => .int
  | 9 => .array .int
  | 10 => .array .int
  | 11 => .array .int
  | 12 => .array .int
  | 13 => .array .int
  | 14 => .int
  | 15 => .array .int
  | 16 => .array .int
  | 17 => .array .boolean
  | 18 => .array .boolean
  | 19 => .array .boolean
  | 20 => .array .int
  | 21 => .array .int
  | 22 => .int
  | 23 => .boolean
  | 24 => .int
  | 25 => .int
  | 26 => .array .int
  | 27 => .array .int
  | 28 => .array .int
  | 29 => .int
  | 30 => .array .int
  | 31 => .array .int
  | 32 => .int
  | 33 => .int
  | 34 => .int
  | 35 => .int
  | 36 => .int
  | 37 => .int
  | 38 => .int
  | 39 => .int
  | 40 => .int
  | 41 => .int
  | 42 => .array .int
  | 43 => .array .int
  | 44 => .int
  | 45 => .int
  | 46 => .int
  | 47 => .array .int
  | 48 => .array .int
  | 49 => .array .int
  | 50 => .array .int
  | 51 => .int
  | 52 => .array .int
  | 53 => .array .int
  | 54 => .array .int
  | _ => .int
abbrev wsX100 : List Cond := u_ws RX10 TX10 56
theorem nmX10 : ∀ a, a < 56 → ∀ b, b < 56 → a ≠ b → (TX10 a).2.1 ≠ (TX10 b).2.1 := by decide +kernel
theorem tyX10_ok : ∀ k, k < 56 → parseFieldDescriptor (TX10 k).2.2.1 = some (tyX10 k) := by decide +kernel
abbrev cX10_init : ByteArray := prog_12_method_1_code
def yX10_init : MethodName := ⟨RX10, "<init>", "()V"⟩
abbrev cX10_thrown : ByteArray := prog_12_method_2_code
def yX10_thrown : MethodName := ⟨RX10, "thrown", "()I"⟩
abbrev cX10_feed : ByteArray := prog_12_method_3_code
def yX10_feed : MethodName := ⟨RX10, "feed", "(IIIII)I"⟩
abbrev cX10_cutWords : ByteArray := prog_12_method_4_code
def yX10_cutWords : MethodName := ⟨RX10, "cutWords", "(I)V"⟩
abbrev cX10_rowLength : ByteArray := prog_12_method_5_code
def yX10_rowLength : MethodName := ⟨RX10, "rowLength", "(II)I"⟩
abbrev cX10_fits : ByteArray := prog_12_method_6_code
def yX10_fits : MethodName := ⟨RX10, "fits", "(II)I"⟩
abbrev cX10_lay : ByteArray := prog_12_method_7_code
def yX10_lay : MethodName := ⟨RX10, "lay", "(II)Z"⟩
abbrev cX10_paid : ByteArray := prog_12_method_8_code
def yX10_paid : MethodName := ⟨RX10, "paid", "(III)I"⟩
abbrev cX10_best : ByteArray := prog_12_method_9_code
def yX10_best : MethodName := ⟨RX10, "best", "(III)I"⟩
abbrev cX10_layTongue : ByteArray := prog_12_method_10_code
def yX10_layTongue : MethodName := ⟨RX10, "layTongue", "(II)V"⟩
abbrev cX10_wrong : ByteArray := prog_12_method_11_code
def yX10_wrong : MethodName := ⟨RX10, "wrong", "(II)Z"⟩
abbrev cX10_wordAt : ByteArray := prog_12_method_12_code
def yX10_wordAt : MethodName := ⟨RX10, "wordAt", "(II)I"⟩
abbrev cX10_isSmall : ByteArray := prog_12_method_13_code
def yX10_isSmall : MethodName := ⟨RX10, "isSmall", "(I)Z"⟩
abbrev cX10_isDigit : ByteArray := prog_12_method_14_code
def yX10_isDigit : MethodName := ⟨RX10, "isDigit", "(I)Z"⟩
abbrev cX10_take : ByteArray := prog_12_method_15_code
def yX10_take : MethodName := ⟨RX10, "take", "()V"⟩
abbrev cX10_string : ByteArray := prog_12_method_16_code
def yX10_string : MethodName := ⟨RX10, "string", "()V"⟩
abbrev cX10_number : ByteArray := prog_12_method_17_code
def yX10_number : MethodName := ⟨RX10, "number", "(II)Z"⟩
abbrev cX10_semi : ByteArray := prog_12_method_18_code
def yX10_semi : MethodName := ⟨RX10, "semi", "()Z"⟩
abbrev cX10_areWords : ByteArray := prog_12_method_19_code
def yX10_areWords : MethodName := ⟨RX10, "areWords", "(II)Z"⟩
abbrev cX10_setting : ByteArray := prog_12_method_20_code
def yX10_setting : MethodName := ⟨RX10, "setting", "()Z"⟩
abbrev cX10_bar : ByteArray := prog_12_method_21_code
def yX10_bar : MethodName := ⟨RX10, "bar", "()Z"⟩
abbrev cX10_title : ByteArray := prog_12_method_22_code
def yX10_title : MethodName := ⟨RX10, "title", "()Z"⟩
abbrev cX10_cutItem : ByteArray := prog_12_method_23_code
def yX10_cutItem : MethodName := ⟨RX10, "cutItem", "()Z"⟩
abbrev cX10_item : ByteArray := prog_12_method_24_code
def yX10_item : MethodName := ⟨RX10, "item", "()Z"⟩
abbrev cX10_reads : ByteArray := prog_12_method_25_code
def yX10_reads : MethodName := ⟨RX10, "reads", "()Z"⟩
abbrev cX10_text : ByteArray := prog_12_method_26_code
def yX10_text : MethodName := ⟨RX10, "text", "(I)I"⟩
abbrev cX10_fault : ByteArray := prog_12_method_27_code
def yX10_fault : MethodName := ⟨RX10, "fault", "(I)I"⟩
abbrev cX10_opens : ByteArray := prog_12_method_28_code
def yX10_opens : MethodName := ⟨RX10, "opens", "()V"⟩
abbrev cX10_begin : ByteArray := prog_12_method_29_code
def yX10_begin : MethodName := ⟨RX10, "begin", "()V"⟩
abbrev cX10_isCut : ByteArray := prog_12_method_30_code
def yX10_isCut : MethodName := ⟨RX10, "isCut", "(I)Z"⟩
abbrev cX10_goesOn : ByteArray := prog_12_method_31_code
def yX10_goesOn : MethodName := ⟨RX10, "goesOn", "()V"⟩
abbrev cX10_cut : ByteArray := prog_12_method_32_code
def yX10_cut : MethodName := ⟨RX10, "cut", "(IZ)Z"⟩
abbrev cX10_isTitle : ByteArray := prog_12_method_33_code
def yX10_isTitle : MethodName := ⟨RX10, "isTitle", "(I)Z"⟩
abbrev cX10_isTongue : ByteArray := prog_12_method_34_code
def yX10_isTongue : MethodName := ⟨RX10, "isTongue", "(I)Z"⟩
abbrev cX10_change : ByteArray := prog_12_method_35_code
def yX10_change : MethodName := ⟨RX10, "change", "(III)Z"⟩
abbrev cX10_heard : ByteArray := prog_12_method_36_code
def yX10_heard : MethodName := ⟨RX10, "heard", "(I)I"⟩
abbrev cX10_hand : ByteArray := prog_12_method_37_code
def yX10_hand : MethodName := ⟨RX10, "hand", "(IZ)I"⟩
abbrev cX10_steps : ByteArray := prog_12_method_38_code
def yX10_steps : MethodName := ⟨RX10, "steps", "(I)I"⟩
abbrev cX10_endOf : ByteArray := prog_12_method_39_code
def yX10_endOf : MethodName := ⟨RX10, "endOf", "(I)I"⟩
abbrev cX10_bars : ByteArray := prog_12_method_40_code
def yX10_bars : MethodName := ⟨RX10, "bars", "(II)I"⟩
abbrev cX10_stepAt : ByteArray := prog_12_method_41_code
def yX10_stepAt : MethodName := ⟨RX10, "stepAt", "(III)I"⟩
abbrev cX10_shortOf : ByteArray := prog_12_method_42_code
def yX10_shortOf : MethodName := ⟨RX10, "shortOf", "(I)I"⟩
abbrev cX10_fails : ByteArray := prog_12_method_43_code
def yX10_fails : MethodName := ⟨RX10, "fails", "(I)I"⟩
abbrev cX10_title_ : ByteArray := prog_12_method_44_code
def yX10_title_ : MethodName := ⟨RX10, "title", "(II)I"⟩
abbrev cX10_pages : ByteArray := prog_12_method_45_code
def yX10_pages : MethodName := ⟨RX10, "pages", "(II)I"⟩
abbrev cX10_price : ByteArray := prog_12_method_46_code
def yX10_price : MethodName := ⟨RX10, "price", "(II)I"⟩
abbrev cX10_signOf : ByteArray := prog_12_method_47_code
def yX10_signOf : MethodName := ⟨RX10, "signOf", "(IIIII)I"⟩
abbrev cX10_sign : ByteArray := prog_12_method_48_code
def yX10_sign : MethodName := ⟨RX10, "sign", "(IIIII)I"⟩
abbrev cX10_standing : ByteArray := prog_12_method_49_code
def yX10_standing : MethodName := ⟨RX10, "standing", "()I"⟩
abbrev cX10_stepNow : ByteArray := prog_12_method_50_code
def yX10_stepNow : MethodName := ⟨RX10, "stepNow", "(I)I"⟩
abbrev cX10_pageNow : ByteArray := prog_12_method_51_code
def yX10_pageNow : MethodName := ⟨RX10, "pageNow", "(II)I"⟩
abbrev cX10_shown : ByteArray := prog_12_method_52_code
def yX10_shown : MethodName := ⟨RX10, "shown", "(I)I"⟩
abbrev cX10_now : ByteArray := prog_12_method_53_code
def yX10_now : MethodName := ⟨RX10, "now", "(III)I"⟩
abbrev cX10_count : ByteArray := prog_12_method_54_code
def yX10_count : MethodName := ⟨RX10, "count", "(I)I"⟩
def RJx8e188 : String := "java/lang/Cloneable"
def TJx8e188 : u_T := fun k => match k with
  | _ => ("", "", "", false)
def tyJx8e188 : Nat → FieldType := fun k => match k with
  | _ => .int
theorem nmJx8e188 : ∀ a, a < 0 → ∀ b, b < 0 → a ≠ b → (TJx8e188 a).2.1 ≠ (TJx8e188 b).2.1 := by decide +kernel
theorem tyJx8e188_ok : ∀ k, k < 0 → parseFieldDescriptor (TJx8e188 k).2.2.1 = some (tyJx8e188 k) := by decide +kernel
def RJ9 : String := "java/lang/Math"
def TJ9 : u_T := fun k => match k with
  | _ => ("", "", "", false)
def tyJ9 : Nat → FieldType := fun k => match k with
  | _ => .int
theorem nmJ9 : ∀ a, a < 0 → ∀ b, b < 0 → a ≠ b → (TJ9 a).2.1 ≠ (TJ9 b).2.1 := by decide +kernel
theorem tyJ9_ok : ∀ k, k < 0 → parseFieldDescriptor (TJ9 k).2.2.1 = some (tyJ9 k) := by decide +kernel
abbrev cJ9_max_7cf53 : ByteArray := prog_16_method_65_code
def yJ9_max_7cf53 : MethodName := ⟨RJ9, "max", "(II)I"⟩
abbrev cJ9_min_7cf53 : ByteArray := prog_16_method_69_code
def yJ9_min_7cf53 : MethodName := ⟨RJ9, "min", "(II)I"⟩
def RJ0 : String := "java/lang/String"
def TJ0 : u_T := fun k => match k with
  | _ => ("", "", "", false)
def tyJ0 : Nat → FieldType := fun k => match k with
  | _ => .int
theorem nmJ0 : ∀ a, a < 0 → ∀ b, b < 0 → a ≠ b → (TJ0 a).2.1 ≠ (TJ0 b).2.1 := by decide +kernel
theorem tyJ0_ok : ∀ k, k < 0 → parseFieldDescriptor (TJ0 k).2.2.1 = some (tyJ0 k) := by decide +kernel
abbrev cJ0_length_8abf5 : ByteArray := prog_18_method_54_code
def yJ0_length_8abf5 : MethodName := ⟨RJ0, "length", "()I"⟩
abbrev cJ0_charAt_5068e : ByteArray := prog_18_method_56_code
def yJ0_charAt_5068e : MethodName := ⟨RJ0, "charAt", "(I)C"⟩
abbrev cJ0_coder_7d493 : ByteArray := prog_18_method_152_code
def yJ0_coder_7d493 : MethodName := ⟨RJ0, "coder", "()B"⟩
abbrev cJ0_isLatin1_aae02 : ByteArray := prog_18_method_154_code
def yJ0_isLatin1_aae02 : MethodName := ⟨RJ0, "isLatin1", "()Z"⟩
abbrev cJ0_checkIndex_df160 : ByteArray := prog_18_method_155_code
def yJ0_checkIndex_df160 : MethodName := ⟨RJ0, "checkIndex", "(II)V"⟩
def RJ1 : String := "java/lang/StringLatin1"
def TJ1 : u_T := fun k => match k with
  | _ => ("", "", "", false)
def tyJ1 : Nat → FieldType := fun k => match k with
  | _ => .int
theorem nmJ1 : ∀ a, a < 0 → ∀ b, b < 0 → a ≠ b → (TJ1 a).2.1 ≠ (TJ1 b).2.1 := by decide +kernel
theorem tyJ1_ok : ∀ k, k < 0 → parseFieldDescriptor (TJ1 k).2.2.1 = some (tyJ1 k) := by decide +kernel
abbrev cJ1_charAt_3b067 : ByteArray := prog_19_method_2_code
def yJ1_charAt_3b067 : MethodName := ⟨RJ1, "charAt", "([BI)C"⟩
def RJ2 : String := "java/lang/StringUTF16"
def TJ2 : u_T := fun k => match k with
  | _ => ("", "", "", false)
def tyJ2 : Nat → FieldType := fun k => match k with
  | _ => .int
theorem nmJ2 : ∀ a, a < 0 → ∀ b, b < 0 → a ≠ b → (TJ2 a).2.1 ≠ (TJ2 b).2.1 := by decide +kernel
theorem tyJ2_ok : ∀ k, k < 0 → parseFieldDescriptor (TJ2 k).2.2.1 = some (tyJ2 k) := by decide +kernel
abbrev cJ2_getChar_3b067 : ByteArray := prog_20_method_5_code
def yJ2_getChar_3b067 : MethodName := ⟨RJ2, "getChar", "([BI)C"⟩
abbrev cJ2_length_9d52b : ByteArray := prog_20_method_6_code
def yJ2_length_9d52b : MethodName := ⟨RJ2, "length", "([B)I"⟩
abbrev cJ2_charAt_3b067 : ByteArray := prog_20_method_83_code
def yJ2_charAt_3b067 : MethodName := ⟨RJ2, "charAt", "([BI)C"⟩
abbrev cJ2_checkIndex_2214a : ByteArray := prog_20_method_91_code
def yJ2_checkIndex_2214a : MethodName := ⟨RJ2, "checkIndex", "(I[B)V"⟩
def RJ10 : String := "java/lang/System"
def TJ10 : u_T := fun k => match k with
  | _ => ("", "", "", false)
def tyJ10 : Nat → FieldType := fun k => match k with
  | _ => .int
theorem nmJ10 : ∀ a, a < 0 → ∀ b, b < 0 → a ≠ b → (TJ10 a).2.1 ≠ (TJ10 b).2.1 := by decide +kernel
theorem tyJ10_ok : ∀ k, k < 0 → parseFieldDescriptor (TJ10 k).2.2.1 = some (tyJ10 k) := by decide +kernel
def RJ7 : String := "java/util/Arrays"
def TJ7 : u_T := fun k => match k with
  | _ => ("", "", "", false)
def tyJ7 : Nat → FieldType := fun k => match k with
  | _ => .int
theorem nmJ7 : ∀ a, a < 0 → ∀ b, b < 0 → a ≠ b → (TJ7 a).2.1 ≠ (TJ7 b).2.1 := by decide +kernel
theorem tyJ7_ok : ∀ k, k < 0 → parseFieldDescriptor (TJ7 k).2.2.1 = some (tyJ7 k) := by decide +kernel
abbrev cJ7_fill_53178 : ByteArray := prog_23_method_103_code
def yJ7_fill_53178 : MethodName := ⟨RJ7, "fill", "([II)V"⟩
abbrev cJ7_copyOf_9075b : ByteArray := prog_23_method_121_code
def yJ7_copyOf_9075b : MethodName := ⟨RJ7, "copyOf", "([BI)[B"⟩
def RJ3 : String := "jdk/internal/util/Preconditions"
def TJ3 : u_T := fun k => match k with
  | _ => ("", "", "", false)
def tyJ3 : Nat → FieldType := fun k => match k with
  | _ => .int
theorem nmJ3 : ∀ a, a < 0 → ∀ b, b < 0 → a ≠ b → (TJ3 a).2.1 ≠ (TJ3 b).2.1 := by decide +kernel
theorem tyJ3_ok : ∀ k, k < 0 → parseFieldDescriptor (TJ3 k).2.2.1 = some (tyJ3 k) := by decide +kernel
abbrev cJ3_checkIndex_8e157 : ByteArray := prog_25_method_11_code
def yJ3_checkIndex_8e157 : MethodName := ⟨RJ3, "checkIndex", "(IILjava/util/function/BiFunction;)I"⟩
def RL : String := "TitleDeskLaw"
abbrev cL_title : ByteArray := method_3_code
def yL_title : MethodName := ⟨RL, "title", "(LTitleDesk;II[J)I"⟩
abbrev cL_pages : ByteArray := method_4_code
def yL_pages : MethodName := ⟨RL, "pages", "(LTitleDesk;II[J)I"⟩
abbrev cL_price : ByteArray := method_5_code
def yL_price : MethodName := ⟨RL, "price", "(LTitleDesk;II[J)I"⟩
abbrev cL_law : ByteArray := code
def yL_law : MethodName := ⟨RL, "law", "([I)Z"⟩
abbrev vwCl : List vw_C := [(RX0, TX0, 5), (RX1, TX1, 9), (RX2, TX2, 6), (RX3, TX3, 6), (RX4, TX4, 6), (RX5, TX5, 13), (RX6, TX6, 2), (RX7, TX7, 7), (RX9, TX9, 7), (RX10, TX10, 56)]
end
section
theorem dX0_init_0 : decode cX0_init 0 = .ok (.aload_n 0, 1) := by decide +kernel
theorem dX0_init_1 : decode cX0_init 1 = .ok (.invokespecial 3, 3) := by decide +kernel
theorem dX0_init_4 : decode cX0_init 4 = .ok (.aload_n 0, 1) := by decide +kernel
theorem dX0_init_5 : decode cX0_init 5 = .ok (.sipush 160, 3) := by decide +kernel
theorem dX0_init_8 : decode cX0_init 8 = .ok (.anewarray 9, 3) := by decide +kernel
theorem dX0_init_11 : decode cX0_init 11 = .ok (.putfield 11, 3) := by decide +kernel
theorem dX0_init_14 : decode cX0_init 14 = .ok (.aload_n 0, 1) := by decide +kernel
theorem dX0_init_15 : decode cX0_init 15 = .ok (.new 17, 3) := by decide +kernel
theorem dX0_init_18 : decode cX0_init 18 = .ok (.dup, 1) := by decide +kernel
theorem dX0_init_19 : decode cX0_init 19 = .ok (.invokespecial 19, 3) := by decide +kernel
theorem dX0_init_22 : decode cX0_init 22 = .ok (.putfield 20, 3) := by decide +kernel
theorem dX0_init_25 : decode cX0_init 25 = .ok (.aload_n 0, 1) := by decide +kernel
theorem dX0_init_26 : decode cX0_init 26 = .ok (.aload_n 1, 1) := by decide +kernel
theorem dX0_init_27 : decode cX0_init 27 = .ok (.putfield 24, 3) := by decide +kernel
theorem dX0_init_30 : decode cX0_init 30 = .ok (.aload_n 0, 1) := by decide +kernel
theorem dX0_init_31 : decode cX0_init 31 = .ok (.aload_n 2, 1) := by decide +kernel
theorem dX0_init_32 : decode cX0_init 32 = .ok (.putfield 28, 3) := by decide +kernel
theorem dX0_init_35 : decode cX0_init 35 = .ok (.aload_n 0, 1) := by decide +kernel
theorem dX0_init_36 : decode cX0_init 36 = .ok (.new 9, 3) := by decide +kernel
theorem dX0_init_39 : decode cX0_init 39 = .ok (.dup, 1) := by decide +kernel
theorem dX0_init_40 : decode cX0_init 40 = .ok (.aload_n 2, 1) := by decide +kernel
theorem dX0_init_41 : decode cX0_init 41 = .ok (.invokespecial 32, 3) := by decide +kernel
theorem dX0_init_44 : decode cX0_init 44 = .ok (.putfield 35, 3) := by decide +kernel
theorem dX0_init_47 : decode cX0_init 47 = .ok (.iconst 0, 1) := by decide +kernel
theorem dX0_init_48 : decode cX0_init 48 = .ok (.istore_n 3, 1) := by decide +kernel
theorem dX0_init_49 : decode cX0_init 49 = .ok (.iload_n 3, 1) := by decide +kernel
theorem dX0_init_50 : decode cX0_init 50 = .ok (.aload_n 0, 1) := by decide +kernel
theorem dX0_init_51 : decode cX0_init 51 = .ok (.getfield 11, 3) := by decide +kernel
theorem dX0_init_54 : decode cX0_init 54 = .ok (.arraylength, 1) := by decide +kernel
theorem dX0_init_55 : decode cX0_init 55 = .ok (.if_icmp .ge 23, 3) := by decide +kernel
theorem dX0_init_58 : decode cX0_init 58 = .ok (.aload_n 0, 1) := by decide +kernel
theorem dX0_init_59 : decode cX0_init 59 = .ok (.getfield 11, 3) := by decide +kernel
theorem dX0_init_62 : decode cX0_init 62 = .ok (.iload_n 3, 1) := by decide +kernel
theorem dX0_init_63 : decode cX0_init 63 = .ok (.new 9, 3) := by decide +kernel
theorem dX0_init_66 : decode cX0_init 66 = .ok (.dup, 1) := by decide +kernel
theorem dX0_init_67 : decode cX0_init 67 = .ok (.aload_n 2, 1) := by decide +kernel
theorem dX0_init_68 : decode cX0_init 68 = .ok (.invokespecial 32, 3) := by decide +kernel
theorem dX0_init_71 : decode cX0_init 71 = .ok (.aastore, 1) := by decide +kernel
theorem dX0_init_72 : decode cX0_init 72 = .ok (.iinc 3 1, 3) := by decide +kernel
theorem dX0_init_75 : decode cX0_init 75 = .ok (.goto (-26), 3) := by decide +kernel
theorem dX0_init_78 : decode cX0_init 78 = .ok (.return_, 1) := by decide +kernel
theorem dX0_useScript_0 : decode cX0_useScript 0 = .ok (.aload_n 0, 1) := by decide +kernel
theorem dX0_useScript_1 : decode cX0_useScript 1 = .ok (.aload_n 1, 1) := by decide +kernel
theorem dX0_useScript_2 : decode cX0_useScript 2 = .ok (.putfield 24, 3) := by decide +kernel
theorem dX0_useScript_5 : decode cX0_useScript 5 = .ok (.aload_n 0, 1) := by decide +kernel
theorem dX0_useScript_6 : decode cX0_useScript 6 = .ok (.aload_n 2, 1) := by decide +kernel
theorem dX0_useScript_7 : decode cX0_useScript 7 = .ok (.putfield 28, 3) := by decide +kernel
theorem dX0_useScript_10 : decode cX0_useScript 10 = .ok (.iconst 0, 1) := by decide +kernel
theorem dX0_useScript_11 : decode cX0_useScript 11 = .ok (.istore_n 3, 1) := by decide +kernel
theorem dX0_useScript_12 : decode cX0_useScript 12 = .ok (.iload_n 3, 1) := by decide +kernel
theorem dX0_useScript_13 : decode cX0_useScript 13 = .ok (.aload_n 0, 1) := by decide +kernel
theorem dX0_useScript_14 : decode cX0_useScript 14 = .ok (.getfield 24, 3) := by decide +kernel
theorem dX0_useScript_17 : decode cX0_useScript 17 = .ok (.getfield 39, 3) := by decide +kernel
theorem dX0_useScript_20 : decode cX0_useScript 20 = .ok (.if_icmp .ge 37, 3) := by decide +kernel
theorem dX0_useScript_23 : decode cX0_useScript 23 = .ok (.iconst 0, 1) := by decide +kernel
theorem dX0_useScript_24 : decode cX0_useScript 24 = .ok (.istore 4, 2) := by decide +kernel
theorem dX0_useScript_26 : decode cX0_useScript 26 = .ok (.iload 4, 2) := by decide +kernel
theorem dX0_useScript_28 : decode cX0_useScript 28 = .ok (.aload_n 0, 1) := by decide +kernel
theorem dX0_useScript_29 : decode cX0_useScript 29 = .ok (.getfield 24, 3) := by decide +kernel
theorem dX0_useScript_32 : decode cX0_useScript 32 = .ok (.getfield 45, 3) := by decide +kernel
theorem dX0_useScript_35 : decode cX0_useScript 35 = .ok (.if_icmp .ge 16, 3) := by decide +kernel
theorem dX0_useScript_38 : decode cX0_useScript 38 = .ok (.aload_n 0, 1) := by decide +kernel
theorem dX0_useScript_39 : decode cX0_useScript 39 = .ok (.iload_n 3, 1) := by decide +kernel
theorem dX0_useScript_40 : decode cX0_useScript 40 = .ok (.iload 4, 2) := by decide +kernel
theorem dX0_useScript_42 : decode cX0_useScript 42 = .ok (.invokevirtual 48, 3) := by decide +kernel
theorem dX0_useScript_45 : decode cX0_useScript 45 = .ok (.iinc 4 1, 3) := by decide +kernel
theorem dX0_useScript_48 : decode cX0_useScript 48 = .ok (.goto (-22), 3) := by decide +kernel
theorem dX0_useScript_51 : decode cX0_useScript 51 = .ok (.iinc 3 1, 3) := by decide +kernel
theorem dX0_useScript_54 : decode cX0_useScript 54 = .ok (.goto (-42), 3) := by decide +kernel
theorem dX0_useScript_57 : decode cX0_useScript 57 = .ok (.return_, 1) := by decide +kernel
theorem dX0_restoreAll_0 : decode cX0_restoreAll 0 = .ok (.iconst 0, 1) := by decide +kernel
theorem dX0_restoreAll_1 : decode cX0_restoreAll 1 = .ok (.istore_n 1, 1) := by decide +kernel
theorem dX0_restoreAll_2 : decode cX0_restoreAll 2 = .ok (.iload_n 1, 1) := by decide +kernel
theorem dX0_restoreAll_3 : decode cX0_restoreAll 3 = .ok (.aload_n 0, 1) := by decide +kernel
theorem dX0_restoreAll_4 : decode cX0_restoreAll 4 = .ok (.getfield 24, 3) := by decide +kernel
theorem dX0_restoreAll_7 : decode cX0_restoreAll 7 = .ok (.getfield 39, 3) := by decide +kernel
theorem dX0_restoreAll_10 : decode cX0_restoreAll 10 = .ok (.if_icmp .ge 46, 3) := by decide +kernel
theorem dX0_restoreAll_13 : decode cX0_restoreAll 13 = .ok (.iconst 0, 1) := by decide +kernel
theorem dX0_restoreAll_14 : decode cX0_restoreAll 14 = .ok (.istore_n 2, 1) := by decide +kernel
theorem dX0_restoreAll_15 : decode cX0_restoreAll 15 = .ok (.iload_n 2, 1) := by decide +kernel
theorem dX0_restoreAll_16 : decode cX0_restoreAll 16 = .ok (.aload_n 0, 1) := by decide +kernel
theorem dX0_restoreAll_17 : decode cX0_restoreAll 17 = .ok (.getfield 24, 3) := by decide +kernel
theorem dX0_restoreAll_20 : decode cX0_restoreAll 20 = .ok (.getfield 45, 3) := by decide +kernel
theorem dX0_restoreAll_23 : decode cX0_restoreAll 23 = .ok (.if_icmp .ge 27, 3) := by decide +kernel
theorem dX0_restoreAll_26 : decode cX0_restoreAll 26 = .ok (.aload_n 0, 1) := by decide +kernel
theorem dX0_restoreAll_27 : decode cX0_restoreAll 27 = .ok (.iload_n 1, 1) := by decide +kernel
theorem dX0_restoreAll_28 : decode cX0_restoreAll 28 = .ok (.iload_n 2, 1) := by decide +kernel
theorem dX0_restoreAll_29 : decode cX0_restoreAll 29 = .ok (.invokevirtual 52, 3) := by decide +kernel
theorem dX0_restoreAll_32 : decode cX0_restoreAll 32 = .ok (.getfield 56, 3) := by decide +kernel
theorem dX0_restoreAll_35 : decode cX0_restoreAll 35 = .ok (.ifCond .eq 9, 3) := by decide +kernel
theorem dX0_restoreAll_38 : decode cX0_restoreAll 38 = .ok (.aload_n 0, 1) := by decide +kernel
theorem dX0_restoreAll_39 : decode cX0_restoreAll 39 = .ok (.iload_n 1, 1) := by decide +kernel
theorem dX0_restoreAll_40 : decode cX0_restoreAll 40 = .ok (.iload_n 2, 1) := by decide +kernel
theorem dX0_restoreAll_41 : decode cX0_restoreAll 41 = .ok (.invokevirtual 48, 3) := by decide +kernel
theorem dX0_restoreAll_44 : decode cX0_restoreAll 44 = .ok (.iinc 2 1, 3) := by decide +kernel
theorem dX0_restoreAll_47 : decode cX0_restoreAll 47 = .ok (.goto (-32), 3) := by decide +kernel
theorem dX0_restoreAll_50 : decode cX0_restoreAll 50 = .ok (.iinc 1 1, 3) := by decide +kernel
theorem dX0_restoreAll_53 : decode cX0_restoreAll 53 = .ok (.goto (-51), 3) := by decide +kernel
theorem dX0_restoreAll_56 : decode cX0_restoreAll 56 = .ok (.return_, 1) := by decide +kernel
theorem dX0_restore_0 : decode cX0_restore 0 = .ok (.aload_n 0, 1) := by decide +kernel
theorem dX0_restore_1 : decode cX0_restore 1 = .ok (.iload_n 1, 1) := by decide +kernel
theorem dX0_restore_2 : decode cX0_restore 2 = .ok (.iload_n 2, 1) := by decide +kernel
theorem dX0_restore_3 : decode cX0_restore 3 = .ok (.invokevirtual 60, 3) := by decide +kernel
theorem dX0_restore_6 : decode cX0_restore 6 = .ok (.ifCond .eq 57, 3) := by decide +kernel
theorem dX0_restore_9 : decode cX0_restore 9 = .ok (.aload_n 0, 1) := by decide +kernel
theorem dX0_restore_10 : decode cX0_restore 10 = .ok (.iload_n 1, 1) := by decide +kernel
theorem dX0_restore_11 : decode cX0_restore 11 = .ok (.iload_n 2, 1) := by decide +kernel
theorem dX0_restore_12 : decode cX0_restore 12 = .ok (.invokevirtual 52, 3) := by decide +kernel
theorem dX0_restore_15 : decode cX0_restore 15 = .ok (.astore_n 3, 1) := by decide +kernel
theorem dX0_restore_16 : decode cX0_restore 16 = .ok (.aload_n 0, 1) := by decide +kernel
theorem dX0_restore_17 : decode cX0_restore 17 = .ok (.getfield 24, 3) := by decide +kernel
theorem dX0_restore_20 : decode cX0_restore 20 = .ok (.iload_n 1, 1) := by decide +kernel
theorem dX0_restore_21 : decode cX0_restore 21 = .ok (.iload_n 2, 1) := by decide +kernel
theorem dX0_restore_22 : decode cX0_restore 22 = .ok (.invokevirtual 64, 3) := by decide +kernel
theorem dX0_restore_25 : decode cX0_restore 25 = .ok (.istore 4, 2) := by decide +kernel
theorem dX0_restore_27 : decode cX0_restore 27 = .ok (.aload_n 3, 1) := by decide +kernel
theorem dX0_restore_28 : decode cX0_restore 28 = .ok (.aload_n 0, 1) := by decide +kernel
theorem dX0_restore_29 : decode cX0_restore 29 = .ok (.getfield 28, 3) := by decide +kernel
theorem dX0_restore_32 : decode cX0_restore 32 = .ok (.iload 4, 2) := by decide +kernel
theorem dX0_restore_34 : decode cX0_restore 34 = .ok (.aload_n 0, 1) := by decide +kernel
theorem dX0_restore_35 : decode cX0_restore 35 = .ok (.getfield 24, 3) := by decide +kernel
theorem dX0_restore_38 : decode cX0_restore 38 = .ok (.iload_n 1, 1) := by decide +kernel
theorem dX0_restore_39 : decode cX0_restore 39 = .ok (.iload_n 2, 1) := by decide +kernel
theorem dX0_restore_40 : decode cX0_restore 40 = .ok (.invokevirtual 68, 3) := by decide +kernel
theorem dX0_restore_43 : decode cX0_restore 43 = .ok (.iconst 0, 1) := by decide +kernel
theorem dX0_restore_44 : decode cX0_restore 44 = .ok (.invokevirtual 71, 3) := by decide +kernel
theorem dX0_restore_47 : decode cX0_restore 47 = .ok (.aload_n 0, 1) := by decide +kernel
theorem dX0_restore_48 : decode cX0_restore 48 = .ok (.getfield 20, 3) := by decide +kernel
theorem dX0_restore_51 : decode cX0_restore 51 = .ok (.aload_n 3, 1) := by decide +kernel
theorem dX0_restore_52 : decode cX0_restore 52 = .ok (.aload_n 0, 1) := by decide +kernel
theorem dX0_restore_53 : decode cX0_restore 53 = .ok (.getfield 24, 3) := by decide +kernel
theorem dX0_restore_56 : decode cX0_restore 56 = .ok (.iload_n 2, 1) := by decide +kernel
theorem dX0_restore_57 : decode cX0_restore 57 = .ok (.invokevirtual 75, 3) := by decide +kernel
theorem dX0_restore_60 : decode cX0_restore 60 = .ok (.invokevirtual 79, 3) := by decide +kernel
theorem dX0_restore_63 : decode cX0_restore 63 = .ok (.return_, 1) := by decide +kernel
theorem dX0_replace_0 : decode cX0_replace 0 = .ok (.aload_n 0, 1) := by decide +kernel
theorem dX0_replace_1 : decode cX0_replace 1 = .ok (.iload_n 1, 1) := by decide +kernel
theorem dX0_replace_2 : decode cX0_replace 2 = .ok (.iload_n 2, 1) := by decide +kernel
theorem dX0_replace_3 : decode cX0_replace 3 = .ok (.invokevirtual 60, 3) := by decide +kernel
theorem dX0_replace_6 : decode cX0_replace 6 = .ok (.ifCond .eq 38, 3) := by decide +kernel
theorem dX0_replace_9 : decode cX0_replace 9 = .ok (.aload_n 0, 1) := by decide +kernel
theorem dX0_replace_10 : decode cX0_replace 10 = .ok (.iload_n 1, 1) := by decide +kernel
theorem dX0_replace_11 : decode cX0_replace 11 = .ok (.iload_n 2, 1) := by decide +kernel
theorem dX0_replace_12 : decode cX0_replace 12 = .ok (.invokevirtual 52, 3) := by decide +kernel
theorem dX0_replace_15 : decode cX0_replace 15 = .ok (.astore 4, 2) := by decide +kernel
theorem dX0_replace_17 : decode cX0_replace 17 = .ok (.aload 4, 2) := by decide +kernel
theorem dX0_replace_19 : decode cX0_replace 19 = .ok (.aload_n 3, 1) := by decide +kernel
theorem dX0_replace_20 : decode cX0_replace 20 = .ok (.iconst 0, 1) := by decide +kernel
theorem dX0_replace_21 : decode cX0_replace 21 = .ok (.aload_n 3, 1) := by decide +kernel
theorem dX0_replace_22 : decode cX0_replace 22 = .ok (.arraylength, 1) := by decide +kernel
theorem dX0_replace_23 : decode cX0_replace 23 = .ok (.iconst 1, 1) := by decide +kernel
theorem dX0_replace_24 : decode cX0_replace 24 = .ok (.invokevirtual 71, 3) := by decide +kernel
theorem dX0_replace_27 : decode cX0_replace 27 = .ok (.aload_n 0, 1) := by decide +kernel
theorem dX0_replace_28 : decode cX0_replace 28 = .ok (.getfield 20, 3) := by decide +kernel
theorem dX0_replace_31 : decode cX0_replace 31 = .ok (.aload 4, 2) := by decide +kernel
theorem dX0_replace_33 : decode cX0_replace 33 = .ok (.aload_n 0, 1) := by decide +kernel
theorem dX0_replace_34 : decode cX0_replace 34 = .ok (.getfield 24, 3) := by decide +kernel
theorem dX0_replace_37 : decode cX0_replace 37 = .ok (.iload_n 2, 1) := by decide +kernel
theorem dX0_replace_38 : decode cX0_replace 38 = .ok (.invokevirtual 75, 3) := by decide +kernel
theorem dX0_replace_41 : decode cX0_replace 41 = .ok (.invokevirtual 79, 3) := by decide +kernel
theorem dX0_replace_44 : decode cX0_replace 44 = .ok (.return_, 1) := by decide +kernel
theorem dX0_isThere_0 : decode cX0_isThere 0 = .ok (.aload_n 0, 1) := by decide +kernel
theorem dX0_isThere_1 : decode cX0_isThere 1 = .ok (.getfield 24, 3) := by decide +kernel
theorem dX0_isThere_4 : decode cX0_isThere 4 = .ok (.iload_n 1, 1) := by decide +kernel
theorem dX0_isThere_5 : decode cX0_isThere 5 = .ok (.invokevirtual 83, 3) := by decide +kernel
theorem dX0_isThere_8 : decode cX0_isThere 8 = .ok (.ifCond .eq 18, 3) := by decide +kernel
theorem dX0_isThere_11 : decode cX0_isThere 11 = .ok (.aload_n 0, 1) := by decide +kernel
theorem dX0_isThere_12 : decode cX0_isThere 12 = .ok (.getfield 24, 3) := by decide +kernel
theorem dX0_isThere_15 : decode cX0_isThere 15 = .ok (.iload_n 2, 1) := by decide +kernel
theorem dX0_isThere_16 : decode cX0_isThere 16 = .ok (.invokevirtual 87, 3) := by decide +kernel
theorem dX0_isThere_19 : decode cX0_isThere 19 = .ok (.ifCond .eq 7, 3) := by decide +kernel
theorem dX0_isThere_22 : decode cX0_isThere 22 = .ok (.iconst 1, 1) := by decide +kernel
theorem dX0_isThere_23 : decode cX0_isThere 23 = .ok (.goto 4, 3) := by decide +kernel
theorem dX0_isThere_26 : decode cX0_isThere 26 = .ok (.iconst 0, 1) := by decide +kernel
theorem dX0_isThere_27 : decode cX0_isThere 27 = .ok (.ireturn, 1) := by decide +kernel
theorem dX0_wordingOf_0 : decode cX0_wordingOf 0 = .ok (.aload_n 0, 1) := by decide +kernel
theorem dX0_wordingOf_1 : decode cX0_wordingOf 1 = .ok (.iload_n 1, 1) := by decide +kernel
theorem dX0_wordingOf_2 : decode cX0_wordingOf 2 = .ok (.iload_n 2, 1) := by decide +kernel
theorem dX0_wordingOf_3 : decode cX0_wordingOf 3 = .ok (.invokevirtual 60, 3) := by decide +kernel
theorem dX0_wordingOf_6 : decode cX0_wordingOf 6 = .ok (.ifCond .eq 16, 3) := by decide +kernel
theorem dX0_wordingOf_9 : decode cX0_wordingOf 9 = .ok (.aload_n 0, 1) := by decide +kernel
theorem dX0_wordingOf_10 : decode cX0_wordingOf 10 = .ok (.getfield 11, 3) := by decide +kernel
theorem dX0_wordingOf_13 : decode cX0_wordingOf 13 = .ok (.iload_n 1, 1) := by decide +kernel
theorem dX0_wordingOf_14 : decode cX0_wordingOf 14 = .ok (.iconst 4, 1) := by decide +kernel
theorem dX0_wordingOf_15 : decode cX0_wordingOf 15 = .ok (.imul, 1) := by decide +kernel
theorem dX0_wordingOf_16 : decode cX0_wordingOf 16 = .ok (.iload_n 2, 1) := by decide +kernel
theorem dX0_wordingOf_17 : decode cX0_wordingOf 17 = .ok (.iadd, 1) := by decide +kernel
theorem dX0_wordingOf_18 : decode cX0_wordingOf 18 = .ok (.aaload, 1) := by decide +kernel
theorem dX0_wordingOf_19 : decode cX0_wordingOf 19 = .ok (.goto 7, 3) := by decide +kernel
theorem dX0_wordingOf_22 : decode cX0_wordingOf 22 = .ok (.aload_n 0, 1) := by decide +kernel
theorem dX0_wordingOf_23 : decode cX0_wordingOf 23 = .ok (.getfield 35, 3) := by decide +kernel
theorem dX0_wordingOf_26 : decode cX0_wordingOf 26 = .ok (.areturn, 1) := by decide +kernel
theorem dX0_isChanged_0 : decode cX0_isChanged 0 = .ok (.iconst 0, 1) := by decide +kernel
theorem dX0_isChanged_1 : decode cX0_isChanged 1 = .ok (.istore_n 2, 1) := by decide +kernel
theorem dX0_isChanged_2 : decode cX0_isChanged 2 = .ok (.iload_n 2, 1) := by decide +kernel
theorem dX0_isChanged_3 : decode cX0_isChanged 3 = .ok (.aload_n 0, 1) := by decide +kernel
theorem dX0_isChanged_4 : decode cX0_isChanged 4 = .ok (.getfield 24, 3) := by decide +kernel
theorem dX0_isChanged_7 : decode cX0_isChanged 7 = .ok (.getfield 45, 3) := by decide +kernel
theorem dX0_isChanged_10 : decode cX0_isChanged 10 = .ok (.if_icmp .ge 23, 3) := by decide +kernel
theorem dX0_isChanged_13 : decode cX0_isChanged 13 = .ok (.aload_n 0, 1) := by decide +kernel
theorem dX0_isChanged_14 : decode cX0_isChanged 14 = .ok (.iload_n 1, 1) := by decide +kernel
theorem dX0_isChanged_15 : decode cX0_isChanged 15 = .ok (.iload_n 2, 1) := by decide +kernel
theorem dX0_isChanged_16 : decode cX0_isChanged 16 = .ok (.invokevirtual 52, 3) := by decide +kernel
theorem dX0_isChanged_19 : decode cX0_isChanged 19 = .ok (.getfield 56, 3) := by decide +kernel
theorem dX0_isChanged_22 : decode cX0_isChanged 22 = .ok (.ifCond .eq 5, 3) := by decide +kernel
theorem dX0_isChanged_25 : decode cX0_isChanged 25 = .ok (.iconst 1, 1) := by decide +kernel
theorem dX0_isChanged_26 : decode cX0_isChanged 26 = .ok (.ireturn, 1) := by decide +kernel
theorem dX0_isChanged_27 : decode cX0_isChanged 27 = .ok (.iinc 2 1, 3) := by decide +kernel
theorem dX0_isChanged_30 : decode cX0_isChanged 30 = .ok (.goto (-28), 3) := by decide +kernel
theorem dX0_isChanged_33 : decode cX0_isChanged 33 = .ok (.iconst 0, 1) := by decide +kernel
theorem dX0_isChanged_34 : decode cX0_isChanged 34 = .ok (.ireturn, 1) := by decide +kernel
theorem dX0_stepsOf_0 : decode cX0_stepsOf 0 = .ok (.iconst 0, 1) := by decide +kernel
theorem dX0_stepsOf_1 : decode cX0_stepsOf 1 = .ok (.istore_n 2, 1) := by decide +kernel
theorem dX0_stepsOf_2 : decode cX0_stepsOf 2 = .ok (.iconst 0, 1) := by decide +kernel
theorem dX0_stepsOf_3 : decode cX0_stepsOf 3 = .ok (.istore_n 3, 1) := by decide +kernel
theorem dX0_stepsOf_4 : decode cX0_stepsOf 4 = .ok (.iload_n 3, 1) := by decide +kernel
theorem dX0_stepsOf_5 : decode cX0_stepsOf 5 = .ok (.aload_n 0, 1) := by decide +kernel
theorem dX0_stepsOf_6 : decode cX0_stepsOf 6 = .ok (.getfield 24, 3) := by decide +kernel
theorem dX0_stepsOf_9 : decode cX0_stepsOf 9 = .ok (.getfield 45, 3) := by decide +kernel
theorem dX0_stepsOf_12 : decode cX0_stepsOf 12 = .ok (.if_icmp .ge 23, 3) := by decide +kernel
theorem dX0_stepsOf_15 : decode cX0_stepsOf 15 = .ok (.iload_n 2, 1) := by decide +kernel
theorem dX0_stepsOf_16 : decode cX0_stepsOf 16 = .ok (.aload_n 0, 1) := by decide +kernel
theorem dX0_stepsOf_17 : decode cX0_stepsOf 17 = .ok (.iload_n 1, 1) := by decide +kernel
theorem dX0_stepsOf_18 : decode cX0_stepsOf 18 = .ok (.iload_n 3, 1) := by decide +kernel
theorem dX0_stepsOf_19 : decode cX0_stepsOf 19 = .ok (.invokevirtual 52, 3) := by decide +kernel
theorem dX0_stepsOf_22 : decode cX0_stepsOf 22 = .ok (.getfield 90, 3) := by decide +kernel
theorem dX0_stepsOf_25 : decode cX0_stepsOf 25 = .ok (.invokestatic 93, 3) := by decide +kernel
theorem dX0_stepsOf_28 : decode cX0_stepsOf 28 = .ok (.istore_n 2, 1) := by decide +kernel
theorem dX0_stepsOf_29 : decode cX0_stepsOf 29 = .ok (.iinc 3 1, 3) := by decide +kernel
theorem dX0_stepsOf_32 : decode cX0_stepsOf 32 = .ok (.goto (-28), 3) := by decide +kernel
theorem dX0_stepsOf_35 : decode cX0_stepsOf 35 = .ok (.iload_n 2, 1) := by decide +kernel
theorem dX0_stepsOf_36 : decode cX0_stepsOf 36 = .ok (.ireturn, 1) := by decide +kernel
theorem dX0_stepBehind_0 : decode cX0_stepBehind 0 = .ok (.aload_n 0, 1) := by decide +kernel
theorem dX0_stepBehind_1 : decode cX0_stepBehind 1 = .ok (.iload_n 1, 1) := by decide +kernel
theorem dX0_stepBehind_2 : decode cX0_stepBehind 2 = .ok (.invokevirtual 98, 3) := by decide +kernel
theorem dX0_stepBehind_5 : decode cX0_stepBehind 5 = .ok (.istore 4, 2) := by decide +kernel
theorem dX0_stepBehind_7 : decode cX0_stepBehind 7 = .ok (.iload 4, 2) := by decide +kernel
theorem dX0_stepBehind_9 : decode cX0_stepBehind 9 = .ok (.iconst 1, 1) := by decide +kernel
theorem dX0_stepBehind_10 : decode cX0_stepBehind 10 = .ok (.isub, 1) := by decide +kernel
theorem dX0_stepBehind_11 : decode cX0_stepBehind 11 = .ok (.istore 5, 2) := by decide +kernel
theorem dX0_stepBehind_13 : decode cX0_stepBehind 13 = .ok (.iload 5, 2) := by decide +kernel
theorem dX0_stepBehind_15 : decode cX0_stepBehind 15 = .ok (.ifCond .le 24, 3) := by decide +kernel
theorem dX0_stepBehind_18 : decode cX0_stepBehind 18 = .ok (.iload 5, 2) := by decide +kernel
theorem dX0_stepBehind_20 : decode cX0_stepBehind 20 = .ok (.iload_n 3, 1) := by decide +kernel
theorem dX0_stepBehind_21 : decode cX0_stepBehind 21 = .ok (.iload 4, 2) := by decide +kernel
theorem dX0_stepBehind_23 : decode cX0_stepBehind 23 = .ok (.invokestatic 101, 3) := by decide +kernel
theorem dX0_stepBehind_26 : decode cX0_stepBehind 26 = .ok (.iload_n 2, 1) := by decide +kernel
theorem dX0_stepBehind_27 : decode cX0_stepBehind 27 = .ok (.if_icmp .gt 6, 3) := by decide +kernel
theorem dX0_stepBehind_30 : decode cX0_stepBehind 30 = .ok (.iload 5, 2) := by decide +kernel
theorem dX0_stepBehind_32 : decode cX0_stepBehind 32 = .ok (.ireturn, 1) := by decide +kernel
theorem dX0_stepBehind_33 : decode cX0_stepBehind 33 = .ok (.iinc 5 (-1), 3) := by decide +kernel
theorem dX0_stepBehind_36 : decode cX0_stepBehind 36 = .ok (.goto (-23), 3) := by decide +kernel
theorem dX0_stepBehind_39 : decode cX0_stepBehind 39 = .ok (.iconst 0, 1) := by decide +kernel
theorem dX0_stepBehind_40 : decode cX0_stepBehind 40 = .ok (.ireturn, 1) := by decide +kernel
theorem dX0_pageInStep_0 : decode cX0_pageInStep 0 = .ok (.iload_n 3, 1) := by decide +kernel
theorem dX0_pageInStep_1 : decode cX0_pageInStep 1 = .ok (.aload_n 0, 1) := by decide +kernel
theorem dX0_pageInStep_2 : decode cX0_pageInStep 2 = .ok (.iload_n 1, 1) := by decide +kernel
theorem dX0_pageInStep_3 : decode cX0_pageInStep 3 = .ok (.iload_n 2, 1) := by decide +kernel
theorem dX0_pageInStep_4 : decode cX0_pageInStep 4 = .ok (.invokevirtual 52, 3) := by decide +kernel
theorem dX0_pageInStep_7 : decode cX0_pageInStep 7 = .ok (.getfield 90, 3) := by decide +kernel
theorem dX0_pageInStep_10 : decode cX0_pageInStep 10 = .ok (.aload_n 0, 1) := by decide +kernel
theorem dX0_pageInStep_11 : decode cX0_pageInStep 11 = .ok (.iload_n 1, 1) := by decide +kernel
theorem dX0_pageInStep_12 : decode cX0_pageInStep 12 = .ok (.invokevirtual 98, 3) := by decide +kernel
theorem dX0_pageInStep_15 : decode cX0_pageInStep 15 = .ok (.invokestatic 101, 3) := by decide +kernel
theorem dX0_pageInStep_18 : decode cX0_pageInStep 18 = .ok (.ireturn, 1) := by decide +kernel
theorem dX0_shortOf_0 : decode cX0_shortOf 0 = .ok (.aload_n 0, 1) := by decide +kernel
theorem dX0_shortOf_1 : decode cX0_shortOf 1 = .ok (.iload_n 1, 1) := by decide +kernel
theorem dX0_shortOf_2 : decode cX0_shortOf 2 = .ok (.invokevirtual 98, 3) := by decide +kernel
theorem dX0_shortOf_5 : decode cX0_shortOf 5 = .ok (.istore_n 3, 1) := by decide +kernel
theorem dX0_shortOf_6 : decode cX0_shortOf 6 = .ok (.iconst 0, 1) := by decide +kernel
theorem dX0_shortOf_7 : decode cX0_shortOf 7 = .ok (.istore 4, 2) := by decide +kernel
theorem dX0_shortOf_9 : decode cX0_shortOf 9 = .ok (.iconst 0, 1) := by decide +kernel
theorem dX0_shortOf_10 : decode cX0_shortOf 10 = .ok (.istore 5, 2) := by decide +kernel
theorem dX0_shortOf_12 : decode cX0_shortOf 12 = .ok (.iload 5, 2) := by decide +kernel
theorem dX0_shortOf_14 : decode cX0_shortOf 14 = .ok (.aload_n 0, 1) := by decide +kernel
theorem dX0_shortOf_15 : decode cX0_shortOf 15 = .ok (.getfield 24, 3) := by decide +kernel
theorem dX0_shortOf_18 : decode cX0_shortOf 18 = .ok (.getfield 45, 3) := by decide +kernel
theorem dX0_shortOf_21 : decode cX0_shortOf 21 = .ok (.if_icmp .ge 102, 3) := by decide +kernel
theorem dX0_shortOf_24 : decode cX0_shortOf 24 = .ok (.aload_n 0, 1) := by decide +kernel
theorem dX0_shortOf_25 : decode cX0_shortOf 25 = .ok (.iload_n 1, 1) := by decide +kernel
theorem dX0_shortOf_26 : decode cX0_shortOf 26 = .ok (.iload 5, 2) := by decide +kernel
theorem dX0_shortOf_28 : decode cX0_shortOf 28 = .ok (.invokevirtual 52, 3) := by decide +kernel
theorem dX0_shortOf_31 : decode cX0_shortOf 31 = .ok (.astore 6, 2) := by decide +kernel
theorem dX0_shortOf_33 : decode cX0_shortOf 33 = .ok (.aload_n 0, 1) := by decide +kernel
theorem dX0_shortOf_34 : decode cX0_shortOf 34 = .ok (.getfield 24, 3) := by decide +kernel
theorem dX0_shortOf_37 : decode cX0_shortOf 37 = .ok (.iload 5, 2) := by decide +kernel
theorem dX0_shortOf_39 : decode cX0_shortOf 39 = .ok (.invokevirtual 105, 3) := by decide +kernel
theorem dX0_shortOf_42 : decode cX0_shortOf 42 = .ok (.istore 7, 2) := by decide +kernel
theorem dX0_shortOf_44 : decode cX0_shortOf 44 = .ok (.iconst 0, 1) := by decide +kernel
theorem dX0_shortOf_45 : decode cX0_shortOf 45 = .ok (.istore 8, 2) := by decide +kernel
theorem dX0_shortOf_47 : decode cX0_shortOf 47 = .ok (.iload 8, 2) := by decide +kernel
theorem dX0_shortOf_49 : decode cX0_shortOf 49 = .ok (.aload 6, 2) := by decide +kernel
theorem dX0_shortOf_51 : decode cX0_shortOf 51 = .ok (.getfield 90, 3) := by decide +kernel
theorem dX0_shortOf_54 : decode cX0_shortOf 54 = .ok (.if_icmp .ge 63, 3) := by decide +kernel
theorem dX0_shortOf_57 : decode cX0_shortOf 57 = .ok (.iconst 1, 1) := by decide +kernel
theorem dX0_shortOf_58 : decode cX0_shortOf 58 = .ok (.aload 6, 2) := by decide +kernel
theorem dX0_shortOf_60 : decode cX0_shortOf 60 = .ok (.iload 8, 2) := by decide +kernel
theorem dX0_shortOf_62 : decode cX0_shortOf 62 = .ok (.invokevirtual 108, 3) := by decide +kernel
theorem dX0_shortOf_65 : decode cX0_shortOf 65 = .ok (.iload 7, 2) := by decide +kernel
theorem dX0_shortOf_67 : decode cX0_shortOf 67 = .ok (.iadd, 1) := by decide +kernel
theorem dX0_shortOf_68 : decode cX0_shortOf 68 = .ok (.iconst 1, 1) := by decide +kernel
theorem dX0_shortOf_69 : decode cX0_shortOf 69 = .ok (.isub, 1) := by decide +kernel
theorem dX0_shortOf_70 : decode cX0_shortOf 70 = .ok (.iload 7, 2) := by decide +kernel
theorem dX0_shortOf_72 : decode cX0_shortOf 72 = .ok (.invokestatic 101, 3) := by decide +kernel
theorem dX0_shortOf_75 : decode cX0_shortOf 75 = .ok (.istore 9, 2) := by decide +kernel
theorem dX0_shortOf_77 : decode cX0_shortOf 77 = .ok (.aload_n 0, 1) := by decide +kernel
theorem dX0_shortOf_78 : decode cX0_shortOf 78 = .ok (.getfield 24, 3) := by decide +kernel
theorem dX0_shortOf_81 : decode cX0_shortOf 81 = .ok (.invokevirtual 111, 3) := by decide +kernel
theorem dX0_shortOf_84 : decode cX0_shortOf 84 = .ok (.iload 8, 2) := by decide +kernel
theorem dX0_shortOf_86 : decode cX0_shortOf 86 = .ok (.aload 6, 2) := by decide +kernel
theorem dX0_shortOf_88 : decode cX0_shortOf 88 = .ok (.getfield 90, 3) := by decide +kernel
theorem dX0_shortOf_91 : decode cX0_shortOf 91 = .ok (.iload_n 3, 1) := by decide +kernel
theorem dX0_shortOf_92 : decode cX0_shortOf 92 = .ok (.iload_n 2, 1) := by decide +kernel
theorem dX0_shortOf_93 : decode cX0_shortOf 93 = .ok (.invokestatic 115, 3) := by decide +kernel
theorem dX0_shortOf_96 : decode cX0_shortOf 96 = .ok (.imul, 1) := by decide +kernel
theorem dX0_shortOf_97 : decode cX0_shortOf 97 = .ok (.istore 10, 2) := by decide +kernel
theorem dX0_shortOf_99 : decode cX0_shortOf 99 = .ok (.iload 4, 2) := by decide +kernel
theorem dX0_shortOf_101 : decode cX0_shortOf 101 = .ok (.iload 9, 2) := by decide +kernel
theorem dX0_shortOf_103 : decode cX0_shortOf 103 = .ok (.iload 10, 2) := by decide +kernel
theorem dX0_shortOf_105 : decode cX0_shortOf 105 = .ok (.isub, 1) := by decide +kernel
theorem dX0_shortOf_106 : decode cX0_shortOf 106 = .ok (.invokestatic 93, 3) := by decide +kernel
theorem dX0_shortOf_109 : decode cX0_shortOf 109 = .ok (.istore 4, 2) := by decide +kernel
theorem dX0_shortOf_111 : decode cX0_shortOf 111 = .ok (.iinc 8 1, 3) := by decide +kernel
theorem dX0_shortOf_114 : decode cX0_shortOf 114 = .ok (.goto (-67), 3) := by decide +kernel
theorem dX0_shortOf_117 : decode cX0_shortOf 117 = .ok (.iinc 5 1, 3) := by decide +kernel
theorem dX0_shortOf_120 : decode cX0_shortOf 120 = .ok (.goto (-108), 3) := by decide +kernel
theorem dX0_shortOf_123 : decode cX0_shortOf 123 = .ok (.iload 4, 2) := by decide +kernel
theorem dX0_shortOf_125 : decode cX0_shortOf 125 = .ok (.ireturn, 1) := by decide +kernel
theorem dX0_barsOfPage_0 : decode cX0_barsOfPage 0 = .ok (.iconst 0, 1) := by decide +kernel
theorem dX0_barsOfPage_1 : decode cX0_barsOfPage 1 = .ok (.istore 4, 2) := by decide +kernel
theorem dX0_barsOfPage_3 : decode cX0_barsOfPage 3 = .ok (.iconst 0, 1) := by decide +kernel
theorem dX0_barsOfPage_4 : decode cX0_barsOfPage 4 = .ok (.istore 5, 2) := by decide +kernel
theorem dX0_barsOfPage_6 : decode cX0_barsOfPage 6 = .ok (.iload 5, 2) := by decide +kernel
theorem dX0_barsOfPage_8 : decode cX0_barsOfPage 8 = .ok (.iload_n 2, 1) := by decide +kernel
theorem dX0_barsOfPage_9 : decode cX0_barsOfPage 9 = .ok (.if_icmp .ge 42, 3) := by decide +kernel
theorem dX0_barsOfPage_12 : decode cX0_barsOfPage 12 = .ok (.iload 5, 2) := by decide +kernel
theorem dX0_barsOfPage_14 : decode cX0_barsOfPage 14 = .ok (.iload_n 1, 1) := by decide +kernel
theorem dX0_barsOfPage_15 : decode cX0_barsOfPage 15 = .ok (.iload_n 2, 1) := by decide +kernel
theorem dX0_barsOfPage_16 : decode cX0_barsOfPage 16 = .ok (.invokestatic 101, 3) := by decide +kernel
theorem dX0_barsOfPage_19 : decode cX0_barsOfPage 19 = .ok (.iload_n 0, 1) := by decide +kernel
theorem dX0_barsOfPage_20 : decode cX0_barsOfPage 20 = .ok (.if_icmp .ne 25, 3) := by decide +kernel
theorem dX0_barsOfPage_23 : decode cX0_barsOfPage 23 = .ok (.iload 4, 2) := by decide +kernel
theorem dX0_barsOfPage_25 : decode cX0_barsOfPage 25 = .ok (.iload 5, 2) := by decide +kernel
theorem dX0_barsOfPage_27 : decode cX0_barsOfPage 27 = .ok (.iconst 1, 1) := by decide +kernel
theorem dX0_barsOfPage_28 : decode cX0_barsOfPage 28 = .ok (.iadd, 1) := by decide +kernel
theorem dX0_barsOfPage_29 : decode cX0_barsOfPage 29 = .ok (.iload_n 3, 1) := by decide +kernel
theorem dX0_barsOfPage_30 : decode cX0_barsOfPage 30 = .ok (.iload_n 2, 1) := by decide +kernel
theorem dX0_barsOfPage_31 : decode cX0_barsOfPage 31 = .ok (.invokestatic 101, 3) := by decide +kernel
theorem dX0_barsOfPage_34 : decode cX0_barsOfPage 34 = .ok (.iload 5, 2) := by decide +kernel
theorem dX0_barsOfPage_36 : decode cX0_barsOfPage 36 = .ok (.iload_n 3, 1) := by decide +kernel
theorem dX0_barsOfPage_37 : decode cX0_barsOfPage 37 = .ok (.iload_n 2, 1) := by decide +kernel
theorem dX0_barsOfPage_38 : decode cX0_barsOfPage 38 = .ok (.invokestatic 101, 3) := by decide +kernel
theorem dX0_barsOfPage_41 : decode cX0_barsOfPage 41 = .ok (.isub, 1) := by decide +kernel
theorem dX0_barsOfPage_42 : decode cX0_barsOfPage 42 = .ok (.iadd, 1) := by decide +kernel
theorem dX0_barsOfPage_43 : decode cX0_barsOfPage 43 = .ok (.istore 4, 2) := by decide +kernel
theorem dX0_barsOfPage_45 : decode cX0_barsOfPage 45 = .ok (.iinc 5 1, 3) := by decide +kernel
theorem dX0_barsOfPage_48 : decode cX0_barsOfPage 48 = .ok (.goto (-42), 3) := by decide +kernel
theorem dX0_barsOfPage_51 : decode cX0_barsOfPage 51 = .ok (.iload 4, 2) := by decide +kernel
theorem dX0_barsOfPage_53 : decode cX0_barsOfPage 53 = .ok (.ireturn, 1) := by decide +kernel
theorem dX1_init_0 : decode cX1_init 0 = .ok (.aload_n 0, 1) := by decide +kernel
theorem dX1_init_1 : decode cX1_init 1 = .ok (.invokespecial 3, 3) := by decide +kernel
theorem dX1_init_4 : decode cX1_init 4 = .ok (.aload_n 0, 1) := by decide +kernel
theorem dX1_init_5 : decode cX1_init 5 = .ok (.sipush 240, 3) := by decide +kernel
theorem dX1_init_8 : decode cX1_init 8 = .ok (.newarray .int, 2) := by decide +kernel
theorem dX1_init_10 : decode cX1_init 10 = .ok (.putfield 9, 3) := by decide +kernel
theorem dX1_init_13 : decode cX1_init 13 = .ok (.aload_n 0, 1) := by decide +kernel
theorem dX1_init_14 : decode cX1_init 14 = .ok (.sipush 240, 3) := by decide +kernel
theorem dX1_init_17 : decode cX1_init 17 = .ok (.newarray .int, 2) := by decide +kernel
theorem dX1_init_19 : decode cX1_init 19 = .ok (.putfield 15, 3) := by decide +kernel
theorem dX1_init_22 : decode cX1_init 22 = .ok (.aload_n 0, 1) := by decide +kernel
theorem dX1_init_23 : decode cX1_init 23 = .ok (.sipush 241, 3) := by decide +kernel
theorem dX1_init_26 : decode cX1_init 26 = .ok (.newarray .int, 2) := by decide +kernel
theorem dX1_init_28 : decode cX1_init 28 = .ok (.putfield 18, 3) := by decide +kernel
theorem dX1_init_31 : decode cX1_init 31 = .ok (.aload_n 0, 1) := by decide +kernel
theorem dX1_init_32 : decode cX1_init 32 = .ok (.sipush 241, 3) := by decide +kernel
theorem dX1_init_35 : decode cX1_init 35 = .ok (.newarray .int, 2) := by decide +kernel
theorem dX1_init_37 : decode cX1_init 37 = .ok (.putfield 21, 3) := by decide +kernel
theorem dX1_init_40 : decode cX1_init 40 = .ok (.aload_n 0, 1) := by decide +kernel
theorem dX1_init_41 : decode cX1_init 41 = .ok (.bipush 13, 2) := by decide +kernel
theorem dX1_init_43 : decode cX1_init 43 = .ok (.newarray .int, 2) := by decide +kernel
theorem dX1_init_45 : decode cX1_init 45 = .ok (.putfield 24, 3) := by decide +kernel
theorem dX1_init_48 : decode cX1_init 48 = .ok (.aload_n 0, 1) := by decide +kernel
theorem dX1_init_49 : decode cX1_init 49 = .ok (.bipush 13, 2) := by decide +kernel
theorem dX1_init_51 : decode cX1_init 51 = .ok (.sipush 241, 3) := by decide +kernel
theorem dX1_init_54 : decode cX1_init 54 = .ok (.multianewarray 27 2, 4) := by decide +kernel
theorem dX1_init_58 : decode cX1_init 58 = .ok (.putfield 29, 3) := by decide +kernel
theorem dX1_init_61 : decode cX1_init 61 = .ok (.return_, 1) := by decide +kernel
theorem dX1_layOut_0 : decode cX1_layOut 0 = .ok (.aload_n 0, 1) := by decide +kernel
theorem dX1_layOut_1 : decode cX1_layOut 1 = .ok (.iload_n 2, 1) := by decide +kernel
theorem dX1_layOut_2 : decode cX1_layOut 2 = .ok (.putfield 32, 3) := by decide +kernel
theorem dX1_layOut_5 : decode cX1_layOut 5 = .ok (.aload_n 0, 1) := by decide +kernel
theorem dX1_layOut_6 : decode cX1_layOut 6 = .ok (.aload_n 1, 1) := by decide +kernel
theorem dX1_layOut_7 : decode cX1_layOut 7 = .ok (.invokevirtual 36, 3) := by decide +kernel
theorem dX1_layOut_10 : decode cX1_layOut 10 = .ok (.aload_n 0, 1) := by decide +kernel
theorem dX1_layOut_11 : decode cX1_layOut 11 = .ok (.invokevirtual 40, 3) := by decide +kernel
theorem dX1_layOut_14 : decode cX1_layOut 14 = .ok (.aload_n 0, 1) := by decide +kernel
theorem dX1_layOut_15 : decode cX1_layOut 15 = .ok (.getfield 21, 3) := by decide +kernel
theorem dX1_layOut_18 : decode cX1_layOut 18 = .ok (.iconst 0, 1) := by decide +kernel
theorem dX1_layOut_19 : decode cX1_layOut 19 = .ok (.iaload, 1) := by decide +kernel
theorem dX1_layOut_20 : decode cX1_layOut 20 = .ok (.iconst 2, 1) := by decide +kernel
theorem dX1_layOut_21 : decode cX1_layOut 21 = .ok (.iadd, 1) := by decide +kernel
theorem dX1_layOut_22 : decode cX1_layOut 22 = .ok (.iconst 1, 1) := by decide +kernel
theorem dX1_layOut_23 : decode cX1_layOut 23 = .ok (.isub, 1) := by decide +kernel
theorem dX1_layOut_24 : decode cX1_layOut 24 = .ok (.iconst 2, 1) := by decide +kernel
theorem dX1_layOut_25 : decode cX1_layOut 25 = .ok (.idiv, 1) := by decide +kernel
theorem dX1_layOut_26 : decode cX1_layOut 26 = .ok (.istore_n 3, 1) := by decide +kernel
theorem dX1_layOut_27 : decode cX1_layOut 27 = .ok (.aload_n 0, 1) := by decide +kernel
theorem dX1_layOut_28 : decode cX1_layOut 28 = .ok (.bipush 12, 2) := by decide +kernel
theorem dX1_layOut_30 : decode cX1_layOut 30 = .ok (.iload_n 3, 1) := by decide +kernel
theorem dX1_layOut_31 : decode cX1_layOut 31 = .ok (.iconst 2, 1) := by decide +kernel
theorem dX1_layOut_32 : decode cX1_layOut 32 = .ok (.imul, 1) := by decide +kernel
theorem dX1_layOut_33 : decode cX1_layOut 33 = .ok (.invokestatic 43, 3) := by decide +kernel
theorem dX1_layOut_36 : decode cX1_layOut 36 = .ok (.putfield 49, 3) := by decide +kernel
theorem dX1_layOut_39 : decode cX1_layOut 39 = .ok (.aload_n 0, 1) := by decide +kernel
theorem dX1_layOut_40 : decode cX1_layOut 40 = .ok (.invokevirtual 52, 3) := by decide +kernel
theorem dX1_layOut_43 : decode cX1_layOut 43 = .ok (.aload_n 0, 1) := by decide +kernel
theorem dX1_layOut_44 : decode cX1_layOut 44 = .ok (.invokevirtual 55, 3) := by decide +kernel
theorem dX1_layOut_47 : decode cX1_layOut 47 = .ok (.aload_n 0, 1) := by decide +kernel
theorem dX1_layOut_48 : decode cX1_layOut 48 = .ok (.aload_n 1, 1) := by decide +kernel
theorem dX1_layOut_49 : decode cX1_layOut 49 = .ok (.invokevirtual 58, 3) := by decide +kernel
theorem dX1_layOut_52 : decode cX1_layOut 52 = .ok (.return_, 1) := by decide +kernel
theorem dX1_findWords_0 : decode cX1_findWords 0 = .ok (.aload_n 0, 1) := by decide +kernel
theorem dX1_findWords_1 : decode cX1_findWords 1 = .ok (.iconst 0, 1) := by decide +kernel
theorem dX1_findWords_2 : decode cX1_findWords 2 = .ok (.putfield 61, 3) := by decide +kernel
theorem dX1_findWords_5 : decode cX1_findWords 5 = .ok (.iconst 0, 1) := by decide +kernel
theorem dX1_findWords_6 : decode cX1_findWords 6 = .ok (.istore_n 2, 1) := by decide +kernel
theorem dX1_findWords_7 : decode cX1_findWords 7 = .ok (.iconst 0, 1) := by decide +kernel
theorem dX1_findWords_8 : decode cX1_findWords 8 = .ok (.istore_n 3, 1) := by decide +kernel
theorem dX1_findWords_9 : decode cX1_findWords 9 = .ok (.iload_n 3, 1) := by decide +kernel
theorem dX1_findWords_10 : decode cX1_findWords 10 = .ok (.aload_n 1, 1) := by decide +kernel
theorem dX1_findWords_11 : decode cX1_findWords 11 = .ok (.getfield 64, 3) := by decide +kernel
theorem dX1_findWords_14 : decode cX1_findWords 14 = .ok (.if_icmp .gt 108, 3) := by decide +kernel
theorem dX1_findWords_17 : decode cX1_findWords 17 = .ok (.aload_n 0, 1) := by decide +kernel
theorem dX1_findWords_18 : decode cX1_findWords 18 = .ok (.getfield 61, 3) := by decide +kernel
theorem dX1_findWords_21 : decode cX1_findWords 21 = .ok (.sipush 240, 3) := by decide +kernel
theorem dX1_findWords_24 : decode cX1_findWords 24 = .ok (.if_icmp .ge 98, 3) := by decide +kernel
theorem dX1_findWords_27 : decode cX1_findWords 27 = .ok (.aload_n 1, 1) := by decide +kernel
theorem dX1_findWords_28 : decode cX1_findWords 28 = .ok (.getfield 69, 3) := by decide +kernel
theorem dX1_findWords_31 : decode cX1_findWords 31 = .ok (.iload_n 3, 1) := by decide +kernel
theorem dX1_findWords_32 : decode cX1_findWords 32 = .ok (.iadd, 1) := by decide +kernel
theorem dX1_findWords_33 : decode cX1_findWords 33 = .ok (.istore 4, 2) := by decide +kernel
theorem dX1_findWords_35 : decode cX1_findWords 35 = .ok (.iload_n 3, 1) := by decide +kernel
theorem dX1_findWords_36 : decode cX1_findWords 36 = .ok (.aload_n 1, 1) := by decide +kernel
theorem dX1_findWords_37 : decode cX1_findWords 37 = .ok (.getfield 64, 3) := by decide +kernel
theorem dX1_findWords_40 : decode cX1_findWords 40 = .ok (.if_icmp .ge 22, 3) := by decide +kernel
theorem dX1_findWords_43 : decode cX1_findWords 43 = .ok (.iload 4, 2) := by decide +kernel
theorem dX1_findWords_45 : decode cX1_findWords 45 = .ok (.ifCond .lt 17, 3) := by decide +kernel
theorem dX1_findWords_48 : decode cX1_findWords 48 = .ok (.iload 4, 2) := by decide +kernel
theorem dX1_findWords_50 : decode cX1_findWords 50 = .ok (.aload_n 1, 1) := by decide +kernel
theorem dX1_findWords_51 : decode cX1_findWords 51 = .ok (.getfield 72, 3) := by decide +kernel
theorem dX1_findWords_54 : decode cX1_findWords 54 = .ok (.arraylength, 1) := by decide +kernel
theorem dX1_findWords_55 : decode cX1_findWords 55 = .ok (.if_icmp .ge 7, 3) := by decide +kernel
theorem dX1_findWords_58 : decode cX1_findWords 58 = .ok (.iconst 1, 1) := by decide +kernel
theorem dX1_findWords_59 : decode cX1_findWords 59 = .ok (.goto 4, 3) := by decide +kernel
theorem dX1_findWords_62 : decode cX1_findWords 62 = .ok (.iconst 0, 1) := by decide +kernel
theorem dX1_findWords_63 : decode cX1_findWords 63 = .ok (.istore 5, 2) := by decide +kernel
theorem dX1_findWords_65 : decode cX1_findWords 65 = .ok (.iload 5, 2) := by decide +kernel
theorem dX1_findWords_67 : decode cX1_findWords 67 = .ok (.ifCond .eq 15, 3) := by decide +kernel
theorem dX1_findWords_70 : decode cX1_findWords 70 = .ok (.aload_n 1, 1) := by decide +kernel
theorem dX1_findWords_71 : decode cX1_findWords 71 = .ok (.getfield 72, 3) := by decide +kernel
theorem dX1_findWords_74 : decode cX1_findWords 74 = .ok (.iload 4, 2) := by decide +kernel
theorem dX1_findWords_76 : decode cX1_findWords 76 = .ok (.baload, 1) := by decide +kernel
theorem dX1_findWords_77 : decode cX1_findWords 77 = .ok (.bipush 32, 2) := by decide +kernel
theorem dX1_findWords_79 : decode cX1_findWords 79 = .ok (.if_icmp .ne 37, 3) := by decide +kernel
theorem dX1_findWords_82 : decode cX1_findWords 82 = .ok (.aload_n 0, 1) := by decide +kernel
theorem dX1_findWords_83 : decode cX1_findWords 83 = .ok (.getfield 9, 3) := by decide +kernel
theorem dX1_findWords_86 : decode cX1_findWords 86 = .ok (.aload_n 0, 1) := by decide +kernel
theorem dX1_findWords_87 : decode cX1_findWords 87 = .ok (.getfield 61, 3) := by decide +kernel
theorem dX1_findWords_90 : decode cX1_findWords 90 = .ok (.iload_n 2, 1) := by decide +kernel
theorem dX1_findWords_91 : decode cX1_findWords 91 = .ok (.iastore, 1) := by decide +kernel
theorem dX1_findWords_92 : decode cX1_findWords 92 = .ok (.aload_n 0, 1) := by decide +kernel
theorem dX1_findWords_93 : decode cX1_findWords 93 = .ok (.getfield 15, 3) := by decide +kernel
theorem dX1_findWords_96 : decode cX1_findWords 96 = .ok (.aload_n 0, 1) := by decide +kernel
theorem dX1_findWords_97 : decode cX1_findWords 97 = .ok (.getfield 61, 3) := by decide +kernel
theorem dX1_findWords_100 : decode cX1_findWords 100 = .ok (.iload_n 3, 1) := by decide +kernel
theorem dX1_findWords_101 : decode cX1_findWords 101 = .ok (.iastore, 1) := by decide +kernel
theorem dX1_findWords_102 : decode cX1_findWords 102 = .ok (.aload_n 0, 1) := by decide +kernel
theorem dX1_findWords_103 : decode cX1_findWords 103 = .ok (.dup, 1) := by decide +kernel
theorem dX1_findWords_104 : decode cX1_findWords 104 = .ok (.getfield 61, 3) := by decide +kernel
theorem dX1_findWords_107 : decode cX1_findWords 107 = .ok (.iconst 1, 1) := by decide +kernel
theorem dX1_findWords_108 : decode cX1_findWords 108 = .ok (.iadd, 1) := by decide +kernel
theorem dX1_findWords_109 : decode cX1_findWords 109 = .ok (.putfield 61, 3) := by decide +kernel
theorem dX1_findWords_112 : decode cX1_findWords 112 = .ok (.iload_n 3, 1) := by decide +kernel
theorem dX1_findWords_113 : decode cX1_findWords 113 = .ok (.iconst 1, 1) := by decide +kernel
theorem dX1_findWords_114 : decode cX1_findWords 114 = .ok (.iadd, 1) := by decide +kernel
theorem dX1_findWords_115 : decode cX1_findWords 115 = .ok (.istore_n 2, 1) := by decide +kernel
theorem dX1_findWords_116 : decode cX1_findWords 116 = .ok (.iinc 3 1, 3) := by decide +kernel
theorem dX1_findWords_119 : decode cX1_findWords 119 = .ok (.goto (-110), 3) := by decide +kernel
theorem dX1_findWords_122 : decode cX1_findWords 122 = .ok (.return_, 1) := by decide +kernel
theorem dX1_fillRows_0 : decode cX1_fillRows 0 = .ok (.aload_n 0, 1) := by decide +kernel
theorem dX1_fillRows_1 : decode cX1_fillRows 1 = .ok (.getfield 18, 3) := by decide +kernel
theorem dX1_fillRows_4 : decode cX1_fillRows 4 = .ok (.aload_n 0, 1) := by decide +kernel
theorem dX1_fillRows_5 : decode cX1_fillRows 5 = .ok (.getfield 61, 3) := by decide +kernel
theorem dX1_fillRows_8 : decode cX1_fillRows 8 = .ok (.aload_n 0, 1) := by decide +kernel
theorem dX1_fillRows_9 : decode cX1_fillRows 9 = .ok (.getfield 61, 3) := by decide +kernel
theorem dX1_fillRows_12 : decode cX1_fillRows 12 = .ok (.iastore, 1) := by decide +kernel
theorem dX1_fillRows_13 : decode cX1_fillRows 13 = .ok (.aload_n 0, 1) := by decide +kernel
theorem dX1_fillRows_14 : decode cX1_fillRows 14 = .ok (.getfield 21, 3) := by decide +kernel
theorem dX1_fillRows_17 : decode cX1_fillRows 17 = .ok (.aload_n 0, 1) := by decide +kernel
theorem dX1_fillRows_18 : decode cX1_fillRows 18 = .ok (.getfield 61, 3) := by decide +kernel
theorem dX1_fillRows_21 : decode cX1_fillRows 21 = .ok (.iconst 0, 1) := by decide +kernel
theorem dX1_fillRows_22 : decode cX1_fillRows 22 = .ok (.iastore, 1) := by decide +kernel
theorem dX1_fillRows_23 : decode cX1_fillRows 23 = .ok (.aload_n 0, 1) := by decide +kernel
theorem dX1_fillRows_24 : decode cX1_fillRows 24 = .ok (.getfield 61, 3) := by decide +kernel
theorem dX1_fillRows_27 : decode cX1_fillRows 27 = .ok (.iconst 1, 1) := by decide +kernel
theorem dX1_fillRows_28 : decode cX1_fillRows 28 = .ok (.isub, 1) := by decide +kernel
theorem dX1_fillRows_29 : decode cX1_fillRows 29 = .ok (.istore_n 1, 1) := by decide +kernel
theorem dX1_fillRows_30 : decode cX1_fillRows 30 = .ok (.iload_n 1, 1) := by decide +kernel
theorem dX1_fillRows_31 : decode cX1_fillRows 31 = .ok (.ifCond .lt 68, 3) := by decide +kernel
theorem dX1_fillRows_34 : decode cX1_fillRows 34 = .ok (.iload_n 1, 1) := by decide +kernel
theorem dX1_fillRows_35 : decode cX1_fillRows 35 = .ok (.iconst 1, 1) := by decide +kernel
theorem dX1_fillRows_36 : decode cX1_fillRows 36 = .ok (.iadd, 1) := by decide +kernel
theorem dX1_fillRows_37 : decode cX1_fillRows 37 = .ok (.istore_n 2, 1) := by decide +kernel
theorem dX1_fillRows_38 : decode cX1_fillRows 38 = .ok (.iload_n 2, 1) := by decide +kernel
theorem dX1_fillRows_39 : decode cX1_fillRows 39 = .ok (.aload_n 0, 1) := by decide +kernel
theorem dX1_fillRows_40 : decode cX1_fillRows 40 = .ok (.getfield 61, 3) := by decide +kernel
theorem dX1_fillRows_43 : decode cX1_fillRows 43 = .ok (.if_icmp .ge 29, 3) := by decide +kernel
theorem dX1_fillRows_46 : decode cX1_fillRows 46 = .ok (.aload_n 0, 1) := by decide +kernel
theorem dX1_fillRows_47 : decode cX1_fillRows 47 = .ok (.getfield 15, 3) := by decide +kernel
theorem dX1_fillRows_50 : decode cX1_fillRows 50 = .ok (.iload_n 2, 1) := by decide +kernel
theorem dX1_fillRows_51 : decode cX1_fillRows 51 = .ok (.iaload, 1) := by decide +kernel
theorem dX1_fillRows_52 : decode cX1_fillRows 52 = .ok (.aload_n 0, 1) := by decide +kernel
theorem dX1_fillRows_53 : decode cX1_fillRows 53 = .ok (.getfield 9, 3) := by decide +kernel
theorem dX1_fillRows_56 : decode cX1_fillRows 56 = .ok (.iload_n 1, 1) := by decide +kernel
theorem dX1_fillRows_57 : decode cX1_fillRows 57 = .ok (.iaload, 1) := by decide +kernel
theorem dX1_fillRows_58 : decode cX1_fillRows 58 = .ok (.isub, 1) := by decide +kernel
theorem dX1_fillRows_59 : decode cX1_fillRows 59 = .ok (.aload_n 0, 1) := by decide +kernel
theorem dX1_fillRows_60 : decode cX1_fillRows 60 = .ok (.getfield 32, 3) := by decide +kernel
theorem dX1_fillRows_63 : decode cX1_fillRows 63 = .ok (.if_icmp .gt 9, 3) := by decide +kernel
theorem dX1_fillRows_66 : decode cX1_fillRows 66 = .ok (.iinc 2 1, 3) := by decide +kernel
theorem dX1_fillRows_69 : decode cX1_fillRows 69 = .ok (.goto (-31), 3) := by decide +kernel
theorem dX1_fillRows_72 : decode cX1_fillRows 72 = .ok (.aload_n 0, 1) := by decide +kernel
theorem dX1_fillRows_73 : decode cX1_fillRows 73 = .ok (.getfield 18, 3) := by decide +kernel
theorem dX1_fillRows_76 : decode cX1_fillRows 76 = .ok (.iload_n 1, 1) := by decide +kernel
theorem dX1_fillRows_77 : decode cX1_fillRows 77 = .ok (.iload_n 2, 1) := by decide +kernel
theorem dX1_fillRows_78 : decode cX1_fillRows 78 = .ok (.iastore, 1) := by decide +kernel
theorem dX1_fillRows_79 : decode cX1_fillRows 79 = .ok (.aload_n 0, 1) := by decide +kernel
theorem dX1_fillRows_80 : decode cX1_fillRows 80 = .ok (.getfield 21, 3) := by decide +kernel
theorem dX1_fillRows_83 : decode cX1_fillRows 83 = .ok (.iload_n 1, 1) := by decide +kernel
theorem dX1_fillRows_84 : decode cX1_fillRows 84 = .ok (.aload_n 0, 1) := by decide +kernel
theorem dX1_fillRows_85 : decode cX1_fillRows 85 = .ok (.getfield 21, 3) := by decide +kernel
theorem dX1_fillRows_88 : decode cX1_fillRows 88 = .ok (.iload_n 2, 1) := by decide +kernel
theorem dX1_fillRows_89 : decode cX1_fillRows 89 = .ok (.iaload, 1) := by decide +kernel
theorem dX1_fillRows_90 : decode cX1_fillRows 90 = .ok (.iconst 1, 1) := by decide +kernel
theorem dX1_fillRows_91 : decode cX1_fillRows 91 = .ok (.iadd, 1) := by decide +kernel
theorem dX1_fillRows_92 : decode cX1_fillRows 92 = .ok (.iastore, 1) := by decide +kernel
theorem dX1_fillRows_93 : decode cX1_fillRows 93 = .ok (.iinc 1 (-1), 3) := by decide +kernel
theorem dX1_fillRows_96 : decode cX1_fillRows 96 = .ok (.goto (-66), 3) := by decide +kernel
theorem dX1_fillRows_99 : decode cX1_fillRows 99 = .ok (.aload_n 0, 1) := by decide +kernel
theorem dX1_fillRows_100 : decode cX1_fillRows 100 = .ok (.getfield 24, 3) := by decide +kernel
theorem dX1_fillRows_103 : decode cX1_fillRows 103 = .ok (.iconst 0, 1) := by decide +kernel
theorem dX1_fillRows_104 : decode cX1_fillRows 104 = .ok (.iconst 0, 1) := by decide +kernel
theorem dX1_fillRows_105 : decode cX1_fillRows 105 = .ok (.iastore, 1) := by decide +kernel
theorem dX1_fillRows_106 : decode cX1_fillRows 106 = .ok (.iconst 0, 1) := by decide +kernel
theorem dX1_fillRows_107 : decode cX1_fillRows 107 = .ok (.istore_n 1, 1) := by decide +kernel
theorem dX1_fillRows_108 : decode cX1_fillRows 108 = .ok (.iload_n 1, 1) := by decide +kernel
theorem dX1_fillRows_109 : decode cX1_fillRows 109 = .ok (.bipush 12, 2) := by decide +kernel
theorem dX1_fillRows_111 : decode cX1_fillRows 111 = .ok (.if_icmp .ge 28, 3) := by decide +kernel
theorem dX1_fillRows_114 : decode cX1_fillRows 114 = .ok (.aload_n 0, 1) := by decide +kernel
theorem dX1_fillRows_115 : decode cX1_fillRows 115 = .ok (.getfield 24, 3) := by decide +kernel
theorem dX1_fillRows_118 : decode cX1_fillRows 118 = .ok (.iload_n 1, 1) := by decide +kernel
theorem dX1_fillRows_119 : decode cX1_fillRows 119 = .ok (.iconst 1, 1) := by decide +kernel
theorem dX1_fillRows_120 : decode cX1_fillRows 120 = .ok (.iadd, 1) := by decide +kernel
theorem dX1_fillRows_121 : decode cX1_fillRows 121 = .ok (.aload_n 0, 1) := by decide +kernel
theorem dX1_fillRows_122 : decode cX1_fillRows 122 = .ok (.getfield 18, 3) := by decide +kernel
theorem dX1_fillRows_125 : decode cX1_fillRows 125 = .ok (.aload_n 0, 1) := by decide +kernel
theorem dX1_fillRows_126 : decode cX1_fillRows 126 = .ok (.getfield 24, 3) := by decide +kernel
theorem dX1_fillRows_129 : decode cX1_fillRows 129 = .ok (.iload_n 1, 1) := by decide +kernel
theorem dX1_fillRows_130 : decode cX1_fillRows 130 = .ok (.iaload, 1) := by decide +kernel
theorem dX1_fillRows_131 : decode cX1_fillRows 131 = .ok (.iaload, 1) := by decide +kernel
theorem dX1_fillRows_132 : decode cX1_fillRows 132 = .ok (.iastore, 1) := by decide +kernel
theorem dX1_fillRows_133 : decode cX1_fillRows 133 = .ok (.iinc 1 1, 3) := by decide +kernel
theorem dX1_fillRows_136 : decode cX1_fillRows 136 = .ok (.goto (-28), 3) := by decide +kernel
theorem dX1_fillRows_139 : decode cX1_fillRows 139 = .ok (.return_, 1) := by decide +kernel
theorem dX1_forgetPrices_0 : decode cX1_forgetPrices 0 = .ok (.iconst 0, 1) := by decide +kernel
theorem dX1_forgetPrices_1 : decode cX1_forgetPrices 1 = .ok (.istore_n 1, 1) := by decide +kernel
theorem dX1_forgetPrices_2 : decode cX1_forgetPrices 2 = .ok (.iload_n 1, 1) := by decide +kernel
theorem dX1_forgetPrices_3 : decode cX1_forgetPrices 3 = .ok (.aload_n 0, 1) := by decide +kernel
theorem dX1_forgetPrices_4 : decode cX1_forgetPrices 4 = .ok (.getfield 49, 3) := by decide +kernel
theorem dX1_forgetPrices_7 : decode cX1_forgetPrices 7 = .ok (.if_icmp .gt 35, 3) := by decide +kernel
theorem dX1_forgetPrices_10 : decode cX1_forgetPrices 10 = .ok (.iconst 0, 1) := by decide +kernel
theorem dX1_forgetPrices_11 : decode cX1_forgetPrices 11 = .ok (.istore_n 2, 1) := by decide +kernel
theorem dX1_forgetPrices_12 : decode cX1_forgetPrices 12 = .ok (.iload_n 2, 1) := by decide +kernel
theorem dX1_forgetPrices_13 : decode cX1_forgetPrices 13 = .ok (.aload_n 0, 1) := by decide +kernel
theorem dX1_forgetPrices_14 : decode cX1_forgetPrices 14 = .ok (.getfield 61, 3) := by decide +kernel
theorem dX1_forgetPrices_17 : decode cX1_forgetPrices 17 = .ok (.if_icmp .gt 19, 3) := by decide +kernel
theorem dX1_forgetPrices_20 : decode cX1_forgetPrices 20 = .ok (.aload_n 0, 1) := by decide +kernel
theorem dX1_forgetPrices_21 : decode cX1_forgetPrices 21 = .ok (.getfield 29, 3) := by decide +kernel
theorem dX1_forgetPrices_24 : decode cX1_forgetPrices 24 = .ok (.iload_n 1, 1) := by decide +kernel
theorem dX1_forgetPrices_25 : decode cX1_forgetPrices 25 = .ok (.aaload, 1) := by decide +kernel
theorem dX1_forgetPrices_26 : decode cX1_forgetPrices 26 = .ok (.iload_n 2, 1) := by decide +kernel
theorem dX1_forgetPrices_27 : decode cX1_forgetPrices 27 = .ok (.ldc 76, 2) := by decide +kernel
theorem dX1_forgetPrices_29 : decode cX1_forgetPrices 29 = .ok (.iastore, 1) := by decide +kernel
theorem dX1_forgetPrices_30 : decode cX1_forgetPrices 30 = .ok (.iinc 2 1, 3) := by decide +kernel
theorem dX1_forgetPrices_33 : decode cX1_forgetPrices 33 = .ok (.goto (-21), 3) := by decide +kernel
theorem dX1_forgetPrices_36 : decode cX1_forgetPrices 36 = .ok (.iinc 1 1, 3) := by decide +kernel
theorem dX1_forgetPrices_39 : decode cX1_forgetPrices 39 = .ok (.goto (-37), 3) := by decide +kernel
theorem dX1_forgetPrices_42 : decode cX1_forgetPrices 42 = .ok (.return_, 1) := by decide +kernel
theorem dX1_priceWays_0 : decode cX1_priceWays 0 = .ok (.aload_n 0, 1) := by decide +kernel
theorem dX1_priceWays_1 : decode cX1_priceWays 1 = .ok (.getfield 29, 3) := by decide +kernel
theorem dX1_priceWays_4 : decode cX1_priceWays 4 = .ok (.aload_n 0, 1) := by decide +kernel
theorem dX1_priceWays_5 : decode cX1_priceWays 5 = .ok (.getfield 49, 3) := by decide +kernel
theorem dX1_priceWays_8 : decode cX1_priceWays 8 = .ok (.aaload, 1) := by decide +kernel
theorem dX1_priceWays_9 : decode cX1_priceWays 9 = .ok (.aload_n 0, 1) := by decide +kernel
theorem dX1_priceWays_10 : decode cX1_priceWays 10 = .ok (.getfield 61, 3) := by decide +kernel
theorem dX1_priceWays_13 : decode cX1_priceWays 13 = .ok (.iconst 0, 1) := by decide +kernel
theorem dX1_priceWays_14 : decode cX1_priceWays 14 = .ok (.iastore, 1) := by decide +kernel
theorem dX1_priceWays_15 : decode cX1_priceWays 15 = .ok (.aload_n 0, 1) := by decide +kernel
theorem dX1_priceWays_16 : decode cX1_priceWays 16 = .ok (.getfield 49, 3) := by decide +kernel
theorem dX1_priceWays_19 : decode cX1_priceWays 19 = .ok (.iconst 1, 1) := by decide +kernel
theorem dX1_priceWays_20 : decode cX1_priceWays 20 = .ok (.isub, 1) := by decide +kernel
theorem dX1_priceWays_21 : decode cX1_priceWays 21 = .ok (.istore_n 1, 1) := by decide +kernel
theorem dX1_priceWays_22 : decode cX1_priceWays 22 = .ok (.iload_n 1, 1) := by decide +kernel
theorem dX1_priceWays_23 : decode cX1_priceWays 23 = .ok (.ifCond .lt 55, 3) := by decide +kernel
theorem dX1_priceWays_26 : decode cX1_priceWays 26 = .ok (.aload_n 0, 1) := by decide +kernel
theorem dX1_priceWays_27 : decode cX1_priceWays 27 = .ok (.getfield 24, 3) := by decide +kernel
theorem dX1_priceWays_30 : decode cX1_priceWays 30 = .ok (.iload_n 1, 1) := by decide +kernel
theorem dX1_priceWays_31 : decode cX1_priceWays 31 = .ok (.iaload, 1) := by decide +kernel
theorem dX1_priceWays_32 : decode cX1_priceWays 32 = .ok (.istore_n 2, 1) := by decide +kernel
theorem dX1_priceWays_33 : decode cX1_priceWays 33 = .ok (.iload_n 2, 1) := by decide +kernel
theorem dX1_priceWays_34 : decode cX1_priceWays 34 = .ok (.ifCond .lt 38, 3) := by decide +kernel
theorem dX1_priceWays_37 : decode cX1_priceWays 37 = .ok (.aload_n 0, 1) := by decide +kernel
theorem dX1_priceWays_38 : decode cX1_priceWays 38 = .ok (.getfield 21, 3) := by decide +kernel
theorem dX1_priceWays_41 : decode cX1_priceWays 41 = .ok (.iload_n 2, 1) := by decide +kernel
theorem dX1_priceWays_42 : decode cX1_priceWays 42 = .ok (.iaload, 1) := by decide +kernel
theorem dX1_priceWays_43 : decode cX1_priceWays 43 = .ok (.aload_n 0, 1) := by decide +kernel
theorem dX1_priceWays_44 : decode cX1_priceWays 44 = .ok (.getfield 49, 3) := by decide +kernel
theorem dX1_priceWays_47 : decode cX1_priceWays 47 = .ok (.iload_n 1, 1) := by decide +kernel
theorem dX1_priceWays_48 : decode cX1_priceWays 48 = .ok (.isub, 1) := by decide +kernel
theorem dX1_priceWays_49 : decode cX1_priceWays 49 = .ok (.if_icmp .gt 23, 3) := by decide +kernel
theorem dX1_priceWays_52 : decode cX1_priceWays 52 = .ok (.aload_n 0, 1) := by decide +kernel
theorem dX1_priceWays_53 : decode cX1_priceWays 53 = .ok (.getfield 29, 3) := by decide +kernel
theorem dX1_priceWays_56 : decode cX1_priceWays 56 = .ok (.iload_n 1, 1) := by decide +kernel
theorem dX1_priceWays_57 : decode cX1_priceWays 57 = .ok (.aaload, 1) := by decide +kernel
theorem dX1_priceWays_58 : decode cX1_priceWays 58 = .ok (.iload_n 2, 1) := by decide +kernel
theorem dX1_priceWays_59 : decode cX1_priceWays 59 = .ok (.aload_n 0, 1) := by decide +kernel
theorem dX1_priceWays_60 : decode cX1_priceWays 60 = .ok (.iload_n 1, 1) := by decide +kernel
theorem dX1_priceWays_61 : decode cX1_priceWays 61 = .ok (.iload_n 2, 1) := by decide +kernel
theorem dX1_priceWays_62 : decode cX1_priceWays 62 = .ok (.invokevirtual 77, 3) := by decide +kernel
theorem dX1_priceWays_65 : decode cX1_priceWays 65 = .ok (.iastore, 1) := by decide +kernel
theorem dX1_priceWays_66 : decode cX1_priceWays 66 = .ok (.iinc 2 (-1), 3) := by decide +kernel
theorem dX1_priceWays_69 : decode cX1_priceWays 69 = .ok (.goto (-36), 3) := by decide +kernel
theorem dX1_priceWays_72 : decode cX1_priceWays 72 = .ok (.iinc 1 (-1), 3) := by decide +kernel
theorem dX1_priceWays_75 : decode cX1_priceWays 75 = .ok (.goto (-53), 3) := by decide +kernel
theorem dX1_priceWays_78 : decode cX1_priceWays 78 = .ok (.return_, 1) := by decide +kernel
theorem dX1_leastPrice_0 : decode cX1_leastPrice 0 = .ok (.iload_n 1, 1) := by decide +kernel
theorem dX1_leastPrice_1 : decode cX1_leastPrice 1 = .ok (.iconst 2, 1) := by decide +kernel
theorem dX1_leastPrice_2 : decode cX1_leastPrice 2 = .ok (.irem, 1) := by decide +kernel
theorem dX1_leastPrice_3 : decode cX1_leastPrice 3 = .ok (.ifCond .eq 7, 3) := by decide +kernel
theorem dX1_leastPrice_6 : decode cX1_leastPrice 6 = .ok (.iconst 1, 1) := by decide +kernel
theorem dX1_leastPrice_7 : decode cX1_leastPrice 7 = .ok (.goto 4, 3) := by decide +kernel
theorem dX1_leastPrice_10 : decode cX1_leastPrice 10 = .ok (.iconst 0, 1) := by decide +kernel
theorem dX1_leastPrice_11 : decode cX1_leastPrice 11 = .ok (.istore_n 3, 1) := by decide +kernel
theorem dX1_leastPrice_12 : decode cX1_leastPrice 12 = .ok (.iload_n 3, 1) := by decide +kernel
theorem dX1_leastPrice_13 : decode cX1_leastPrice 13 = .ok (.ifCond .eq 16, 3) := by decide +kernel
theorem dX1_leastPrice_16 : decode cX1_leastPrice 16 = .ok (.aload_n 0, 1) := by decide +kernel
theorem dX1_leastPrice_17 : decode cX1_leastPrice 17 = .ok (.getfield 29, 3) := by decide +kernel
theorem dX1_leastPrice_20 : decode cX1_leastPrice 20 = .ok (.iload_n 1, 1) := by decide +kernel
theorem dX1_leastPrice_21 : decode cX1_leastPrice 21 = .ok (.iconst 1, 1) := by decide +kernel
theorem dX1_leastPrice_22 : decode cX1_leastPrice 22 = .ok (.iadd, 1) := by decide +kernel
theorem dX1_leastPrice_23 : decode cX1_leastPrice 23 = .ok (.aaload, 1) := by decide +kernel
theorem dX1_leastPrice_24 : decode cX1_leastPrice 24 = .ok (.iload_n 2, 1) := by decide +kernel
theorem dX1_leastPrice_25 : decode cX1_leastPrice 25 = .ok (.iaload, 1) := by decide +kernel
theorem dX1_leastPrice_26 : decode cX1_leastPrice 26 = .ok (.goto 5, 3) := by decide +kernel
theorem dX1_leastPrice_29 : decode cX1_leastPrice 29 = .ok (.ldc 76, 2) := by decide +kernel
theorem dX1_leastPrice_31 : decode cX1_leastPrice 31 = .ok (.istore 4, 2) := by decide +kernel
theorem dX1_leastPrice_33 : decode cX1_leastPrice 33 = .ok (.iload_n 2, 1) := by decide +kernel
theorem dX1_leastPrice_34 : decode cX1_leastPrice 34 = .ok (.iconst 1, 1) := by decide +kernel
theorem dX1_leastPrice_35 : decode cX1_leastPrice 35 = .ok (.iadd, 1) := by decide +kernel
theorem dX1_leastPrice_36 : decode cX1_leastPrice 36 = .ok (.istore 5, 2) := by decide +kernel
theorem dX1_leastPrice_38 : decode cX1_leastPrice 38 = .ok (.iload 5, 2) := by decide +kernel
theorem dX1_leastPrice_40 : decode cX1_leastPrice 40 = .ok (.aload_n 0, 1) := by decide +kernel
theorem dX1_leastPrice_41 : decode cX1_leastPrice 41 = .ok (.getfield 18, 3) := by decide +kernel
theorem dX1_leastPrice_44 : decode cX1_leastPrice 44 = .ok (.iload_n 2, 1) := by decide +kernel
theorem dX1_leastPrice_45 : decode cX1_leastPrice 45 = .ok (.iaload, 1) := by decide +kernel
theorem dX1_leastPrice_46 : decode cX1_leastPrice 46 = .ok (.if_icmp .gt 24, 3) := by decide +kernel
theorem dX1_leastPrice_49 : decode cX1_leastPrice 49 = .ok (.iload 4, 2) := by decide +kernel
theorem dX1_leastPrice_51 : decode cX1_leastPrice 51 = .ok (.aload_n 0, 1) := by decide +kernel
theorem dX1_leastPrice_52 : decode cX1_leastPrice 52 = .ok (.iload_n 1, 1) := by decide +kernel
theorem dX1_leastPrice_53 : decode cX1_leastPrice 53 = .ok (.iload_n 2, 1) := by decide +kernel
theorem dX1_leastPrice_54 : decode cX1_leastPrice 54 = .ok (.iload 5, 2) := by decide +kernel
theorem dX1_leastPrice_56 : decode cX1_leastPrice 56 = .ok (.invokevirtual 80, 3) := by decide +kernel
theorem dX1_leastPrice_59 : decode cX1_leastPrice 59 = .ok (.invokestatic 43, 3) := by decide +kernel
theorem dX1_leastPrice_62 : decode cX1_leastPrice 62 = .ok (.istore 4, 2) := by decide +kernel
theorem dX1_leastPrice_64 : decode cX1_leastPrice 64 = .ok (.iinc 5 1, 3) := by decide +kernel
theorem dX1_leastPrice_67 : decode cX1_leastPrice 67 = .ok (.goto (-29), 3) := by decide +kernel
theorem dX1_leastPrice_70 : decode cX1_leastPrice 70 = .ok (.iload 4, 2) := by decide +kernel
theorem dX1_leastPrice_72 : decode cX1_leastPrice 72 = .ok (.ireturn, 1) := by decide +kernel
theorem dX1_priceWith_0 : decode cX1_priceWith 0 = .ok (.aload_n 0, 1) := by decide +kernel
theorem dX1_priceWith_1 : decode cX1_priceWith 1 = .ok (.getfield 32, 3) := by decide +kernel
theorem dX1_priceWith_4 : decode cX1_priceWith 4 = .ok (.aload_n 0, 1) := by decide +kernel
theorem dX1_priceWith_5 : decode cX1_priceWith 5 = .ok (.getfield 15, 3) := by decide +kernel
theorem dX1_priceWith_8 : decode cX1_priceWith 8 = .ok (.iload_n 3, 1) := by decide +kernel
theorem dX1_priceWith_9 : decode cX1_priceWith 9 = .ok (.iconst 1, 1) := by decide +kernel
theorem dX1_priceWith_10 : decode cX1_priceWith 10 = .ok (.isub, 1) := by decide +kernel
theorem dX1_priceWith_11 : decode cX1_priceWith 11 = .ok (.iaload, 1) := by decide +kernel
theorem dX1_priceWith_12 : decode cX1_priceWith 12 = .ok (.aload_n 0, 1) := by decide +kernel
theorem dX1_priceWith_13 : decode cX1_priceWith 13 = .ok (.getfield 9, 3) := by decide +kernel
theorem dX1_priceWith_16 : decode cX1_priceWith 16 = .ok (.iload_n 2, 1) := by decide +kernel
theorem dX1_priceWith_17 : decode cX1_priceWith 17 = .ok (.iaload, 1) := by decide +kernel
theorem dX1_priceWith_18 : decode cX1_priceWith 18 = .ok (.isub, 1) := by decide +kernel
theorem dX1_priceWith_19 : decode cX1_priceWith 19 = .ok (.isub, 1) := by decide +kernel
theorem dX1_priceWith_20 : decode cX1_priceWith 20 = .ok (.istore 4, 2) := by decide +kernel
theorem dX1_priceWith_22 : decode cX1_priceWith 22 = .ok (.iload 4, 2) := by decide +kernel
theorem dX1_priceWith_24 : decode cX1_priceWith 24 = .ok (.iload 4, 2) := by decide +kernel
theorem dX1_priceWith_26 : decode cX1_priceWith 26 = .ok (.imul, 1) := by decide +kernel
theorem dX1_priceWith_27 : decode cX1_priceWith 27 = .ok (.aload_n 0, 1) := by decide +kernel
theorem dX1_priceWith_28 : decode cX1_priceWith 28 = .ok (.getfield 29, 3) := by decide +kernel
theorem dX1_priceWith_31 : decode cX1_priceWith 31 = .ok (.iload_n 1, 1) := by decide +kernel
theorem dX1_priceWith_32 : decode cX1_priceWith 32 = .ok (.iconst 1, 1) := by decide +kernel
theorem dX1_priceWith_33 : decode cX1_priceWith 33 = .ok (.iadd, 1) := by decide +kernel
theorem dX1_priceWith_34 : decode cX1_priceWith 34 = .ok (.aaload, 1) := by decide +kernel
theorem dX1_priceWith_35 : decode cX1_priceWith 35 = .ok (.iload_n 3, 1) := by decide +kernel
theorem dX1_priceWith_36 : decode cX1_priceWith 36 = .ok (.iaload, 1) := by decide +kernel
theorem dX1_priceWith_37 : decode cX1_priceWith 37 = .ok (.iadd, 1) := by decide +kernel
theorem dX1_priceWith_38 : decode cX1_priceWith 38 = .ok (.ireturn, 1) := by decide +kernel
theorem dX1_writeRows_0 : decode cX1_writeRows 0 = .ok (.iconst 0, 1) := by decide +kernel
theorem dX1_writeRows_1 : decode cX1_writeRows 1 = .ok (.istore_n 2, 1) := by decide +kernel
theorem dX1_writeRows_2 : decode cX1_writeRows 2 = .ok (.iconst 0, 1) := by decide +kernel
theorem dX1_writeRows_3 : decode cX1_writeRows 3 = .ok (.istore_n 3, 1) := by decide +kernel
theorem dX1_writeRows_4 : decode cX1_writeRows 4 = .ok (.iload_n 3, 1) := by decide +kernel
theorem dX1_writeRows_5 : decode cX1_writeRows 5 = .ok (.aload_n 0, 1) := by decide +kernel
theorem dX1_writeRows_6 : decode cX1_writeRows 6 = .ok (.getfield 49, 3) := by decide +kernel
theorem dX1_writeRows_9 : decode cX1_writeRows 9 = .ok (.if_icmp .ge 37, 3) := by decide +kernel
theorem dX1_writeRows_12 : decode cX1_writeRows 12 = .ok (.aload_n 0, 1) := by decide +kernel
theorem dX1_writeRows_13 : decode cX1_writeRows 13 = .ok (.iload_n 3, 1) := by decide +kernel
theorem dX1_writeRows_14 : decode cX1_writeRows 14 = .ok (.iload_n 2, 1) := by decide +kernel
theorem dX1_writeRows_15 : decode cX1_writeRows 15 = .ok (.invokevirtual 84, 3) := by decide +kernel
theorem dX1_writeRows_18 : decode cX1_writeRows 18 = .ok (.istore_n 2, 1) := by decide +kernel
theorem dX1_writeRows_19 : decode cX1_writeRows 19 = .ok (.aload_n 1, 1) := by decide +kernel
theorem dX1_writeRows_20 : decode cX1_writeRows 20 = .ok (.iload_n 3, 1) := by decide +kernel
theorem dX1_writeRows_21 : decode cX1_writeRows 21 = .ok (.iload_n 2, 1) := by decide +kernel
theorem dX1_writeRows_22 : decode cX1_writeRows 22 = .ok (.ifCond .le 14, 3) := by decide +kernel
theorem dX1_writeRows_25 : decode cX1_writeRows 25 = .ok (.aload_n 0, 1) := by decide +kernel
theorem dX1_writeRows_26 : decode cX1_writeRows 26 = .ok (.getfield 15, 3) := by decide +kernel
theorem dX1_writeRows_29 : decode cX1_writeRows 29 = .ok (.iload_n 2, 1) := by decide +kernel
theorem dX1_writeRows_30 : decode cX1_writeRows 30 = .ok (.iconst 1, 1) := by decide +kernel
theorem dX1_writeRows_31 : decode cX1_writeRows 31 = .ok (.isub, 1) := by decide +kernel
theorem dX1_writeRows_32 : decode cX1_writeRows 32 = .ok (.iaload, 1) := by decide +kernel
theorem dX1_writeRows_33 : decode cX1_writeRows 33 = .ok (.goto 4, 3) := by decide +kernel
theorem dX1_writeRows_36 : decode cX1_writeRows 36 = .ok (.iconst 0, 1) := by decide +kernel
theorem dX1_writeRows_37 : decode cX1_writeRows 37 = .ok (.invokevirtual 87, 3) := by decide +kernel
theorem dX1_writeRows_40 : decode cX1_writeRows 40 = .ok (.iinc 3 1, 3) := by decide +kernel
theorem dX1_writeRows_43 : decode cX1_writeRows 43 = .ok (.goto (-39), 3) := by decide +kernel
theorem dX1_writeRows_46 : decode cX1_writeRows 46 = .ok (.aload_n 1, 1) := by decide +kernel
theorem dX1_writeRows_47 : decode cX1_writeRows 47 = .ok (.aload_n 0, 1) := by decide +kernel
theorem dX1_writeRows_48 : decode cX1_writeRows 48 = .ok (.getfield 49, 3) := by decide +kernel
theorem dX1_writeRows_51 : decode cX1_writeRows 51 = .ok (.iconst 2, 1) := by decide +kernel
theorem dX1_writeRows_52 : decode cX1_writeRows 52 = .ok (.idiv, 1) := by decide +kernel
theorem dX1_writeRows_53 : decode cX1_writeRows 53 = .ok (.putfield 91, 3) := by decide +kernel
theorem dX1_writeRows_56 : decode cX1_writeRows 56 = .ok (.aload_n 1, 1) := by decide +kernel
theorem dX1_writeRows_57 : decode cX1_writeRows 57 = .ok (.aload_n 0, 1) := by decide +kernel
theorem dX1_writeRows_58 : decode cX1_writeRows 58 = .ok (.getfield 29, 3) := by decide +kernel
theorem dX1_writeRows_61 : decode cX1_writeRows 61 = .ok (.iconst 0, 1) := by decide +kernel
theorem dX1_writeRows_62 : decode cX1_writeRows 62 = .ok (.aaload, 1) := by decide +kernel
theorem dX1_writeRows_63 : decode cX1_writeRows 63 = .ok (.iconst 0, 1) := by decide +kernel
theorem dX1_writeRows_64 : decode cX1_writeRows 64 = .ok (.iaload, 1) := by decide +kernel
theorem dX1_writeRows_65 : decode cX1_writeRows 65 = .ok (.putfield 94, 3) := by decide +kernel
theorem dX1_writeRows_68 : decode cX1_writeRows 68 = .ok (.return_, 1) := by decide +kernel
theorem dX1_longestStop_0 : decode cX1_longestStop 0 = .ok (.aload_n 0, 1) := by decide +kernel
theorem dX1_longestStop_1 : decode cX1_longestStop 1 = .ok (.getfield 18, 3) := by decide +kernel
theorem dX1_longestStop_4 : decode cX1_longestStop 4 = .ok (.iload_n 2, 1) := by decide +kernel
theorem dX1_longestStop_5 : decode cX1_longestStop 5 = .ok (.iaload, 1) := by decide +kernel
theorem dX1_longestStop_6 : decode cX1_longestStop 6 = .ok (.istore_n 3, 1) := by decide +kernel
theorem dX1_longestStop_7 : decode cX1_longestStop 7 = .ok (.iload_n 3, 1) := by decide +kernel
theorem dX1_longestStop_8 : decode cX1_longestStop 8 = .ok (.iload_n 2, 1) := by decide +kernel
theorem dX1_longestStop_9 : decode cX1_longestStop 9 = .ok (.if_icmp .le 29, 3) := by decide +kernel
theorem dX1_longestStop_12 : decode cX1_longestStop 12 = .ok (.aload_n 0, 1) := by decide +kernel
theorem dX1_longestStop_13 : decode cX1_longestStop 13 = .ok (.iload_n 1, 1) := by decide +kernel
theorem dX1_longestStop_14 : decode cX1_longestStop 14 = .ok (.iload_n 2, 1) := by decide +kernel
theorem dX1_longestStop_15 : decode cX1_longestStop 15 = .ok (.iload_n 3, 1) := by decide +kernel
theorem dX1_longestStop_16 : decode cX1_longestStop 16 = .ok (.invokevirtual 80, 3) := by decide +kernel
theorem dX1_longestStop_19 : decode cX1_longestStop 19 = .ok (.aload_n 0, 1) := by decide +kernel
theorem dX1_longestStop_20 : decode cX1_longestStop 20 = .ok (.getfield 29, 3) := by decide +kernel
theorem dX1_longestStop_23 : decode cX1_longestStop 23 = .ok (.iload_n 1, 1) := by decide +kernel
theorem dX1_longestStop_24 : decode cX1_longestStop 24 = .ok (.aaload, 1) := by decide +kernel
theorem dX1_longestStop_25 : decode cX1_longestStop 25 = .ok (.iload_n 2, 1) := by decide +kernel
theorem dX1_longestStop_26 : decode cX1_longestStop 26 = .ok (.iaload, 1) := by decide +kernel
theorem dX1_longestStop_27 : decode cX1_longestStop 27 = .ok (.if_icmp .ne 5, 3) := by decide +kernel
theorem dX1_longestStop_30 : decode cX1_longestStop 30 = .ok (.iload_n 3, 1) := by decide +kernel
theorem dX1_longestStop_31 : decode cX1_longestStop 31 = .ok (.ireturn, 1) := by decide +kernel
theorem dX1_longestStop_32 : decode cX1_longestStop 32 = .ok (.iinc 3 (-1), 3) := by decide +kernel
theorem dX1_longestStop_35 : decode cX1_longestStop 35 = .ok (.goto (-28), 3) := by decide +kernel
theorem dX1_longestStop_38 : decode cX1_longestStop 38 = .ok (.iload_n 2, 1) := by decide +kernel
theorem dX1_longestStop_39 : decode cX1_longestStop 39 = .ok (.ireturn, 1) := by decide +kernel
theorem dX2_init_0 : decode cX2_init 0 = .ok (.aload_n 0, 1) := by decide +kernel
theorem dX2_init_1 : decode cX2_init 1 = .ok (.invokespecial 3, 3) := by decide +kernel
theorem dX2_init_4 : decode cX2_init 4 = .ok (.aload_n 0, 1) := by decide +kernel
theorem dX2_init_5 : decode cX2_init 5 = .ok (.iconst 1, 1) := by decide +kernel
theorem dX2_init_6 : decode cX2_init 6 = .ok (.putfield 9, 3) := by decide +kernel
theorem dX2_init_9 : decode cX2_init 9 = .ok (.aload_n 0, 1) := by decide +kernel
theorem dX2_init_10 : decode cX2_init 10 = .ok (.iconst (-1), 1) := by decide +kernel
theorem dX2_init_11 : decode cX2_init 11 = .ok (.putfield 15, 3) := by decide +kernel
theorem dX2_init_14 : decode cX2_init 14 = .ok (.aload_n 0, 1) := by decide +kernel
theorem dX2_init_15 : decode cX2_init 15 = .ok (.bipush 8, 2) := by decide +kernel
theorem dX2_init_17 : decode cX2_init 17 = .ok (.newarray .boolean, 2) := by decide +kernel
theorem dX2_init_19 : decode cX2_init 19 = .ok (.putfield 19, 3) := by decide +kernel
theorem dX2_init_22 : decode cX2_init 22 = .ok (.aload_n 0, 1) := by decide +kernel
theorem dX2_init_23 : decode cX2_init 23 = .ok (.aload_n 1, 1) := by decide +kernel
theorem dX2_init_24 : decode cX2_init 24 = .ok (.putfield 23, 3) := by decide +kernel
theorem dX2_init_27 : decode cX2_init 27 = .ok (.return_, 1) := by decide +kernel
theorem dX2_start_0 : decode cX2_start 0 = .ok (.aload_n 0, 1) := by decide +kernel
theorem dX2_start_1 : decode cX2_start 1 = .ok (.aload_n 1, 1) := by decide +kernel
theorem dX2_start_2 : decode cX2_start 2 = .ok (.putfield 23, 3) := by decide +kernel
theorem dX2_start_5 : decode cX2_start 5 = .ok (.iconst 0, 1) := by decide +kernel
theorem dX2_start_6 : decode cX2_start 6 = .ok (.istore_n 2, 1) := by decide +kernel
theorem dX2_start_7 : decode cX2_start 7 = .ok (.iload_n 2, 1) := by decide +kernel
theorem dX2_start_8 : decode cX2_start 8 = .ok (.bipush 8, 2) := by decide +kernel
theorem dX2_start_10 : decode cX2_start 10 = .ok (.if_icmp .ge 16, 3) := by decide +kernel
theorem dX2_start_13 : decode cX2_start 13 = .ok (.aload_n 0, 1) := by decide +kernel
theorem dX2_start_14 : decode cX2_start 14 = .ok (.getfield 19, 3) := by decide +kernel
theorem dX2_start_17 : decode cX2_start 17 = .ok (.iload_n 2, 1) := by decide +kernel
theorem dX2_start_18 : decode cX2_start 18 = .ok (.iconst 0, 1) := by decide +kernel
theorem dX2_start_19 : decode cX2_start 19 = .ok (.bastore, 1) := by decide +kernel
theorem dX2_start_20 : decode cX2_start 20 = .ok (.iinc 2 1, 3) := by decide +kernel
theorem dX2_start_23 : decode cX2_start 23 = .ok (.goto (-16), 3) := by decide +kernel
theorem dX2_start_26 : decode cX2_start 26 = .ok (.aload_n 0, 1) := by decide +kernel
theorem dX2_start_27 : decode cX2_start 27 = .ok (.iconst 0, 1) := by decide +kernel
theorem dX2_start_28 : decode cX2_start 28 = .ok (.putfield 27, 3) := by decide +kernel
theorem dX2_start_31 : decode cX2_start 31 = .ok (.aload_n 0, 1) := by decide +kernel
theorem dX2_start_32 : decode cX2_start 32 = .ok (.iconst 0, 1) := by decide +kernel
theorem dX2_start_33 : decode cX2_start 33 = .ok (.putfield 30, 3) := by decide +kernel
theorem dX2_start_36 : decode cX2_start 36 = .ok (.aload_n 0, 1) := by decide +kernel
theorem dX2_start_37 : decode cX2_start 37 = .ok (.iconst 1, 1) := by decide +kernel
theorem dX2_start_38 : decode cX2_start 38 = .ok (.putfield 9, 3) := by decide +kernel
theorem dX2_start_41 : decode cX2_start 41 = .ok (.return_, 1) := by decide +kernel
theorem dX2_lead_0 : decode cX2_lead 0 = .ok (.aload_n 0, 1) := by decide +kernel
theorem dX2_lead_1 : decode cX2_lead 1 = .ok (.iload_n 1, 1) := by decide +kernel
theorem dX2_lead_2 : decode cX2_lead 2 = .ok (.invokevirtual 33, 3) := by decide +kernel
theorem dX2_lead_5 : decode cX2_lead 5 = .ok (.aload_n 0, 1) := by decide +kernel
theorem dX2_lead_6 : decode cX2_lead 6 = .ok (.iload_n 2, 1) := by decide +kernel
theorem dX2_lead_7 : decode cX2_lead 7 = .ok (.putfield 9, 3) := by decide +kernel
theorem dX2_lead_10 : decode cX2_lead 10 = .ok (.return_, 1) := by decide +kernel
theorem dX2_goTo_0 : decode cX2_goTo 0 = .ok (.aload_n 0, 1) := by decide +kernel
theorem dX2_goTo_1 : decode cX2_goTo 1 = .ok (.aload_n 0, 1) := by decide +kernel
theorem dX2_goTo_2 : decode cX2_goTo 2 = .ok (.iload_n 1, 1) := by decide +kernel
theorem dX2_goTo_3 : decode cX2_goTo 3 = .ok (.invokevirtual 37, 3) := by decide +kernel
theorem dX2_goTo_6 : decode cX2_goTo 6 = .ok (.putfield 27, 3) := by decide +kernel
theorem dX2_goTo_9 : decode cX2_goTo 9 = .ok (.aload_n 0, 1) := by decide +kernel
theorem dX2_goTo_10 : decode cX2_goTo 10 = .ok (.iconst 0, 1) := by decide +kernel
theorem dX2_goTo_11 : decode cX2_goTo 11 = .ok (.putfield 30, 3) := by decide +kernel
theorem dX2_goTo_14 : decode cX2_goTo 14 = .ok (.return_, 1) := by decide +kernel
theorem dX2_hear_0 : decode cX2_hear 0 = .ok (.iload_n 1, 1) := by decide +kernel
theorem dX2_hear_1 : decode cX2_hear 1 = .ok (.aload_n 0, 1) := by decide +kernel
theorem dX2_hear_2 : decode cX2_hear 2 = .ok (.getfield 27, 3) := by decide +kernel
theorem dX2_hear_5 : decode cX2_hear 5 = .ok (.if_icmp .lt 21, 3) := by decide +kernel
theorem dX2_hear_8 : decode cX2_hear 8 = .ok (.iload_n 1, 1) := by decide +kernel
theorem dX2_hear_9 : decode cX2_hear 9 = .ok (.aload_n 0, 1) := by decide +kernel
theorem dX2_hear_10 : decode cX2_hear 10 = .ok (.getfield 27, 3) := by decide +kernel
theorem dX2_hear_13 : decode cX2_hear 13 = .ok (.iconst 4, 1) := by decide +kernel
theorem dX2_hear_14 : decode cX2_hear 14 = .ok (.iadd, 1) := by decide +kernel
theorem dX2_hear_15 : decode cX2_hear 15 = .ok (.if_icmp .gt 11, 3) := by decide +kernel
theorem dX2_hear_18 : decode cX2_hear 18 = .ok (.aload_n 0, 1) := by decide +kernel
theorem dX2_hear_19 : decode cX2_hear 19 = .ok (.iload_n 1, 1) := by decide +kernel
theorem dX2_hear_20 : decode cX2_hear 20 = .ok (.invokevirtual 33, 3) := by decide +kernel
theorem dX2_hear_23 : decode cX2_hear 23 = .ok (.goto 68, 3) := by decide +kernel
theorem dX2_hear_26 : decode cX2_hear 26 = .ok (.aload_n 0, 1) := by decide +kernel
theorem dX2_hear_27 : decode cX2_hear 27 = .ok (.getfield 30, 3) := by decide +kernel
theorem dX2_hear_30 : decode cX2_hear 30 = .ok (.ifCond .le 29, 3) := by decide +kernel
theorem dX2_hear_33 : decode cX2_hear 33 = .ok (.iload_n 1, 1) := by decide +kernel
theorem dX2_hear_34 : decode cX2_hear 34 = .ok (.aload_n 0, 1) := by decide +kernel
theorem dX2_hear_35 : decode cX2_hear 35 = .ok (.getfield 15, 3) := by decide +kernel
theorem dX2_hear_38 : decode cX2_hear 38 = .ok (.iconst 1, 1) := by decide +kernel
theorem dX2_hear_39 : decode cX2_hear 39 = .ok (.iadd, 1) := by decide +kernel
theorem dX2_hear_40 : decode cX2_hear 40 = .ok (.if_icmp .ne 19, 3) := by decide +kernel
theorem dX2_hear_43 : decode cX2_hear 43 = .ok (.iload_n 1, 1) := by decide +kernel
theorem dX2_hear_44 : decode cX2_hear 44 = .ok (.aload_n 0, 1) := by decide +kernel
theorem dX2_hear_45 : decode cX2_hear 45 = .ok (.getfield 27, 3) := by decide +kernel
theorem dX2_hear_48 : decode cX2_hear 48 = .ok (.if_icmp .le 11, 3) := by decide +kernel
theorem dX2_hear_51 : decode cX2_hear 51 = .ok (.aload_n 0, 1) := by decide +kernel
theorem dX2_hear_52 : decode cX2_hear 52 = .ok (.iload_n 1, 1) := by decide +kernel
theorem dX2_hear_53 : decode cX2_hear 53 = .ok (.invokevirtual 33, 3) := by decide +kernel
theorem dX2_hear_56 : decode cX2_hear 56 = .ok (.goto 35, 3) := by decide +kernel
theorem dX2_hear_59 : decode cX2_hear 59 = .ok (.aload_n 0, 1) := by decide +kernel
theorem dX2_hear_60 : decode cX2_hear 60 = .ok (.dup, 1) := by decide +kernel
theorem dX2_hear_61 : decode cX2_hear 61 = .ok (.getfield 30, 3) := by decide +kernel
theorem dX2_hear_64 : decode cX2_hear 64 = .ok (.iconst 1, 1) := by decide +kernel
theorem dX2_hear_65 : decode cX2_hear 65 = .ok (.iadd, 1) := by decide +kernel
theorem dX2_hear_66 : decode cX2_hear 66 = .ok (.putfield 30, 3) := by decide +kernel
theorem dX2_hear_69 : decode cX2_hear 69 = .ok (.aload_n 0, 1) := by decide +kernel
theorem dX2_hear_70 : decode cX2_hear 70 = .ok (.iload_n 1, 1) := by decide +kernel
theorem dX2_hear_71 : decode cX2_hear 71 = .ok (.putfield 15, 3) := by decide +kernel
theorem dX2_hear_74 : decode cX2_hear 74 = .ok (.aload_n 0, 1) := by decide +kernel
theorem dX2_hear_75 : decode cX2_hear 75 = .ok (.aload_n 0, 1) := by decide +kernel
theorem dX2_hear_76 : decode cX2_hear 76 = .ok (.getfield 30, 3) := by decide +kernel
theorem dX2_hear_79 : decode cX2_hear 79 = .ok (.iconst 3, 1) := by decide +kernel
theorem dX2_hear_80 : decode cX2_hear 80 = .ok (.if_icmp .ge 7, 3) := by decide +kernel
theorem dX2_hear_83 : decode cX2_hear 83 = .ok (.iconst 1, 1) := by decide +kernel
theorem dX2_hear_84 : decode cX2_hear 84 = .ok (.goto 4, 3) := by decide +kernel
theorem dX2_hear_87 : decode cX2_hear 87 = .ok (.iconst 0, 1) := by decide +kernel
theorem dX2_hear_88 : decode cX2_hear 88 = .ok (.putfield 9, 3) := by decide +kernel
theorem dX2_hear_91 : decode cX2_hear 91 = .ok (.return_, 1) := by decide +kernel
theorem dX2_switchCut_0 : decode cX2_switchCut 0 = .ok (.iload_n 1, 1) := by decide +kernel
theorem dX2_switchCut_1 : decode cX2_switchCut 1 = .ok (.ifCond .lt 28, 3) := by decide +kernel
theorem dX2_switchCut_4 : decode cX2_switchCut 4 = .ok (.iload_n 1, 1) := by decide +kernel
theorem dX2_switchCut_5 : decode cX2_switchCut 5 = .ok (.bipush 8, 2) := by decide +kernel
theorem dX2_switchCut_7 : decode cX2_switchCut 7 = .ok (.if_icmp .ge 22, 3) := by decide +kernel
theorem dX2_switchCut_10 : decode cX2_switchCut 10 = .ok (.aload_n 0, 1) := by decide +kernel
theorem dX2_switchCut_11 : decode cX2_switchCut 11 = .ok (.getfield 19, 3) := by decide +kernel
theorem dX2_switchCut_14 : decode cX2_switchCut 14 = .ok (.iload_n 1, 1) := by decide +kernel
theorem dX2_switchCut_15 : decode cX2_switchCut 15 = .ok (.iload_n 2, 1) := by decide +kernel
theorem dX2_switchCut_16 : decode cX2_switchCut 16 = .ok (.bastore, 1) := by decide +kernel
theorem dX2_switchCut_17 : decode cX2_switchCut 17 = .ok (.aload_n 0, 1) := by decide +kernel
theorem dX2_switchCut_18 : decode cX2_switchCut 18 = .ok (.aload_n 0, 1) := by decide +kernel
theorem dX2_switchCut_19 : decode cX2_switchCut 19 = .ok (.aload_n 0, 1) := by decide +kernel
theorem dX2_switchCut_20 : decode cX2_switchCut 20 = .ok (.getfield 27, 3) := by decide +kernel
theorem dX2_switchCut_23 : decode cX2_switchCut 23 = .ok (.invokevirtual 37, 3) := by decide +kernel
theorem dX2_switchCut_26 : decode cX2_switchCut 26 = .ok (.putfield 27, 3) := by decide +kernel
theorem dX2_switchCut_29 : decode cX2_switchCut 29 = .ok (.return_, 1) := by decide +kernel
theorem dX2_behindCuts_0 : decode cX2_behindCuts 0 = .ok (.iload_n 1, 1) := by decide +kernel
theorem dX2_behindCuts_1 : decode cX2_behindCuts 1 = .ok (.istore_n 2, 1) := by decide +kernel
theorem dX2_behindCuts_2 : decode cX2_behindCuts 2 = .ok (.iconst 0, 1) := by decide +kernel
theorem dX2_behindCuts_3 : decode cX2_behindCuts 3 = .ok (.istore_n 3, 1) := by decide +kernel
theorem dX2_behindCuts_4 : decode cX2_behindCuts 4 = .ok (.iload_n 3, 1) := by decide +kernel
theorem dX2_behindCuts_5 : decode cX2_behindCuts 5 = .ok (.bipush 8, 2) := by decide +kernel
theorem dX2_behindCuts_7 : decode cX2_behindCuts 7 = .ok (.if_icmp .ge 58, 3) := by decide +kernel
theorem dX2_behindCuts_10 : decode cX2_behindCuts 10 = .ok (.iconst 0, 1) := by decide +kernel
theorem dX2_behindCuts_11 : decode cX2_behindCuts 11 = .ok (.istore 4, 2) := by decide +kernel
theorem dX2_behindCuts_13 : decode cX2_behindCuts 13 = .ok (.iload 4, 2) := by decide +kernel
theorem dX2_behindCuts_15 : decode cX2_behindCuts 15 = .ok (.bipush 8, 2) := by decide +kernel
theorem dX2_behindCuts_17 : decode cX2_behindCuts 17 = .ok (.if_icmp .ge 42, 3) := by decide +kernel
theorem dX2_behindCuts_20 : decode cX2_behindCuts 20 = .ok (.aload_n 0, 1) := by decide +kernel
theorem dX2_behindCuts_21 : decode cX2_behindCuts 21 = .ok (.getfield 19, 3) := by decide +kernel
theorem dX2_behindCuts_24 : decode cX2_behindCuts 24 = .ok (.iload 4, 2) := by decide +kernel
theorem dX2_behindCuts_26 : decode cX2_behindCuts 26 = .ok (.baload, 1) := by decide +kernel
theorem dX2_behindCuts_27 : decode cX2_behindCuts 27 = .ok (.ifCond .eq 26, 3) := by decide +kernel
theorem dX2_behindCuts_30 : decode cX2_behindCuts 30 = .ok (.aload_n 0, 1) := by decide +kernel
theorem dX2_behindCuts_31 : decode cX2_behindCuts 31 = .ok (.getfield 23, 3) := by decide +kernel
theorem dX2_behindCuts_34 : decode cX2_behindCuts 34 = .ok (.iload 4, 2) := by decide +kernel
theorem dX2_behindCuts_36 : decode cX2_behindCuts 36 = .ok (.iload_n 2, 1) := by decide +kernel
theorem dX2_behindCuts_37 : decode cX2_behindCuts 37 = .ok (.invokevirtual 41, 3) := by decide +kernel
theorem dX2_behindCuts_40 : decode cX2_behindCuts 40 = .ok (.ifCond .eq 13, 3) := by decide +kernel
theorem dX2_behindCuts_43 : decode cX2_behindCuts 43 = .ok (.aload_n 0, 1) := by decide +kernel
theorem dX2_behindCuts_44 : decode cX2_behindCuts 44 = .ok (.getfield 23, 3) := by decide +kernel
theorem dX2_behindCuts_47 : decode cX2_behindCuts 47 = .ok (.iload 4, 2) := by decide +kernel
theorem dX2_behindCuts_49 : decode cX2_behindCuts 49 = .ok (.invokevirtual 47, 3) := by decide +kernel
theorem dX2_behindCuts_52 : decode cX2_behindCuts 52 = .ok (.istore_n 2, 1) := by decide +kernel
theorem dX2_behindCuts_53 : decode cX2_behindCuts 53 = .ok (.iinc 4 1, 3) := by decide +kernel
theorem dX2_behindCuts_56 : decode cX2_behindCuts 56 = .ok (.goto (-43), 3) := by decide +kernel
theorem dX2_behindCuts_59 : decode cX2_behindCuts 59 = .ok (.iinc 3 1, 3) := by decide +kernel
theorem dX2_behindCuts_62 : decode cX2_behindCuts 62 = .ok (.goto (-58), 3) := by decide +kernel
theorem dX2_behindCuts_65 : decode cX2_behindCuts 65 = .ok (.iload_n 2, 1) := by decide +kernel
theorem dX2_behindCuts_66 : decode cX2_behindCuts 66 = .ok (.ireturn, 1) := by decide +kernel
theorem dX2_nextCut_0 : decode cX2_nextCut 0 = .ok (.sipush 1000, 3) := by decide +kernel
theorem dX2_nextCut_3 : decode cX2_nextCut 3 = .ok (.istore_n 2, 1) := by decide +kernel
theorem dX2_nextCut_4 : decode cX2_nextCut 4 = .ok (.iconst 0, 1) := by decide +kernel
theorem dX2_nextCut_5 : decode cX2_nextCut 5 = .ok (.istore_n 3, 1) := by decide +kernel
theorem dX2_nextCut_6 : decode cX2_nextCut 6 = .ok (.iload_n 3, 1) := by decide +kernel
theorem dX2_nextCut_7 : decode cX2_nextCut 7 = .ok (.bipush 8, 2) := by decide +kernel
theorem dX2_nextCut_9 : decode cX2_nextCut 9 = .ok (.if_icmp .ge 43, 3) := by decide +kernel
theorem dX2_nextCut_12 : decode cX2_nextCut 12 = .ok (.aload_n 0, 1) := by decide +kernel
theorem dX2_nextCut_13 : decode cX2_nextCut 13 = .ok (.getfield 19, 3) := by decide +kernel
theorem dX2_nextCut_16 : decode cX2_nextCut 16 = .ok (.iload_n 3, 1) := by decide +kernel
theorem dX2_nextCut_17 : decode cX2_nextCut 17 = .ok (.baload, 1) := by decide +kernel
theorem dX2_nextCut_18 : decode cX2_nextCut 18 = .ok (.ifCond .eq 28, 3) := by decide +kernel
theorem dX2_nextCut_21 : decode cX2_nextCut 21 = .ok (.aload_n 0, 1) := by decide +kernel
theorem dX2_nextCut_22 : decode cX2_nextCut 22 = .ok (.getfield 23, 3) := by decide +kernel
theorem dX2_nextCut_25 : decode cX2_nextCut 25 = .ok (.iload_n 3, 1) := by decide +kernel
theorem dX2_nextCut_26 : decode cX2_nextCut 26 = .ok (.invokevirtual 50, 3) := by decide +kernel
theorem dX2_nextCut_29 : decode cX2_nextCut 29 = .ok (.iload_n 1, 1) := by decide +kernel
theorem dX2_nextCut_30 : decode cX2_nextCut 30 = .ok (.if_icmp .le 16, 3) := by decide +kernel
theorem dX2_nextCut_33 : decode cX2_nextCut 33 = .ok (.iload_n 2, 1) := by decide +kernel
theorem dX2_nextCut_34 : decode cX2_nextCut 34 = .ok (.aload_n 0, 1) := by decide +kernel
theorem dX2_nextCut_35 : decode cX2_nextCut 35 = .ok (.getfield 23, 3) := by decide +kernel
theorem dX2_nextCut_38 : decode cX2_nextCut 38 = .ok (.iload_n 3, 1) := by decide +kernel
theorem dX2_nextCut_39 : decode cX2_nextCut 39 = .ok (.invokevirtual 50, 3) := by decide +kernel
theorem dX2_nextCut_42 : decode cX2_nextCut 42 = .ok (.invokestatic 53, 3) := by decide +kernel
theorem dX2_nextCut_45 : decode cX2_nextCut 45 = .ok (.istore_n 2, 1) := by decide +kernel
theorem dX2_nextCut_46 : decode cX2_nextCut 46 = .ok (.iinc 3 1, 3) := by decide +kernel
theorem dX2_nextCut_49 : decode cX2_nextCut 49 = .ok (.goto (-43), 3) := by decide +kernel
theorem dX2_nextCut_52 : decode cX2_nextCut 52 = .ok (.iload_n 2, 1) := by decide +kernel
theorem dX2_nextCut_53 : decode cX2_nextCut 53 = .ok (.ireturn, 1) := by decide +kernel
theorem dX2_countedBars_0 : decode cX2_countedBars 0 = .ok (.iconst 0, 1) := by decide +kernel
theorem dX2_countedBars_1 : decode cX2_countedBars 1 = .ok (.istore_n 3, 1) := by decide +kernel
theorem dX2_countedBars_2 : decode cX2_countedBars 2 = .ok (.iload_n 1, 1) := by decide +kernel
theorem dX2_countedBars_3 : decode cX2_countedBars 3 = .ok (.istore 4, 2) := by decide +kernel
theorem dX2_countedBars_5 : decode cX2_countedBars 5 = .ok (.iconst 0, 1) := by decide +kernel
theorem dX2_countedBars_6 : decode cX2_countedBars 6 = .ok (.istore 5, 2) := by decide +kernel
theorem dX2_countedBars_8 : decode cX2_countedBars 8 = .ok (.iload 5, 2) := by decide +kernel
theorem dX2_countedBars_10 : decode cX2_countedBars 10 = .ok (.bipush 8, 2) := by decide +kernel
theorem dX2_countedBars_12 : decode cX2_countedBars 12 = .ok (.if_icmp .gt 51, 3) := by decide +kernel
theorem dX2_countedBars_15 : decode cX2_countedBars 15 = .ok (.iload 4, 2) := by decide +kernel
theorem dX2_countedBars_17 : decode cX2_countedBars 17 = .ok (.iload_n 2, 1) := by decide +kernel
theorem dX2_countedBars_18 : decode cX2_countedBars 18 = .ok (.if_icmp .ge 45, 3) := by decide +kernel
theorem dX2_countedBars_21 : decode cX2_countedBars 21 = .ok (.iload_n 2, 1) := by decide +kernel
theorem dX2_countedBars_22 : decode cX2_countedBars 22 = .ok (.aload_n 0, 1) := by decide +kernel
theorem dX2_countedBars_23 : decode cX2_countedBars 23 = .ok (.iload 4, 2) := by decide +kernel
theorem dX2_countedBars_25 : decode cX2_countedBars 25 = .ok (.invokevirtual 37, 3) := by decide +kernel
theorem dX2_countedBars_28 : decode cX2_countedBars 28 = .ok (.invokestatic 53, 3) := by decide +kernel
theorem dX2_countedBars_31 : decode cX2_countedBars 31 = .ok (.istore 6, 2) := by decide +kernel
theorem dX2_countedBars_33 : decode cX2_countedBars 33 = .ok (.iload_n 2, 1) := by decide +kernel
theorem dX2_countedBars_34 : decode cX2_countedBars 34 = .ok (.aload_n 0, 1) := by decide +kernel
theorem dX2_countedBars_35 : decode cX2_countedBars 35 = .ok (.iload 6, 2) := by decide +kernel
theorem dX2_countedBars_37 : decode cX2_countedBars 37 = .ok (.invokevirtual 59, 3) := by decide +kernel
theorem dX2_countedBars_40 : decode cX2_countedBars 40 = .ok (.invokestatic 53, 3) := by decide +kernel
theorem dX2_countedBars_43 : decode cX2_countedBars 43 = .ok (.istore 7, 2) := by decide +kernel
theorem dX2_countedBars_45 : decode cX2_countedBars 45 = .ok (.iload_n 3, 1) := by decide +kernel
theorem dX2_countedBars_46 : decode cX2_countedBars 46 = .ok (.iload 7, 2) := by decide +kernel
theorem dX2_countedBars_48 : decode cX2_countedBars 48 = .ok (.iload 6, 2) := by decide +kernel
theorem dX2_countedBars_50 : decode cX2_countedBars 50 = .ok (.isub, 1) := by decide +kernel
theorem dX2_countedBars_51 : decode cX2_countedBars 51 = .ok (.iadd, 1) := by decide +kernel
theorem dX2_countedBars_52 : decode cX2_countedBars 52 = .ok (.istore_n 3, 1) := by decide +kernel
theorem dX2_countedBars_53 : decode cX2_countedBars 53 = .ok (.iload 7, 2) := by decide +kernel
theorem dX2_countedBars_55 : decode cX2_countedBars 55 = .ok (.istore 4, 2) := by decide +kernel
theorem dX2_countedBars_57 : decode cX2_countedBars 57 = .ok (.iinc 5 1, 3) := by decide +kernel
theorem dX2_countedBars_60 : decode cX2_countedBars 60 = .ok (.goto (-52), 3) := by decide +kernel
theorem dX2_countedBars_63 : decode cX2_countedBars 63 = .ok (.iload_n 3, 1) := by decide +kernel
theorem dX2_countedBars_64 : decode cX2_countedBars 64 = .ok (.ireturn, 1) := by decide +kernel
theorem dX3_init_0 : decode cX3_init 0 = .ok (.aload_n 0, 1) := by decide +kernel
theorem dX3_init_1 : decode cX3_init 1 = .ok (.invokespecial 3, 3) := by decide +kernel
theorem dX3_init_4 : decode cX3_init 4 = .ok (.aload_n 0, 1) := by decide +kernel
theorem dX3_init_5 : decode cX3_init 5 = .ok (.iconst (-1), 1) := by decide +kernel
theorem dX3_init_6 : decode cX3_init 6 = .ok (.putfield 9, 3) := by decide +kernel
theorem dX3_init_9 : decode cX3_init 9 = .ok (.aload_n 0, 1) := by decide +kernel
theorem dX3_init_10 : decode cX3_init 10 = .ok (.aload_n 1, 1) := by decide +kernel
theorem dX3_init_11 : decode cX3_init 11 = .ok (.putfield 15, 3) := by decide +kernel
theorem dX3_init_14 : decode cX3_init 14 = .ok (.aload_n 0, 1) := by decide +kernel
theorem dX3_init_15 : decode cX3_init 15 = .ok (.new 19, 3) := by decide +kernel
theorem dX3_init_18 : decode cX3_init 18 = .ok (.dup, 1) := by decide +kernel
theorem dX3_init_19 : decode cX3_init 19 = .ok (.aload_n 2, 1) := by decide +kernel
theorem dX3_init_20 : decode cX3_init 20 = .ok (.invokespecial 21, 3) := by decide +kernel
theorem dX3_init_23 : decode cX3_init 23 = .ok (.putfield 24, 3) := by decide +kernel
theorem dX3_init_26 : decode cX3_init 26 = .ok (.return_, 1) := by decide +kernel
theorem dX3_read_0 : decode cX3_read 0 = .ok (.aload_n 0, 1) := by decide +kernel
theorem dX3_read_1 : decode cX3_read 1 = .ok (.iconst 0, 1) := by decide +kernel
theorem dX3_read_2 : decode cX3_read 2 = .ok (.putfield 28, 3) := by decide +kernel
theorem dX3_read_5 : decode cX3_read 5 = .ok (.aload_n 0, 1) := by decide +kernel
theorem dX3_read_6 : decode cX3_read 6 = .ok (.iconst (-1), 1) := by decide +kernel
theorem dX3_read_7 : decode cX3_read 7 = .ok (.putfield 9, 3) := by decide +kernel
theorem dX3_read_10 : decode cX3_read 10 = .ok (.aload_n 0, 1) := by decide +kernel
theorem dX3_read_11 : decode cX3_read 11 = .ok (.aload_n 3, 1) := by decide +kernel
theorem dX3_read_12 : decode cX3_read 12 = .ok (.putfield 15, 3) := by decide +kernel
theorem dX3_read_15 : decode cX3_read 15 = .ok (.aload_n 0, 1) := by decide +kernel
theorem dX3_read_16 : decode cX3_read 16 = .ok (.getfield 15, 3) := by decide +kernel
theorem dX3_read_19 : decode cX3_read 19 = .ok (.invokevirtual 31, 3) := by decide +kernel
theorem dX3_read_22 : decode cX3_read 22 = .ok (.aload_n 0, 1) := by decide +kernel
theorem dX3_read_23 : decode cX3_read 23 = .ok (.getfield 24, 3) := by decide +kernel
theorem dX3_read_26 : decode cX3_read 26 = .ok (.aload_n 1, 1) := by decide +kernel
theorem dX3_read_27 : decode cX3_read 27 = .ok (.iload_n 2, 1) := by decide +kernel
theorem dX3_read_28 : decode cX3_read 28 = .ok (.invokevirtual 36, 3) := by decide +kernel
theorem dX3_read_31 : decode cX3_read 31 = .ok (.aload_n 0, 1) := by decide +kernel
theorem dX3_read_32 : decode cX3_read 32 = .ok (.invokevirtual 40, 3) := by decide +kernel
theorem dX3_read_35 : decode cX3_read 35 = .ok (.ifCond .eq 23, 3) := by decide +kernel
theorem dX3_read_38 : decode cX3_read 38 = .ok (.aload_n 0, 1) := by decide +kernel
theorem dX3_read_39 : decode cX3_read 39 = .ok (.iload_n 2, 1) := by decide +kernel
theorem dX3_read_40 : decode cX3_read 40 = .ok (.invokevirtual 44, 3) := by decide +kernel
theorem dX3_read_43 : decode cX3_read 43 = .ok (.ifCond .eq 15, 3) := by decide +kernel
theorem dX3_read_46 : decode cX3_read 46 = .ok (.aload_n 0, 1) := by decide +kernel
theorem dX3_read_47 : decode cX3_read 47 = .ok (.iload_n 2, 1) := by decide +kernel
theorem dX3_read_48 : decode cX3_read 48 = .ok (.invokevirtual 48, 3) := by decide +kernel
theorem dX3_read_51 : decode cX3_read 51 = .ok (.ifCond .eq 7, 3) := by decide +kernel
theorem dX3_read_54 : decode cX3_read 54 = .ok (.iconst 1, 1) := by decide +kernel
theorem dX3_read_55 : decode cX3_read 55 = .ok (.goto 4, 3) := by decide +kernel
theorem dX3_read_58 : decode cX3_read 58 = .ok (.iconst 0, 1) := by decide +kernel
theorem dX3_read_59 : decode cX3_read 59 = .ok (.ireturn, 1) := by decide +kernel
theorem dX3_fail_0 : decode cX3_fail 0 = .ok (.aload_n 0, 1) := by decide +kernel
theorem dX3_fail_1 : decode cX3_fail 1 = .ok (.iload_n 1, 1) := by decide +kernel
theorem dX3_fail_2 : decode cX3_fail 2 = .ok (.putfield 28, 3) := by decide +kernel
theorem dX3_fail_5 : decode cX3_fail 5 = .ok (.aload_n 0, 1) := by decide +kernel
theorem dX3_fail_6 : decode cX3_fail 6 = .ok (.iload_n 2, 1) := by decide +kernel
theorem dX3_fail_7 : decode cX3_fail 7 = .ok (.putfield 9, 3) := by decide +kernel
theorem dX3_fail_10 : decode cX3_fail 10 = .ok (.iconst 0, 1) := by decide +kernel
theorem dX3_fail_11 : decode cX3_fail 11 = .ok (.ireturn, 1) := by decide +kernel
theorem dX3_readTongues_0 : decode cX3_readTongues 0 = .ok (.aload_n 0, 1) := by decide +kernel
theorem dX3_readTongues_1 : decode cX3_readTongues 1 = .ok (.getfield 24, 3) := by decide +kernel
theorem dX3_readTongues_4 : decode cX3_readTongues 4 = .ok (.ldc 51, 2) := by decide +kernel
theorem dX3_readTongues_6 : decode cX3_readTongues 6 = .ok (.invokevirtual 53, 3) := by decide +kernel
theorem dX3_readTongues_9 : decode cX3_readTongues 9 = .ok (.ifCond .ne 16, 3) := by decide +kernel
theorem dX3_readTongues_12 : decode cX3_readTongues 12 = .ok (.aload_n 0, 1) := by decide +kernel
theorem dX3_readTongues_13 : decode cX3_readTongues 13 = .ok (.iconst 1, 1) := by decide +kernel
theorem dX3_readTongues_14 : decode cX3_readTongues 14 = .ok (.aload_n 0, 1) := by decide +kernel
theorem dX3_readTongues_15 : decode cX3_readTongues 15 = .ok (.getfield 24, 3) := by decide +kernel
theorem dX3_readTongues_18 : decode cX3_readTongues 18 = .ok (.getfield 57, 3) := by decide +kernel
theorem dX3_readTongues_21 : decode cX3_readTongues 21 = .ok (.invokevirtual 60, 3) := by decide +kernel
theorem dX3_readTongues_24 : decode cX3_readTongues 24 = .ok (.ireturn, 1) := by decide +kernel
theorem dX3_readTongues_25 : decode cX3_readTongues 25 = .ok (.aload_n 0, 1) := by decide +kernel
theorem dX3_readTongues_26 : decode cX3_readTongues 26 = .ok (.getfield 24, 3) := by decide +kernel
theorem dX3_readTongues_29 : decode cX3_readTongues 29 = .ok (.invokevirtual 64, 3) := by decide +kernel
theorem dX3_readTongues_32 : decode cX3_readTongues 32 = .ok (.aload_n 0, 1) := by decide +kernel
theorem dX3_readTongues_33 : decode cX3_readTongues 33 = .ok (.iconst 1, 1) := by decide +kernel
theorem dX3_readTongues_34 : decode cX3_readTongues 34 = .ok (.iconst 4, 1) := by decide +kernel
theorem dX3_readTongues_35 : decode cX3_readTongues 35 = .ok (.invokevirtual 67, 3) := by decide +kernel
theorem dX3_readTongues_38 : decode cX3_readTongues 38 = .ok (.ifCond .ne 5, 3) := by decide +kernel
theorem dX3_readTongues_41 : decode cX3_readTongues 41 = .ok (.iconst 0, 1) := by decide +kernel
theorem dX3_readTongues_42 : decode cX3_readTongues 42 = .ok (.ireturn, 1) := by decide +kernel
theorem dX3_readTongues_43 : decode cX3_readTongues 43 = .ok (.aload_n 0, 1) := by decide +kernel
theorem dX3_readTongues_44 : decode cX3_readTongues 44 = .ok (.getfield 15, 3) := by decide +kernel
theorem dX3_readTongues_47 : decode cX3_readTongues 47 = .ok (.aload_n 0, 1) := by decide +kernel
theorem dX3_readTongues_48 : decode cX3_readTongues 48 = .ok (.getfield 70, 3) := by decide +kernel
theorem dX3_readTongues_51 : decode cX3_readTongues 51 = .ok (.putfield 73, 3) := by decide +kernel
theorem dX3_readTongues_54 : decode cX3_readTongues 54 = .ok (.aload_n 0, 1) := by decide +kernel
theorem dX3_readTongues_55 : decode cX3_readTongues 55 = .ok (.invokevirtual 75, 3) := by decide +kernel
theorem dX3_readTongues_58 : decode cX3_readTongues 58 = .ok (.ireturn, 1) := by decide +kernel
theorem dX3_readNumber_0 : decode cX3_readNumber 0 = .ok (.aload_n 0, 1) := by decide +kernel
theorem dX3_readNumber_1 : decode cX3_readNumber 1 = .ok (.getfield 24, 3) := by decide +kernel
theorem dX3_readNumber_4 : decode cX3_readNumber 4 = .ok (.getfield 78, 3) := by decide +kernel
theorem dX3_readNumber_7 : decode cX3_readNumber 7 = .ok (.iconst 3, 1) := by decide +kernel
theorem dX3_readNumber_8 : decode cX3_readNumber 8 = .ok (.if_icmp .eq 16, 3) := by decide +kernel
theorem dX3_readNumber_11 : decode cX3_readNumber 11 = .ok (.aload_n 0, 1) := by decide +kernel
theorem dX3_readNumber_12 : decode cX3_readNumber 12 = .ok (.iconst 1, 1) := by decide +kernel
theorem dX3_readNumber_13 : decode cX3_readNumber 13 = .ok (.aload_n 0, 1) := by decide +kernel
theorem dX3_readNumber_14 : decode cX3_readNumber 14 = .ok (.getfield 24, 3) := by decide +kernel
theorem dX3_readNumber_17 : decode cX3_readNumber 17 = .ok (.getfield 57, 3) := by decide +kernel
theorem dX3_readNumber_20 : decode cX3_readNumber 20 = .ok (.invokevirtual 60, 3) := by decide +kernel
theorem dX3_readNumber_23 : decode cX3_readNumber 23 = .ok (.ireturn, 1) := by decide +kernel
theorem dX3_readNumber_24 : decode cX3_readNumber 24 = .ok (.aload_n 0, 1) := by decide +kernel
theorem dX3_readNumber_25 : decode cX3_readNumber 25 = .ok (.aload_n 0, 1) := by decide +kernel
theorem dX3_readNumber_26 : decode cX3_readNumber 26 = .ok (.getfield 24, 3) := by decide +kernel
theorem dX3_readNumber_29 : decode cX3_readNumber 29 = .ok (.getfield 81, 3) := by decide +kernel
theorem dX3_readNumber_32 : decode cX3_readNumber 32 = .ok (.putfield 70, 3) := by decide +kernel
theorem dX3_readNumber_35 : decode cX3_readNumber 35 = .ok (.aload_n 0, 1) := by decide +kernel
theorem dX3_readNumber_36 : decode cX3_readNumber 36 = .ok (.aload_n 0, 1) := by decide +kernel
theorem dX3_readNumber_37 : decode cX3_readNumber 37 = .ok (.getfield 24, 3) := by decide +kernel
theorem dX3_readNumber_40 : decode cX3_readNumber 40 = .ok (.getfield 57, 3) := by decide +kernel
theorem dX3_readNumber_43 : decode cX3_readNumber 43 = .ok (.putfield 84, 3) := by decide +kernel
theorem dX3_readNumber_46 : decode cX3_readNumber 46 = .ok (.aload_n 0, 1) := by decide +kernel
theorem dX3_readNumber_47 : decode cX3_readNumber 47 = .ok (.getfield 70, 3) := by decide +kernel
theorem dX3_readNumber_50 : decode cX3_readNumber 50 = .ok (.iload_n 1, 1) := by decide +kernel
theorem dX3_readNumber_51 : decode cX3_readNumber 51 = .ok (.if_icmp .lt 11, 3) := by decide +kernel
theorem dX3_readNumber_54 : decode cX3_readNumber 54 = .ok (.aload_n 0, 1) := by decide +kernel
theorem dX3_readNumber_55 : decode cX3_readNumber 55 = .ok (.getfield 70, 3) := by decide +kernel
theorem dX3_readNumber_58 : decode cX3_readNumber 58 = .ok (.iload_n 2, 1) := by decide +kernel
theorem dX3_readNumber_59 : decode cX3_readNumber 59 = .ok (.if_icmp .le 13, 3) := by decide +kernel
theorem dX3_readNumber_62 : decode cX3_readNumber 62 = .ok (.aload_n 0, 1) := by decide +kernel
theorem dX3_readNumber_63 : decode cX3_readNumber 63 = .ok (.iconst 2, 1) := by decide +kernel
theorem dX3_readNumber_64 : decode cX3_readNumber 64 = .ok (.aload_n 0, 1) := by decide +kernel
theorem dX3_readNumber_65 : decode cX3_readNumber 65 = .ok (.getfield 84, 3) := by decide +kernel
theorem dX3_readNumber_68 : decode cX3_readNumber 68 = .ok (.invokevirtual 60, 3) := by decide +kernel
theorem dX3_readNumber_71 : decode cX3_readNumber 71 = .ok (.ireturn, 1) := by decide +kernel
theorem dX3_readNumber_72 : decode cX3_readNumber 72 = .ok (.aload_n 0, 1) := by decide +kernel
theorem dX3_readNumber_73 : decode cX3_readNumber 73 = .ok (.getfield 24, 3) := by decide +kernel
theorem dX3_readNumber_76 : decode cX3_readNumber 76 = .ok (.invokevirtual 64, 3) := by decide +kernel
theorem dX3_readNumber_79 : decode cX3_readNumber 79 = .ok (.iconst 1, 1) := by decide +kernel
theorem dX3_readNumber_80 : decode cX3_readNumber 80 = .ok (.ireturn, 1) := by decide +kernel
theorem dX3_readSemicolon_0 : decode cX3_readSemicolon 0 = .ok (.aload_n 0, 1) := by decide +kernel
theorem dX3_readSemicolon_1 : decode cX3_readSemicolon 1 = .ok (.getfield 24, 3) := by decide +kernel
theorem dX3_readSemicolon_4 : decode cX3_readSemicolon 4 = .ok (.getfield 78, 3) := by decide +kernel
theorem dX3_readSemicolon_7 : decode cX3_readSemicolon 7 = .ok (.iconst 5, 1) := by decide +kernel
theorem dX3_readSemicolon_8 : decode cX3_readSemicolon 8 = .ok (.if_icmp .eq 16, 3) := by decide +kernel
theorem dX3_readSemicolon_11 : decode cX3_readSemicolon 11 = .ok (.aload_n 0, 1) := by decide +kernel
theorem dX3_readSemicolon_12 : decode cX3_readSemicolon 12 = .ok (.iconst 1, 1) := by decide +kernel
theorem dX3_readSemicolon_13 : decode cX3_readSemicolon 13 = .ok (.aload_n 0, 1) := by decide +kernel
theorem dX3_readSemicolon_14 : decode cX3_readSemicolon 14 = .ok (.getfield 24, 3) := by decide +kernel
theorem dX3_readSemicolon_17 : decode cX3_readSemicolon 17 = .ok (.getfield 57, 3) := by decide +kernel
theorem dX3_readSemicolon_20 : decode cX3_readSemicolon 20 = .ok (.invokevirtual 60, 3) := by decide +kernel
theorem dX3_readSemicolon_23 : decode cX3_readSemicolon 23 = .ok (.ireturn, 1) := by decide +kernel
theorem dX3_readSemicolon_24 : decode cX3_readSemicolon 24 = .ok (.aload_n 0, 1) := by decide +kernel
theorem dX3_readSemicolon_25 : decode cX3_readSemicolon 25 = .ok (.getfield 24, 3) := by decide +kernel
theorem dX3_readSemicolon_28 : decode cX3_readSemicolon 28 = .ok (.invokevirtual 64, 3) := by decide +kernel
theorem dX3_readSemicolon_31 : decode cX3_readSemicolon 31 = .ok (.iconst 1, 1) := by decide +kernel
theorem dX3_readSemicolon_32 : decode cX3_readSemicolon 32 = .ok (.ireturn, 1) := by decide +kernel
theorem dX3_readSettings_0 : decode cX3_readSettings 0 = .ok (.iconst 0, 1) := by decide +kernel
theorem dX3_readSettings_1 : decode cX3_readSettings 1 = .ok (.istore_n 2, 1) := by decide +kernel
theorem dX3_readSettings_2 : decode cX3_readSettings 2 = .ok (.iload_n 2, 1) := by decide +kernel
theorem dX3_readSettings_3 : decode cX3_readSettings 3 = .ok (.iload_n 1, 1) := by decide +kernel
theorem dX3_readSettings_4 : decode cX3_readSettings 4 = .ok (.if_icmp .ge 97, 3) := by decide +kernel
theorem dX3_readSettings_7 : decode cX3_readSettings 7 = .ok (.aload_n 0, 1) := by decide +kernel
theorem dX3_readSettings_8 : decode cX3_readSettings 8 = .ok (.getfield 24, 3) := by decide +kernel
theorem dX3_readSettings_11 : decode cX3_readSettings 11 = .ok (.ldc 87, 2) := by decide +kernel
theorem dX3_readSettings_13 : decode cX3_readSettings 13 = .ok (.invokevirtual 53, 3) := by decide +kernel
theorem dX3_readSettings_16 : decode cX3_readSettings 16 = .ok (.ifCond .eq 21, 3) := by decide +kernel
theorem dX3_readSettings_19 : decode cX3_readSettings 19 = .ok (.aload_n 0, 1) := by decide +kernel
theorem dX3_readSettings_20 : decode cX3_readSettings 20 = .ok (.aload_n 0, 1) := by decide +kernel
theorem dX3_readSettings_21 : decode cX3_readSettings 21 = .ok (.getfield 15, 3) := by decide +kernel
theorem dX3_readSettings_24 : decode cX3_readSettings 24 = .ok (.getfield 89, 3) := by decide +kernel
theorem dX3_readSettings_27 : decode cX3_readSettings 27 = .ok (.iconst 4, 1) := by decide +kernel
theorem dX3_readSettings_28 : decode cX3_readSettings 28 = .ok (.bipush 40, 2) := by decide +kernel
theorem dX3_readSettings_30 : decode cX3_readSettings 30 = .ok (.invokevirtual 93, 3) := by decide +kernel
theorem dX3_readSettings_33 : decode cX3_readSettings 33 = .ok (.istore_n 3, 1) := by decide +kernel
theorem dX3_readSettings_34 : decode cX3_readSettings 34 = .ok (.goto 55, 3) := by decide +kernel
theorem dX3_readSettings_37 : decode cX3_readSettings 37 = .ok (.aload_n 0, 1) := by decide +kernel
theorem dX3_readSettings_38 : decode cX3_readSettings 38 = .ok (.getfield 24, 3) := by decide +kernel
theorem dX3_readSettings_41 : decode cX3_readSettings 41 = .ok (.ldc 97, 2) := by decide +kernel
theorem dX3_readSettings_43 : decode cX3_readSettings 43 = .ok (.invokevirtual 53, 3) := by decide +kernel
theorem dX3_readSettings_46 : decode cX3_readSettings 46 = .ok (.ifCond .eq 21, 3) := by decide +kernel
theorem dX3_readSettings_49 : decode cX3_readSettings 49 = .ok (.aload_n 0, 1) := by decide +kernel
theorem dX3_readSettings_50 : decode cX3_readSettings 50 = .ok (.aload_n 0, 1) := by decide +kernel
theorem dX3_readSettings_51 : decode cX3_readSettings 51 = .ok (.getfield 15, 3) := by decide +kernel
theorem dX3_readSettings_54 : decode cX3_readSettings 54 = .ok (.getfield 99, 3) := by decide +kernel
theorem dX3_readSettings_57 : decode cX3_readSettings 57 = .ok (.iconst 1, 1) := by decide +kernel
theorem dX3_readSettings_58 : decode cX3_readSettings 58 = .ok (.bipush 20, 2) := by decide +kernel
theorem dX3_readSettings_60 : decode cX3_readSettings 60 = .ok (.invokevirtual 93, 3) := by decide +kernel
theorem dX3_readSettings_63 : decode cX3_readSettings 63 = .ok (.istore_n 3, 1) := by decide +kernel
theorem dX3_readSettings_64 : decode cX3_readSettings 64 = .ok (.goto 25, 3) := by decide +kernel
theorem dX3_readSettings_67 : decode cX3_readSettings 67 = .ok (.aload_n 0, 1) := by decide +kernel
theorem dX3_readSettings_68 : decode cX3_readSettings 68 = .ok (.getfield 24, 3) := by decide +kernel
theorem dX3_readSettings_71 : decode cX3_readSettings 71 = .ok (.ldc 102, 2) := by decide +kernel
theorem dX3_readSettings_73 : decode cX3_readSettings 73 = .ok (.invokevirtual 53, 3) := by decide +kernel
theorem dX3_readSettings_76 : decode cX3_readSettings 76 = .ok (.ifCond .eq 11, 3) := by decide +kernel
theorem dX3_readSettings_79 : decode cX3_readSettings 79 = .ok (.aload_n 0, 1) := by decide +kernel
theorem dX3_readSettings_80 : decode cX3_readSettings 80 = .ok (.invokevirtual 104, 3) := by decide +kernel
theorem dX3_readSettings_83 : decode cX3_readSettings 83 = .ok (.istore_n 3, 1) := by decide +kernel
theorem dX3_readSettings_84 : decode cX3_readSettings 84 = .ok (.goto 5, 3) := by decide +kernel
theorem dX3_readSettings_87 : decode cX3_readSettings 87 = .ok (.iconst 1, 1) := by decide +kernel
theorem dX3_readSettings_88 : decode cX3_readSettings 88 = .ok (.ireturn, 1) := by decide +kernel
theorem dX3_readSettings_89 : decode cX3_readSettings 89 = .ok (.iload_n 3, 1) := by decide +kernel
theorem dX3_readSettings_90 : decode cX3_readSettings 90 = .ok (.ifCond .ne 5, 3) := by decide +kernel
theorem dX3_readSettings_93 : decode cX3_readSettings 93 = .ok (.iconst 0, 1) := by decide +kernel
theorem dX3_readSettings_94 : decode cX3_readSettings 94 = .ok (.ireturn, 1) := by decide +kernel
theorem dX3_readSettings_95 : decode cX3_readSettings 95 = .ok (.iinc 2 1, 3) := by decide +kernel
theorem dX3_readSettings_98 : decode cX3_readSettings 98 = .ok (.goto (-96), 3) := by decide +kernel
theorem dX3_readSettings_101 : decode cX3_readSettings 101 = .ok (.iconst 1, 1) := by decide +kernel
end
section
theorem dX3_readSettings_102 : decode cX3_readSettings 102 = .ok (.ireturn, 1) := by decide +kernel
theorem dX3_readTongueSetting_0 : decode cX3_readTongueSetting 0 = .ok (.aload_n 0, 1) := by decide +kernel
theorem dX3_readTongueSetting_1 : decode cX3_readTongueSetting 1 = .ok (.getfield 24, 3) := by decide +kernel
theorem dX3_readTongueSetting_4 : decode cX3_readTongueSetting 4 = .ok (.getfield 57, 3) := by decide +kernel
theorem dX3_readTongueSetting_7 : decode cX3_readTongueSetting 7 = .ok (.istore 4, 2) := by decide +kernel
theorem dX3_readTongueSetting_9 : decode cX3_readTongueSetting 9 = .ok (.aload_n 0, 1) := by decide +kernel
theorem dX3_readTongueSetting_10 : decode cX3_readTongueSetting 10 = .ok (.getfield 24, 3) := by decide +kernel
theorem dX3_readTongueSetting_13 : decode cX3_readTongueSetting 13 = .ok (.invokevirtual 64, 3) := by decide +kernel
theorem dX3_readTongueSetting_16 : decode cX3_readTongueSetting 16 = .ok (.aload_n 0, 1) := by decide +kernel
theorem dX3_readTongueSetting_17 : decode cX3_readTongueSetting 17 = .ok (.iconst 0, 1) := by decide +kernel
theorem dX3_readTongueSetting_18 : decode cX3_readTongueSetting 18 = .ok (.aload_n 0, 1) := by decide +kernel
theorem dX3_readTongueSetting_19 : decode cX3_readTongueSetting 19 = .ok (.getfield 15, 3) := by decide +kernel
theorem dX3_readTongueSetting_22 : decode cX3_readTongueSetting 22 = .ok (.getfield 73, 3) := by decide +kernel
theorem dX3_readTongueSetting_25 : decode cX3_readTongueSetting 25 = .ok (.iconst 1, 1) := by decide +kernel
theorem dX3_readTongueSetting_26 : decode cX3_readTongueSetting 26 = .ok (.isub, 1) := by decide +kernel
theorem dX3_readTongueSetting_27 : decode cX3_readTongueSetting 27 = .ok (.invokevirtual 67, 3) := by decide +kernel
theorem dX3_readTongueSetting_30 : decode cX3_readTongueSetting 30 = .ok (.ifCond .ne 5, 3) := by decide +kernel
theorem dX3_readTongueSetting_33 : decode cX3_readTongueSetting 33 = .ok (.iconst 0, 1) := by decide +kernel
theorem dX3_readTongueSetting_34 : decode cX3_readTongueSetting 34 = .ok (.ireturn, 1) := by decide +kernel
theorem dX3_readTongueSetting_35 : decode cX3_readTongueSetting 35 = .ok (.aload_n 0, 1) := by decide +kernel
theorem dX3_readTongueSetting_36 : decode cX3_readTongueSetting 36 = .ok (.getfield 70, 3) := by decide +kernel
theorem dX3_readTongueSetting_39 : decode cX3_readTongueSetting 39 = .ok (.istore 5, 2) := by decide +kernel
theorem dX3_readTongueSetting_41 : decode cX3_readTongueSetting 41 = .ok (.aload_n 0, 1) := by decide +kernel
theorem dX3_readTongueSetting_42 : decode cX3_readTongueSetting 42 = .ok (.getfield 15, 3) := by decide +kernel
theorem dX3_readTongueSetting_45 : decode cX3_readTongueSetting 45 = .ok (.aload_n 1, 1) := by decide +kernel
theorem dX3_readTongueSetting_46 : decode cX3_readTongueSetting 46 = .ok (.iload 5, 2) := by decide +kernel
theorem dX3_readTongueSetting_48 : decode cX3_readTongueSetting 48 = .ok (.invokevirtual 107, 3) := by decide +kernel
theorem dX3_readTongueSetting_51 : decode cX3_readTongueSetting 51 = .ok (.ifCond .eq 11, 3) := by decide +kernel
theorem dX3_readTongueSetting_54 : decode cX3_readTongueSetting 54 = .ok (.aload_n 0, 1) := by decide +kernel
theorem dX3_readTongueSetting_55 : decode cX3_readTongueSetting 55 = .ok (.iconst 3, 1) := by decide +kernel
theorem dX3_readTongueSetting_56 : decode cX3_readTongueSetting 56 = .ok (.iload 4, 2) := by decide +kernel
theorem dX3_readTongueSetting_58 : decode cX3_readTongueSetting 58 = .ok (.invokevirtual 60, 3) := by decide +kernel
theorem dX3_readTongueSetting_61 : decode cX3_readTongueSetting 61 = .ok (.ireturn, 1) := by decide +kernel
theorem dX3_readTongueSetting_62 : decode cX3_readTongueSetting 62 = .ok (.aload_n 0, 1) := by decide +kernel
theorem dX3_readTongueSetting_63 : decode cX3_readTongueSetting 63 = .ok (.iload_n 2, 1) := by decide +kernel
theorem dX3_readTongueSetting_64 : decode cX3_readTongueSetting 64 = .ok (.iload_n 3, 1) := by decide +kernel
theorem dX3_readTongueSetting_65 : decode cX3_readTongueSetting 65 = .ok (.invokevirtual 67, 3) := by decide +kernel
theorem dX3_readTongueSetting_68 : decode cX3_readTongueSetting 68 = .ok (.ifCond .ne 5, 3) := by decide +kernel
theorem dX3_readTongueSetting_71 : decode cX3_readTongueSetting 71 = .ok (.iconst 0, 1) := by decide +kernel
theorem dX3_readTongueSetting_72 : decode cX3_readTongueSetting 72 = .ok (.ireturn, 1) := by decide +kernel
theorem dX3_readTongueSetting_73 : decode cX3_readTongueSetting 73 = .ok (.aload_n 0, 1) := by decide +kernel
theorem dX3_readTongueSetting_74 : decode cX3_readTongueSetting 74 = .ok (.getfield 15, 3) := by decide +kernel
theorem dX3_readTongueSetting_77 : decode cX3_readTongueSetting 77 = .ok (.aload_n 1, 1) := by decide +kernel
theorem dX3_readTongueSetting_78 : decode cX3_readTongueSetting 78 = .ok (.iload 5, 2) := by decide +kernel
theorem dX3_readTongueSetting_80 : decode cX3_readTongueSetting 80 = .ok (.aload_n 0, 1) := by decide +kernel
theorem dX3_readTongueSetting_81 : decode cX3_readTongueSetting 81 = .ok (.getfield 70, 3) := by decide +kernel
theorem dX3_readTongueSetting_84 : decode cX3_readTongueSetting 84 = .ok (.invokevirtual 111, 3) := by decide +kernel
theorem dX3_readTongueSetting_87 : decode cX3_readTongueSetting 87 = .ok (.aload_n 0, 1) := by decide +kernel
theorem dX3_readTongueSetting_88 : decode cX3_readTongueSetting 88 = .ok (.invokevirtual 75, 3) := by decide +kernel
theorem dX3_readTongueSetting_91 : decode cX3_readTongueSetting 91 = .ok (.ireturn, 1) := by decide +kernel
theorem dX3_readBeats_0 : decode cX3_readBeats 0 = .ok (.aload_n 0, 1) := by decide +kernel
theorem dX3_readBeats_1 : decode cX3_readBeats 1 = .ok (.getfield 15, 3) := by decide +kernel
theorem dX3_readBeats_4 : decode cX3_readBeats 4 = .ok (.invokevirtual 115, 3) := by decide +kernel
theorem dX3_readBeats_7 : decode cX3_readBeats 7 = .ok (.ifCond .eq 16, 3) := by decide +kernel
theorem dX3_readBeats_10 : decode cX3_readBeats 10 = .ok (.aload_n 0, 1) := by decide +kernel
theorem dX3_readBeats_11 : decode cX3_readBeats 11 = .ok (.iconst 3, 1) := by decide +kernel
theorem dX3_readBeats_12 : decode cX3_readBeats 12 = .ok (.aload_n 0, 1) := by decide +kernel
theorem dX3_readBeats_13 : decode cX3_readBeats 13 = .ok (.getfield 24, 3) := by decide +kernel
theorem dX3_readBeats_16 : decode cX3_readBeats 16 = .ok (.getfield 57, 3) := by decide +kernel
theorem dX3_readBeats_19 : decode cX3_readBeats 19 = .ok (.invokevirtual 60, 3) := by decide +kernel
theorem dX3_readBeats_22 : decode cX3_readBeats 22 = .ok (.ireturn, 1) := by decide +kernel
theorem dX3_readBeats_23 : decode cX3_readBeats 23 = .ok (.aload_n 0, 1) := by decide +kernel
theorem dX3_readBeats_24 : decode cX3_readBeats 24 = .ok (.getfield 24, 3) := by decide +kernel
theorem dX3_readBeats_27 : decode cX3_readBeats 27 = .ok (.invokevirtual 64, 3) := by decide +kernel
theorem dX3_readBeats_30 : decode cX3_readBeats 30 = .ok (.aload_n 0, 1) := by decide +kernel
theorem dX3_readBeats_31 : decode cX3_readBeats 31 = .ok (.iconst 1, 1) := by decide +kernel
theorem dX3_readBeats_32 : decode cX3_readBeats 32 = .ok (.bipush 8, 2) := by decide +kernel
theorem dX3_readBeats_34 : decode cX3_readBeats 34 = .ok (.invokevirtual 67, 3) := by decide +kernel
theorem dX3_readBeats_37 : decode cX3_readBeats 37 = .ok (.ifCond .ne 5, 3) := by decide +kernel
theorem dX3_readBeats_40 : decode cX3_readBeats 40 = .ok (.iconst 0, 1) := by decide +kernel
theorem dX3_readBeats_41 : decode cX3_readBeats 41 = .ok (.ireturn, 1) := by decide +kernel
theorem dX3_readBeats_42 : decode cX3_readBeats 42 = .ok (.aload_n 0, 1) := by decide +kernel
theorem dX3_readBeats_43 : decode cX3_readBeats 43 = .ok (.getfield 15, 3) := by decide +kernel
theorem dX3_readBeats_46 : decode cX3_readBeats 46 = .ok (.aload_n 0, 1) := by decide +kernel
theorem dX3_readBeats_47 : decode cX3_readBeats 47 = .ok (.getfield 70, 3) := by decide +kernel
theorem dX3_readBeats_50 : decode cX3_readBeats 50 = .ok (.invokevirtual 118, 3) := by decide +kernel
theorem dX3_readBeats_53 : decode cX3_readBeats 53 = .ok (.aload_n 0, 1) := by decide +kernel
theorem dX3_readBeats_54 : decode cX3_readBeats 54 = .ok (.invokevirtual 75, 3) := by decide +kernel
theorem dX3_readBeats_57 : decode cX3_readBeats 57 = .ok (.ireturn, 1) := by decide +kernel
theorem dX3_readItems_0 : decode cX3_readItems 0 = .ok (.iconst 0, 1) := by decide +kernel
theorem dX3_readItems_1 : decode cX3_readItems 1 = .ok (.istore_n 2, 1) := by decide +kernel
theorem dX3_readItems_2 : decode cX3_readItems 2 = .ok (.iload_n 2, 1) := by decide +kernel
theorem dX3_readItems_3 : decode cX3_readItems 3 = .ok (.iload_n 1, 1) := by decide +kernel
theorem dX3_readItems_4 : decode cX3_readItems 4 = .ok (.if_icmp .ge 142, 3) := by decide +kernel
theorem dX3_readItems_7 : decode cX3_readItems 7 = .ok (.aload_n 0, 1) := by decide +kernel
theorem dX3_readItems_8 : decode cX3_readItems 8 = .ok (.getfield 24, 3) := by decide +kernel
theorem dX3_readItems_11 : decode cX3_readItems 11 = .ok (.getfield 78, 3) := by decide +kernel
theorem dX3_readItems_14 : decode cX3_readItems 14 = .ok (.ifCond .eq 132, 3) := by decide +kernel
theorem dX3_readItems_17 : decode cX3_readItems 17 = .ok (.aload_n 0, 1) := by decide +kernel
theorem dX3_readItems_18 : decode cX3_readItems 18 = .ok (.getfield 24, 3) := by decide +kernel
theorem dX3_readItems_21 : decode cX3_readItems 21 = .ok (.ldc 122, 2) := by decide +kernel
theorem dX3_readItems_23 : decode cX3_readItems 23 = .ok (.invokevirtual 53, 3) := by decide +kernel
theorem dX3_readItems_26 : decode cX3_readItems 26 = .ok (.ifCond .eq 40, 3) := by decide +kernel
theorem dX3_readItems_29 : decode cX3_readItems 29 = .ok (.aload_n 0, 1) := by decide +kernel
theorem dX3_readItems_30 : decode cX3_readItems 30 = .ok (.invokevirtual 124, 3) := by decide +kernel
theorem dX3_readItems_33 : decode cX3_readItems 33 = .ok (.ifCond .eq 28, 3) := by decide +kernel
theorem dX3_readItems_36 : decode cX3_readItems 36 = .ok (.aload_n 0, 1) := by decide +kernel
theorem dX3_readItems_37 : decode cX3_readItems 37 = .ok (.invokevirtual 127, 3) := by decide +kernel
theorem dX3_readItems_40 : decode cX3_readItems 40 = .ok (.ifCond .eq 21, 3) := by decide +kernel
theorem dX3_readItems_43 : decode cX3_readItems 43 = .ok (.aload_n 0, 1) := by decide +kernel
theorem dX3_readItems_44 : decode cX3_readItems 44 = .ok (.invokevirtual 75, 3) := by decide +kernel
theorem dX3_readItems_47 : decode cX3_readItems 47 = .ok (.ifCond .eq 14, 3) := by decide +kernel
theorem dX3_readItems_50 : decode cX3_readItems 50 = .ok (.aload_n 0, 1) := by decide +kernel
theorem dX3_readItems_51 : decode cX3_readItems 51 = .ok (.invokevirtual 130, 3) := by decide +kernel
theorem dX3_readItems_54 : decode cX3_readItems 54 = .ok (.ifCond .eq 7, 3) := by decide +kernel
theorem dX3_readItems_57 : decode cX3_readItems 57 = .ok (.iconst 1, 1) := by decide +kernel
theorem dX3_readItems_58 : decode cX3_readItems 58 = .ok (.goto 4, 3) := by decide +kernel
theorem dX3_readItems_61 : decode cX3_readItems 61 = .ok (.iconst 0, 1) := by decide +kernel
theorem dX3_readItems_62 : decode cX3_readItems 62 = .ok (.istore_n 3, 1) := by decide +kernel
theorem dX3_readItems_63 : decode cX3_readItems 63 = .ok (.goto 71, 3) := by decide +kernel
theorem dX3_readItems_66 : decode cX3_readItems 66 = .ok (.aload_n 0, 1) := by decide +kernel
theorem dX3_readItems_67 : decode cX3_readItems 67 = .ok (.getfield 24, 3) := by decide +kernel
theorem dX3_readItems_70 : decode cX3_readItems 70 = .ok (.ldc 133, 2) := by decide +kernel
theorem dX3_readItems_72 : decode cX3_readItems 72 = .ok (.invokevirtual 53, 3) := by decide +kernel
theorem dX3_readItems_75 : decode cX3_readItems 75 = .ok (.ifCond .eq 26, 3) := by decide +kernel
theorem dX3_readItems_78 : decode cX3_readItems 78 = .ok (.aload_n 0, 1) := by decide +kernel
theorem dX3_readItems_79 : decode cX3_readItems 79 = .ok (.invokevirtual 124, 3) := by decide +kernel
theorem dX3_readItems_82 : decode cX3_readItems 82 = .ok (.ifCond .eq 14, 3) := by decide +kernel
theorem dX3_readItems_85 : decode cX3_readItems 85 = .ok (.aload_n 0, 1) := by decide +kernel
theorem dX3_readItems_86 : decode cX3_readItems 86 = .ok (.invokevirtual 75, 3) := by decide +kernel
theorem dX3_readItems_89 : decode cX3_readItems 89 = .ok (.ifCond .eq 7, 3) := by decide +kernel
theorem dX3_readItems_92 : decode cX3_readItems 92 = .ok (.iconst 1, 1) := by decide +kernel
theorem dX3_readItems_93 : decode cX3_readItems 93 = .ok (.goto 4, 3) := by decide +kernel
theorem dX3_readItems_96 : decode cX3_readItems 96 = .ok (.iconst 0, 1) := by decide +kernel
theorem dX3_readItems_97 : decode cX3_readItems 97 = .ok (.istore_n 3, 1) := by decide +kernel
theorem dX3_readItems_98 : decode cX3_readItems 98 = .ok (.goto 36, 3) := by decide +kernel
theorem dX3_readItems_101 : decode cX3_readItems 101 = .ok (.aload_n 0, 1) := by decide +kernel
theorem dX3_readItems_102 : decode cX3_readItems 102 = .ok (.getfield 24, 3) := by decide +kernel
theorem dX3_readItems_105 : decode cX3_readItems 105 = .ok (.ldc 135, 2) := by decide +kernel
theorem dX3_readItems_107 : decode cX3_readItems 107 = .ok (.invokevirtual 53, 3) := by decide +kernel
theorem dX3_readItems_110 : decode cX3_readItems 110 = .ok (.ifCond .eq 11, 3) := by decide +kernel
theorem dX3_readItems_113 : decode cX3_readItems 113 = .ok (.aload_n 0, 1) := by decide +kernel
theorem dX3_readItems_114 : decode cX3_readItems 114 = .ok (.invokevirtual 137, 3) := by decide +kernel
theorem dX3_readItems_117 : decode cX3_readItems 117 = .ok (.istore_n 3, 1) := by decide +kernel
theorem dX3_readItems_118 : decode cX3_readItems 118 = .ok (.goto 16, 3) := by decide +kernel
theorem dX3_readItems_121 : decode cX3_readItems 121 = .ok (.aload_n 0, 1) := by decide +kernel
theorem dX3_readItems_122 : decode cX3_readItems 122 = .ok (.iconst 1, 1) := by decide +kernel
theorem dX3_readItems_123 : decode cX3_readItems 123 = .ok (.aload_n 0, 1) := by decide +kernel
theorem dX3_readItems_124 : decode cX3_readItems 124 = .ok (.getfield 24, 3) := by decide +kernel
theorem dX3_readItems_127 : decode cX3_readItems 127 = .ok (.getfield 57, 3) := by decide +kernel
theorem dX3_readItems_130 : decode cX3_readItems 130 = .ok (.invokevirtual 60, 3) := by decide +kernel
theorem dX3_readItems_133 : decode cX3_readItems 133 = .ok (.istore_n 3, 1) := by decide +kernel
theorem dX3_readItems_134 : decode cX3_readItems 134 = .ok (.iload_n 3, 1) := by decide +kernel
theorem dX3_readItems_135 : decode cX3_readItems 135 = .ok (.ifCond .ne 5, 3) := by decide +kernel
theorem dX3_readItems_138 : decode cX3_readItems 138 = .ok (.iconst 0, 1) := by decide +kernel
theorem dX3_readItems_139 : decode cX3_readItems 139 = .ok (.ireturn, 1) := by decide +kernel
theorem dX3_readItems_140 : decode cX3_readItems 140 = .ok (.iinc 2 1, 3) := by decide +kernel
theorem dX3_readItems_143 : decode cX3_readItems 143 = .ok (.goto (-141), 3) := by decide +kernel
theorem dX3_readItems_146 : decode cX3_readItems 146 = .ok (.iconst 1, 1) := by decide +kernel
theorem dX3_readItems_147 : decode cX3_readItems 147 = .ok (.ireturn, 1) := by decide +kernel
theorem dX3_readMark_0 : decode cX3_readMark 0 = .ok (.aload_n 0, 1) := by decide +kernel
theorem dX3_readMark_1 : decode cX3_readMark 1 = .ok (.getfield 15, 3) := by decide +kernel
theorem dX3_readMark_4 : decode cX3_readMark 4 = .ok (.invokevirtual 140, 3) := by decide +kernel
theorem dX3_readMark_7 : decode cX3_readMark 7 = .ok (.ifCond .eq 16, 3) := by decide +kernel
theorem dX3_readMark_10 : decode cX3_readMark 10 = .ok (.aload_n 0, 1) := by decide +kernel
theorem dX3_readMark_11 : decode cX3_readMark 11 = .ok (.iconst 2, 1) := by decide +kernel
theorem dX3_readMark_12 : decode cX3_readMark 12 = .ok (.aload_n 0, 1) := by decide +kernel
theorem dX3_readMark_13 : decode cX3_readMark 13 = .ok (.getfield 24, 3) := by decide +kernel
theorem dX3_readMark_16 : decode cX3_readMark 16 = .ok (.getfield 57, 3) := by decide +kernel
theorem dX3_readMark_19 : decode cX3_readMark 19 = .ok (.invokevirtual 60, 3) := by decide +kernel
theorem dX3_readMark_22 : decode cX3_readMark 22 = .ok (.ireturn, 1) := by decide +kernel
theorem dX3_readMark_23 : decode cX3_readMark 23 = .ok (.aload_n 0, 1) := by decide +kernel
theorem dX3_readMark_24 : decode cX3_readMark 24 = .ok (.getfield 24, 3) := by decide +kernel
theorem dX3_readMark_27 : decode cX3_readMark 27 = .ok (.invokevirtual 64, 3) := by decide +kernel
theorem dX3_readMark_30 : decode cX3_readMark 30 = .ok (.aload_n 0, 1) := by decide +kernel
theorem dX3_readMark_31 : decode cX3_readMark 31 = .ok (.iconst 1, 1) := by decide +kernel
theorem dX3_readMark_32 : decode cX3_readMark 32 = .ok (.sipush 999, 3) := by decide +kernel
theorem dX3_readMark_35 : decode cX3_readMark 35 = .ok (.invokevirtual 67, 3) := by decide +kernel
theorem dX3_readMark_38 : decode cX3_readMark 38 = .ok (.ifCond .ne 5, 3) := by decide +kernel
theorem dX3_readMark_41 : decode cX3_readMark 41 = .ok (.iconst 0, 1) := by decide +kernel
theorem dX3_readMark_42 : decode cX3_readMark 42 = .ok (.ireturn, 1) := by decide +kernel
theorem dX3_readMark_43 : decode cX3_readMark 43 = .ok (.aload_n 0, 1) := by decide +kernel
theorem dX3_readMark_44 : decode cX3_readMark 44 = .ok (.getfield 70, 3) := by decide +kernel
theorem dX3_readMark_47 : decode cX3_readMark 47 = .ok (.aload_n 0, 1) := by decide +kernel
theorem dX3_readMark_48 : decode cX3_readMark 48 = .ok (.getfield 15, 3) := by decide +kernel
theorem dX3_readMark_51 : decode cX3_readMark 51 = .ok (.invokevirtual 143, 3) := by decide +kernel
theorem dX3_readMark_54 : decode cX3_readMark 54 = .ok (.if_icmp .gt 13, 3) := by decide +kernel
theorem dX3_readMark_57 : decode cX3_readMark 57 = .ok (.aload_n 0, 1) := by decide +kernel
theorem dX3_readMark_58 : decode cX3_readMark 58 = .ok (.iconst 3, 1) := by decide +kernel
theorem dX3_readMark_59 : decode cX3_readMark 59 = .ok (.aload_n 0, 1) := by decide +kernel
theorem dX3_readMark_60 : decode cX3_readMark 60 = .ok (.getfield 84, 3) := by decide +kernel
theorem dX3_readMark_63 : decode cX3_readMark 63 = .ok (.invokevirtual 60, 3) := by decide +kernel
theorem dX3_readMark_66 : decode cX3_readMark 66 = .ok (.ireturn, 1) := by decide +kernel
theorem dX3_readMark_67 : decode cX3_readMark 67 = .ok (.aload_n 0, 1) := by decide +kernel
theorem dX3_readMark_68 : decode cX3_readMark 68 = .ok (.getfield 15, 3) := by decide +kernel
theorem dX3_readMark_71 : decode cX3_readMark 71 = .ok (.aload_n 0, 1) := by decide +kernel
theorem dX3_readMark_72 : decode cX3_readMark 72 = .ok (.getfield 70, 3) := by decide +kernel
theorem dX3_readMark_75 : decode cX3_readMark 75 = .ok (.invokevirtual 147, 3) := by decide +kernel
theorem dX3_readMark_78 : decode cX3_readMark 78 = .ok (.iconst 1, 1) := by decide +kernel
theorem dX3_readMark_79 : decode cX3_readMark 79 = .ok (.ireturn, 1) := by decide +kernel
theorem dX3_readStrings_0 : decode cX3_readStrings 0 = .ok (.aload_n 0, 1) := by decide +kernel
theorem dX3_readStrings_1 : decode cX3_readStrings 1 = .ok (.getfield 24, 3) := by decide +kernel
theorem dX3_readStrings_4 : decode cX3_readStrings 4 = .ok (.invokevirtual 150, 3) := by decide +kernel
theorem dX3_readStrings_7 : decode cX3_readStrings 7 = .ok (.istore_n 1, 1) := by decide +kernel
theorem dX3_readStrings_8 : decode cX3_readStrings 8 = .ok (.aload_n 0, 1) := by decide +kernel
theorem dX3_readStrings_9 : decode cX3_readStrings 9 = .ok (.getfield 24, 3) := by decide +kernel
theorem dX3_readStrings_12 : decode cX3_readStrings 12 = .ok (.invokevirtual 153, 3) := by decide +kernel
theorem dX3_readStrings_15 : decode cX3_readStrings 15 = .ok (.istore_n 2, 1) := by decide +kernel
theorem dX3_readStrings_16 : decode cX3_readStrings 16 = .ok (.aload_n 0, 1) := by decide +kernel
theorem dX3_readStrings_17 : decode cX3_readStrings 17 = .ok (.getfield 24, 3) := by decide +kernel
theorem dX3_readStrings_20 : decode cX3_readStrings 20 = .ok (.getfield 78, 3) := by decide +kernel
theorem dX3_readStrings_23 : decode cX3_readStrings 23 = .ok (.iconst 4, 1) := by decide +kernel
theorem dX3_readStrings_24 : decode cX3_readStrings 24 = .ok (.if_icmp .ne 18, 3) := by decide +kernel
theorem dX3_readStrings_27 : decode cX3_readStrings 27 = .ok (.aload_n 0, 1) := by decide +kernel
theorem dX3_readStrings_28 : decode cX3_readStrings 28 = .ok (.getfield 24, 3) := by decide +kernel
theorem dX3_readStrings_31 : decode cX3_readStrings 31 = .ok (.getfield 156, 3) := by decide +kernel
theorem dX3_readStrings_34 : decode cX3_readStrings 34 = .ok (.iload_n 1, 1) := by decide +kernel
theorem dX3_readStrings_35 : decode cX3_readStrings 35 = .ok (.iload_n 2, 1) := by decide +kernel
theorem dX3_readStrings_36 : decode cX3_readStrings 36 = .ok (.invokestatic 160, 3) := by decide +kernel
theorem dX3_readStrings_39 : decode cX3_readStrings 39 = .ok (.ifCond .ne 16, 3) := by decide +kernel
theorem dX3_readStrings_42 : decode cX3_readStrings 42 = .ok (.aload_n 0, 1) := by decide +kernel
theorem dX3_readStrings_43 : decode cX3_readStrings 43 = .ok (.iconst 1, 1) := by decide +kernel
theorem dX3_readStrings_44 : decode cX3_readStrings 44 = .ok (.aload_n 0, 1) := by decide +kernel
theorem dX3_readStrings_45 : decode cX3_readStrings 45 = .ok (.getfield 24, 3) := by decide +kernel
theorem dX3_readStrings_48 : decode cX3_readStrings 48 = .ok (.getfield 57, 3) := by decide +kernel
theorem dX3_readStrings_51 : decode cX3_readStrings 51 = .ok (.invokevirtual 60, 3) := by decide +kernel
theorem dX3_readStrings_54 : decode cX3_readStrings 54 = .ok (.ireturn, 1) := by decide +kernel
theorem dX3_readStrings_55 : decode cX3_readStrings 55 = .ok (.aload_n 0, 1) := by decide +kernel
theorem dX3_readStrings_56 : decode cX3_readStrings 56 = .ok (.getfield 15, 3) := by decide +kernel
theorem dX3_readStrings_59 : decode cX3_readStrings 59 = .ok (.iload_n 1, 1) := by decide +kernel
theorem dX3_readStrings_60 : decode cX3_readStrings 60 = .ok (.iload_n 2, 1) := by decide +kernel
theorem dX3_readStrings_61 : decode cX3_readStrings 61 = .ok (.invokevirtual 166, 3) := by decide +kernel
theorem dX3_readStrings_64 : decode cX3_readStrings 64 = .ok (.aload_n 0, 1) := by decide +kernel
theorem dX3_readStrings_65 : decode cX3_readStrings 65 = .ok (.getfield 24, 3) := by decide +kernel
theorem dX3_readStrings_68 : decode cX3_readStrings 68 = .ok (.invokevirtual 64, 3) := by decide +kernel
theorem dX3_readStrings_71 : decode cX3_readStrings 71 = .ok (.iconst 1, 1) := by decide +kernel
theorem dX3_readStrings_72 : decode cX3_readStrings 72 = .ok (.istore_n 3, 1) := by decide +kernel
theorem dX3_readStrings_73 : decode cX3_readStrings 73 = .ok (.iload_n 3, 1) := by decide +kernel
theorem dX3_readStrings_74 : decode cX3_readStrings 74 = .ok (.iconst 4, 1) := by decide +kernel
theorem dX3_readStrings_75 : decode cX3_readStrings 75 = .ok (.if_icmp .gt 30, 3) := by decide +kernel
theorem dX3_readStrings_78 : decode cX3_readStrings 78 = .ok (.aload_n 0, 1) := by decide +kernel
theorem dX3_readStrings_79 : decode cX3_readStrings 79 = .ok (.getfield 24, 3) := by decide +kernel
theorem dX3_readStrings_82 : decode cX3_readStrings 82 = .ok (.getfield 78, 3) := by decide +kernel
theorem dX3_readStrings_85 : decode cX3_readStrings 85 = .ok (.iconst 4, 1) := by decide +kernel
theorem dX3_readStrings_86 : decode cX3_readStrings 86 = .ok (.if_icmp .ne 19, 3) := by decide +kernel
theorem dX3_readStrings_89 : decode cX3_readStrings 89 = .ok (.aload_n 0, 1) := by decide +kernel
theorem dX3_readStrings_90 : decode cX3_readStrings 90 = .ok (.iload_n 3, 1) := by decide +kernel
theorem dX3_readStrings_91 : decode cX3_readStrings 91 = .ok (.invokevirtual 170, 3) := by decide +kernel
theorem dX3_readStrings_94 : decode cX3_readStrings 94 = .ok (.ifCond .ne 5, 3) := by decide +kernel
theorem dX3_readStrings_97 : decode cX3_readStrings 97 = .ok (.iconst 0, 1) := by decide +kernel
theorem dX3_readStrings_98 : decode cX3_readStrings 98 = .ok (.ireturn, 1) := by decide +kernel
theorem dX3_readStrings_99 : decode cX3_readStrings 99 = .ok (.iinc 3 1, 3) := by decide +kernel
theorem dX3_readStrings_102 : decode cX3_readStrings 102 = .ok (.goto (-29), 3) := by decide +kernel
theorem dX3_readStrings_105 : decode cX3_readStrings 105 = .ok (.iconst 1, 1) := by decide +kernel
theorem dX3_readStrings_106 : decode cX3_readStrings 106 = .ok (.ireturn, 1) := by decide +kernel
theorem dX3_readFurtherString_0 : decode cX3_readFurtherString 0 = .ok (.aload_n 0, 1) := by decide +kernel
theorem dX3_readFurtherString_1 : decode cX3_readFurtherString 1 = .ok (.getfield 24, 3) := by decide +kernel
theorem dX3_readFurtherString_4 : decode cX3_readFurtherString 4 = .ok (.invokevirtual 150, 3) := by decide +kernel
theorem dX3_readFurtherString_7 : decode cX3_readFurtherString 7 = .ok (.istore_n 2, 1) := by decide +kernel
theorem dX3_readFurtherString_8 : decode cX3_readFurtherString 8 = .ok (.aload_n 0, 1) := by decide +kernel
theorem dX3_readFurtherString_9 : decode cX3_readFurtherString 9 = .ok (.getfield 24, 3) := by decide +kernel
theorem dX3_readFurtherString_12 : decode cX3_readFurtherString 12 = .ok (.invokevirtual 153, 3) := by decide +kernel
theorem dX3_readFurtherString_15 : decode cX3_readFurtherString 15 = .ok (.istore_n 3, 1) := by decide +kernel
theorem dX3_readFurtherString_16 : decode cX3_readFurtherString 16 = .ok (.iload_n 3, 1) := by decide +kernel
theorem dX3_readFurtherString_17 : decode cX3_readFurtherString 17 = .ok (.ifCond .le 31, 3) := by decide +kernel
theorem dX3_readFurtherString_20 : decode cX3_readFurtherString 20 = .ok (.aload_n 0, 1) := by decide +kernel
theorem dX3_readFurtherString_21 : decode cX3_readFurtherString 21 = .ok (.getfield 24, 3) := by decide +kernel
theorem dX3_readFurtherString_24 : decode cX3_readFurtherString 24 = .ok (.getfield 156, 3) := by decide +kernel
theorem dX3_readFurtherString_27 : decode cX3_readFurtherString 27 = .ok (.iload_n 2, 1) := by decide +kernel
theorem dX3_readFurtherString_28 : decode cX3_readFurtherString 28 = .ok (.iload_n 3, 1) := by decide +kernel
theorem dX3_readFurtherString_29 : decode cX3_readFurtherString 29 = .ok (.invokestatic 160, 3) := by decide +kernel
theorem dX3_readFurtherString_32 : decode cX3_readFurtherString 32 = .ok (.ifCond .ne 16, 3) := by decide +kernel
theorem dX3_readFurtherString_35 : decode cX3_readFurtherString 35 = .ok (.aload_n 0, 1) := by decide +kernel
theorem dX3_readFurtherString_36 : decode cX3_readFurtherString 36 = .ok (.iconst 1, 1) := by decide +kernel
theorem dX3_readFurtherString_37 : decode cX3_readFurtherString 37 = .ok (.aload_n 0, 1) := by decide +kernel
theorem dX3_readFurtherString_38 : decode cX3_readFurtherString 38 = .ok (.getfield 24, 3) := by decide +kernel
theorem dX3_readFurtherString_41 : decode cX3_readFurtherString 41 = .ok (.getfield 57, 3) := by decide +kernel
theorem dX3_readFurtherString_44 : decode cX3_readFurtherString 44 = .ok (.invokevirtual 60, 3) := by decide +kernel
theorem dX3_readFurtherString_47 : decode cX3_readFurtherString 47 = .ok (.ireturn, 1) := by decide +kernel
theorem dX3_readFurtherString_48 : decode cX3_readFurtherString 48 = .ok (.aload_n 0, 1) := by decide +kernel
theorem dX3_readFurtherString_49 : decode cX3_readFurtherString 49 = .ok (.getfield 15, 3) := by decide +kernel
theorem dX3_readFurtherString_52 : decode cX3_readFurtherString 52 = .ok (.iload_n 1, 1) := by decide +kernel
theorem dX3_readFurtherString_53 : decode cX3_readFurtherString 53 = .ok (.invokevirtual 173, 3) := by decide +kernel
theorem dX3_readFurtherString_56 : decode cX3_readFurtherString 56 = .ok (.ifCond .ne 16, 3) := by decide +kernel
theorem dX3_readFurtherString_59 : decode cX3_readFurtherString 59 = .ok (.aload_n 0, 1) := by decide +kernel
theorem dX3_readFurtherString_60 : decode cX3_readFurtherString 60 = .ok (.iconst 2, 1) := by decide +kernel
theorem dX3_readFurtherString_61 : decode cX3_readFurtherString 61 = .ok (.aload_n 0, 1) := by decide +kernel
theorem dX3_readFurtherString_62 : decode cX3_readFurtherString 62 = .ok (.getfield 24, 3) := by decide +kernel
theorem dX3_readFurtherString_65 : decode cX3_readFurtherString 65 = .ok (.getfield 57, 3) := by decide +kernel
theorem dX3_readFurtherString_68 : decode cX3_readFurtherString 68 = .ok (.invokevirtual 60, 3) := by decide +kernel
theorem dX3_readFurtherString_71 : decode cX3_readFurtherString 71 = .ok (.ireturn, 1) := by decide +kernel
theorem dX3_readFurtherString_72 : decode cX3_readFurtherString 72 = .ok (.iload_n 3, 1) := by decide +kernel
theorem dX3_readFurtherString_73 : decode cX3_readFurtherString 73 = .ok (.ifCond .le 13, 3) := by decide +kernel
theorem dX3_readFurtherString_76 : decode cX3_readFurtherString 76 = .ok (.aload_n 0, 1) := by decide +kernel
theorem dX3_readFurtherString_77 : decode cX3_readFurtherString 77 = .ok (.getfield 15, 3) := by decide +kernel
theorem dX3_readFurtherString_80 : decode cX3_readFurtherString 80 = .ok (.iload_n 1, 1) := by decide +kernel
theorem dX3_readFurtherString_81 : decode cX3_readFurtherString 81 = .ok (.iload_n 2, 1) := by decide +kernel
theorem dX3_readFurtherString_82 : decode cX3_readFurtherString 82 = .ok (.iload_n 3, 1) := by decide +kernel
theorem dX3_readFurtherString_83 : decode cX3_readFurtherString 83 = .ok (.invokevirtual 176, 3) := by decide +kernel
theorem dX3_readFurtherString_86 : decode cX3_readFurtherString 86 = .ok (.aload_n 0, 1) := by decide +kernel
theorem dX3_readFurtherString_87 : decode cX3_readFurtherString 87 = .ok (.getfield 24, 3) := by decide +kernel
theorem dX3_readFurtherString_90 : decode cX3_readFurtherString 90 = .ok (.invokevirtual 64, 3) := by decide +kernel
theorem dX3_readFurtherString_93 : decode cX3_readFurtherString 93 = .ok (.iconst 1, 1) := by decide +kernel
theorem dX3_readFurtherString_94 : decode cX3_readFurtherString 94 = .ok (.ireturn, 1) := by decide +kernel
theorem dX3_stringsFit_0 : decode cX3_stringsFit 0 = .ok (.aload_n 0, 1) := by decide +kernel
theorem dX3_stringsFit_1 : decode cX3_stringsFit 1 = .ok (.getfield 15, 3) := by decide +kernel
theorem dX3_stringsFit_4 : decode cX3_stringsFit 4 = .ok (.getfield 180, 3) := by decide +kernel
theorem dX3_stringsFit_7 : decode cX3_stringsFit 7 = .ok (.iconst 1, 1) := by decide +kernel
theorem dX3_stringsFit_8 : decode cX3_stringsFit 8 = .ok (.isub, 1) := by decide +kernel
theorem dX3_stringsFit_9 : decode cX3_stringsFit 9 = .ok (.istore_n 1, 1) := by decide +kernel
theorem dX3_stringsFit_10 : decode cX3_stringsFit 10 = .ok (.iconst (-1), 1) := by decide +kernel
theorem dX3_stringsFit_11 : decode cX3_stringsFit 11 = .ok (.istore_n 2, 1) := by decide +kernel
theorem dX3_stringsFit_12 : decode cX3_stringsFit 12 = .ok (.iconst 0, 1) := by decide +kernel
theorem dX3_stringsFit_13 : decode cX3_stringsFit 13 = .ok (.istore_n 3, 1) := by decide +kernel
theorem dX3_stringsFit_14 : decode cX3_stringsFit 14 = .ok (.iload_n 3, 1) := by decide +kernel
theorem dX3_stringsFit_15 : decode cX3_stringsFit 15 = .ok (.aload_n 0, 1) := by decide +kernel
theorem dX3_stringsFit_16 : decode cX3_stringsFit 16 = .ok (.getfield 15, 3) := by decide +kernel
theorem dX3_stringsFit_19 : decode cX3_stringsFit 19 = .ok (.getfield 73, 3) := by decide +kernel
theorem dX3_stringsFit_22 : decode cX3_stringsFit 22 = .ok (.if_icmp .ge 76, 3) := by decide +kernel
theorem dX3_stringsFit_25 : decode cX3_stringsFit 25 = .ok (.aload_n 0, 1) := by decide +kernel
theorem dX3_stringsFit_26 : decode cX3_stringsFit 26 = .ok (.getfield 15, 3) := by decide +kernel
theorem dX3_stringsFit_29 : decode cX3_stringsFit 29 = .ok (.iload_n 1, 1) := by decide +kernel
theorem dX3_stringsFit_30 : decode cX3_stringsFit 30 = .ok (.iload_n 3, 1) := by decide +kernel
theorem dX3_stringsFit_31 : decode cX3_stringsFit 31 = .ok (.invokevirtual 183, 3) := by decide +kernel
theorem dX3_stringsFit_34 : decode cX3_stringsFit 34 = .ok (.istore 4, 2) := by decide +kernel
theorem dX3_stringsFit_36 : decode cX3_stringsFit 36 = .ok (.aload_n 0, 1) := by decide +kernel
theorem dX3_stringsFit_37 : decode cX3_stringsFit 37 = .ok (.getfield 15, 3) := by decide +kernel
theorem dX3_stringsFit_40 : decode cX3_stringsFit 40 = .ok (.iload_n 1, 1) := by decide +kernel
theorem dX3_stringsFit_41 : decode cX3_stringsFit 41 = .ok (.iload_n 3, 1) := by decide +kernel
theorem dX3_stringsFit_42 : decode cX3_stringsFit 42 = .ok (.invokevirtual 186, 3) := by decide +kernel
theorem dX3_stringsFit_45 : decode cX3_stringsFit 45 = .ok (.istore 5, 2) := by decide +kernel
theorem dX3_stringsFit_47 : decode cX3_stringsFit 47 = .ok (.iload 4, 2) := by decide +kernel
theorem dX3_stringsFit_49 : decode cX3_stringsFit 49 = .ok (.iconst 1, 1) := by decide +kernel
theorem dX3_stringsFit_50 : decode cX3_stringsFit 50 = .ok (.isub, 1) := by decide +kernel
theorem dX3_stringsFit_51 : decode cX3_stringsFit 51 = .ok (.istore 6, 2) := by decide +kernel
theorem dX3_stringsFit_53 : decode cX3_stringsFit 53 = .ok (.aload_n 0, 1) := by decide +kernel
theorem dX3_stringsFit_54 : decode cX3_stringsFit 54 = .ok (.getfield 24, 3) := by decide +kernel
theorem dX3_stringsFit_57 : decode cX3_stringsFit 57 = .ok (.getfield 156, 3) := by decide +kernel
theorem dX3_stringsFit_60 : decode cX3_stringsFit 60 = .ok (.iload 4, 2) := by decide +kernel
theorem dX3_stringsFit_62 : decode cX3_stringsFit 62 = .ok (.iload 5, 2) := by decide +kernel
theorem dX3_stringsFit_64 : decode cX3_stringsFit 64 = .ok (.aload_n 0, 1) := by decide +kernel
theorem dX3_stringsFit_65 : decode cX3_stringsFit 65 = .ok (.getfield 15, 3) := by decide +kernel
theorem dX3_stringsFit_68 : decode cX3_stringsFit 68 = .ok (.iload_n 3, 1) := by decide +kernel
theorem dX3_stringsFit_69 : decode cX3_stringsFit 69 = .ok (.invokevirtual 188, 3) := by decide +kernel
theorem dX3_stringsFit_72 : decode cX3_stringsFit 72 = .ok (.invokestatic 192, 3) := by decide +kernel
theorem dX3_stringsFit_75 : decode cX3_stringsFit 75 = .ok (.ifCond .ne 17, 3) := by decide +kernel
theorem dX3_stringsFit_78 : decode cX3_stringsFit 78 = .ok (.iload_n 2, 1) := by decide +kernel
theorem dX3_stringsFit_79 : decode cX3_stringsFit 79 = .ok (.iconst (-1), 1) := by decide +kernel
theorem dX3_stringsFit_80 : decode cX3_stringsFit 80 = .ok (.if_icmp .eq 9, 3) := by decide +kernel
theorem dX3_stringsFit_83 : decode cX3_stringsFit 83 = .ok (.iload 6, 2) := by decide +kernel
theorem dX3_stringsFit_85 : decode cX3_stringsFit 85 = .ok (.iload_n 2, 1) := by decide +kernel
theorem dX3_stringsFit_86 : decode cX3_stringsFit 86 = .ok (.if_icmp .ge 6, 3) := by decide +kernel
theorem dX3_stringsFit_89 : decode cX3_stringsFit 89 = .ok (.iload 6, 2) := by decide +kernel
theorem dX3_stringsFit_91 : decode cX3_stringsFit 91 = .ok (.istore_n 2, 1) := by decide +kernel
theorem dX3_stringsFit_92 : decode cX3_stringsFit 92 = .ok (.iinc 3 1, 3) := by decide +kernel
theorem dX3_stringsFit_95 : decode cX3_stringsFit 95 = .ok (.goto (-81), 3) := by decide +kernel
theorem dX3_stringsFit_98 : decode cX3_stringsFit 98 = .ok (.iload_n 2, 1) := by decide +kernel
theorem dX3_stringsFit_99 : decode cX3_stringsFit 99 = .ok (.iconst (-1), 1) := by decide +kernel
theorem dX3_stringsFit_100 : decode cX3_stringsFit 100 = .ok (.if_icmp .eq 12, 3) := by decide +kernel
theorem dX3_stringsFit_103 : decode cX3_stringsFit 103 = .ok (.aload_n 0, 1) := by decide +kernel
theorem dX3_stringsFit_104 : decode cX3_stringsFit 104 = .ok (.iconst 4, 1) := by decide +kernel
theorem dX3_stringsFit_105 : decode cX3_stringsFit 105 = .ok (.iload_n 2, 1) := by decide +kernel
theorem dX3_stringsFit_106 : decode cX3_stringsFit 106 = .ok (.invokevirtual 60, 3) := by decide +kernel
theorem dX3_stringsFit_109 : decode cX3_stringsFit 109 = .ok (.ifCond .eq 7, 3) := by decide +kernel
theorem dX3_stringsFit_112 : decode cX3_stringsFit 112 = .ok (.iconst 1, 1) := by decide +kernel
theorem dX3_stringsFit_113 : decode cX3_stringsFit 113 = .ok (.goto 4, 3) := by decide +kernel
theorem dX3_stringsFit_116 : decode cX3_stringsFit 116 = .ok (.iconst 0, 1) := by decide +kernel
theorem dX3_stringsFit_117 : decode cX3_stringsFit 117 = .ok (.ireturn, 1) := by decide +kernel
theorem dX3_readCut_0 : decode cX3_readCut 0 = .ok (.aload_n 0, 1) := by decide +kernel
theorem dX3_readCut_1 : decode cX3_readCut 1 = .ok (.getfield 15, 3) := by decide +kernel
theorem dX3_readCut_4 : decode cX3_readCut 4 = .ok (.invokevirtual 196, 3) := by decide +kernel
theorem dX3_readCut_7 : decode cX3_readCut 7 = .ok (.ifCond .eq 16, 3) := by decide +kernel
theorem dX3_readCut_10 : decode cX3_readCut 10 = .ok (.aload_n 0, 1) := by decide +kernel
theorem dX3_readCut_11 : decode cX3_readCut 11 = .ok (.iconst 2, 1) := by decide +kernel
theorem dX3_readCut_12 : decode cX3_readCut 12 = .ok (.aload_n 0, 1) := by decide +kernel
theorem dX3_readCut_13 : decode cX3_readCut 13 = .ok (.getfield 24, 3) := by decide +kernel
theorem dX3_readCut_16 : decode cX3_readCut 16 = .ok (.getfield 57, 3) := by decide +kernel
theorem dX3_readCut_19 : decode cX3_readCut 19 = .ok (.invokevirtual 60, 3) := by decide +kernel
theorem dX3_readCut_22 : decode cX3_readCut 22 = .ok (.ireturn, 1) := by decide +kernel
theorem dX3_readCut_23 : decode cX3_readCut 23 = .ok (.aload_n 0, 1) := by decide +kernel
theorem dX3_readCut_24 : decode cX3_readCut 24 = .ok (.getfield 24, 3) := by decide +kernel
theorem dX3_readCut_27 : decode cX3_readCut 27 = .ok (.invokevirtual 64, 3) := by decide +kernel
theorem dX3_readCut_30 : decode cX3_readCut 30 = .ok (.aload_n 0, 1) := by decide +kernel
theorem dX3_readCut_31 : decode cX3_readCut 31 = .ok (.getfield 24, 3) := by decide +kernel
theorem dX3_readCut_34 : decode cX3_readCut 34 = .ok (.getfield 78, 3) := by decide +kernel
theorem dX3_readCut_37 : decode cX3_readCut 37 = .ok (.iconst 2, 1) := by decide +kernel
theorem dX3_readCut_38 : decode cX3_readCut 38 = .ok (.if_icmp .eq 16, 3) := by decide +kernel
theorem dX3_readCut_41 : decode cX3_readCut 41 = .ok (.aload_n 0, 1) := by decide +kernel
theorem dX3_readCut_42 : decode cX3_readCut 42 = .ok (.iconst 1, 1) := by decide +kernel
theorem dX3_readCut_43 : decode cX3_readCut 43 = .ok (.aload_n 0, 1) := by decide +kernel
theorem dX3_readCut_44 : decode cX3_readCut 44 = .ok (.getfield 24, 3) := by decide +kernel
theorem dX3_readCut_47 : decode cX3_readCut 47 = .ok (.getfield 57, 3) := by decide +kernel
theorem dX3_readCut_50 : decode cX3_readCut 50 = .ok (.invokevirtual 60, 3) := by decide +kernel
theorem dX3_readCut_53 : decode cX3_readCut 53 = .ok (.ireturn, 1) := by decide +kernel
theorem dX3_readCut_54 : decode cX3_readCut 54 = .ok (.aload_n 0, 1) := by decide +kernel
theorem dX3_readCut_55 : decode cX3_readCut 55 = .ok (.getfield 24, 3) := by decide +kernel
theorem dX3_readCut_58 : decode cX3_readCut 58 = .ok (.getfield 81, 3) := by decide +kernel
theorem dX3_readCut_61 : decode cX3_readCut 61 = .ok (.istore_n 1, 1) := by decide +kernel
theorem dX3_readCut_62 : decode cX3_readCut 62 = .ok (.aload_n 0, 1) := by decide +kernel
theorem dX3_readCut_63 : decode cX3_readCut 63 = .ok (.getfield 15, 3) := by decide +kernel
theorem dX3_readCut_66 : decode cX3_readCut 66 = .ok (.iload_n 1, 1) := by decide +kernel
theorem dX3_readCut_67 : decode cX3_readCut 67 = .ok (.invokevirtual 199, 3) := by decide +kernel
theorem dX3_readCut_70 : decode cX3_readCut 70 = .ok (.ifCond .eq 16, 3) := by decide +kernel
theorem dX3_readCut_73 : decode cX3_readCut 73 = .ok (.aload_n 0, 1) := by decide +kernel
theorem dX3_readCut_74 : decode cX3_readCut 74 = .ok (.iconst 3, 1) := by decide +kernel
theorem dX3_readCut_75 : decode cX3_readCut 75 = .ok (.aload_n 0, 1) := by decide +kernel
theorem dX3_readCut_76 : decode cX3_readCut 76 = .ok (.getfield 24, 3) := by decide +kernel
theorem dX3_readCut_79 : decode cX3_readCut 79 = .ok (.getfield 57, 3) := by decide +kernel
theorem dX3_readCut_82 : decode cX3_readCut 82 = .ok (.invokevirtual 60, 3) := by decide +kernel
theorem dX3_readCut_85 : decode cX3_readCut 85 = .ok (.ireturn, 1) := by decide +kernel
theorem dX3_readCut_86 : decode cX3_readCut 86 = .ok (.aload_n 0, 1) := by decide +kernel
theorem dX3_readCut_87 : decode cX3_readCut 87 = .ok (.getfield 24, 3) := by decide +kernel
theorem dX3_readCut_90 : decode cX3_readCut 90 = .ok (.invokevirtual 64, 3) := by decide +kernel
theorem dX3_readCut_93 : decode cX3_readCut 93 = .ok (.aload_n 0, 1) := by decide +kernel
theorem dX3_readCut_94 : decode cX3_readCut 94 = .ok (.iconst 1, 1) := by decide +kernel
theorem dX3_readCut_95 : decode cX3_readCut 95 = .ok (.sipush 999, 3) := by decide +kernel
theorem dX3_readCut_98 : decode cX3_readCut 98 = .ok (.invokevirtual 67, 3) := by decide +kernel
theorem dX3_readCut_101 : decode cX3_readCut 101 = .ok (.ifCond .ne 5, 3) := by decide +kernel
theorem dX3_readCut_104 : decode cX3_readCut 104 = .ok (.iconst 0, 1) := by decide +kernel
theorem dX3_readCut_105 : decode cX3_readCut 105 = .ok (.ireturn, 1) := by decide +kernel
theorem dX3_readCut_106 : decode cX3_readCut 106 = .ok (.aload_n 0, 1) := by decide +kernel
theorem dX3_readCut_107 : decode cX3_readCut 107 = .ok (.getfield 70, 3) := by decide +kernel
theorem dX3_readCut_110 : decode cX3_readCut 110 = .ok (.istore_n 2, 1) := by decide +kernel
theorem dX3_readCut_111 : decode cX3_readCut 111 = .ok (.aload_n 0, 1) := by decide +kernel
theorem dX3_readCut_112 : decode cX3_readCut 112 = .ok (.iconst 1, 1) := by decide +kernel
theorem dX3_readCut_113 : decode cX3_readCut 113 = .ok (.sipush 999, 3) := by decide +kernel
theorem dX3_readCut_116 : decode cX3_readCut 116 = .ok (.invokevirtual 67, 3) := by decide +kernel
theorem dX3_readCut_119 : decode cX3_readCut 119 = .ok (.ifCond .ne 5, 3) := by decide +kernel
theorem dX3_readCut_122 : decode cX3_readCut 122 = .ok (.iconst 0, 1) := by decide +kernel
theorem dX3_readCut_123 : decode cX3_readCut 123 = .ok (.ireturn, 1) := by decide +kernel
theorem dX3_readCut_124 : decode cX3_readCut 124 = .ok (.aload_n 0, 1) := by decide +kernel
theorem dX3_readCut_125 : decode cX3_readCut 125 = .ok (.getfield 70, 3) := by decide +kernel
theorem dX3_readCut_128 : decode cX3_readCut 128 = .ok (.iload_n 2, 1) := by decide +kernel
theorem dX3_readCut_129 : decode cX3_readCut 129 = .ok (.if_icmp .gt 13, 3) := by decide +kernel
theorem dX3_readCut_132 : decode cX3_readCut 132 = .ok (.aload_n 0, 1) := by decide +kernel
theorem dX3_readCut_133 : decode cX3_readCut 133 = .ok (.iconst 3, 1) := by decide +kernel
theorem dX3_readCut_134 : decode cX3_readCut 134 = .ok (.aload_n 0, 1) := by decide +kernel
theorem dX3_readCut_135 : decode cX3_readCut 135 = .ok (.getfield 84, 3) := by decide +kernel
theorem dX3_readCut_138 : decode cX3_readCut 138 = .ok (.invokevirtual 60, 3) := by decide +kernel
theorem dX3_readCut_141 : decode cX3_readCut 141 = .ok (.ireturn, 1) := by decide +kernel
theorem dX3_readCut_142 : decode cX3_readCut 142 = .ok (.aload_n 0, 1) := by decide +kernel
theorem dX3_readCut_143 : decode cX3_readCut 143 = .ok (.getfield 15, 3) := by decide +kernel
theorem dX3_readCut_146 : decode cX3_readCut 146 = .ok (.iload_n 1, 1) := by decide +kernel
theorem dX3_readCut_147 : decode cX3_readCut 147 = .ok (.iload_n 2, 1) := by decide +kernel
theorem dX3_readCut_148 : decode cX3_readCut 148 = .ok (.aload_n 0, 1) := by decide +kernel
theorem dX3_readCut_149 : decode cX3_readCut 149 = .ok (.getfield 70, 3) := by decide +kernel
theorem dX3_readCut_152 : decode cX3_readCut 152 = .ok (.invokevirtual 202, 3) := by decide +kernel
theorem dX3_readCut_155 : decode cX3_readCut 155 = .ok (.aload_n 0, 1) := by decide +kernel
theorem dX3_readCut_156 : decode cX3_readCut 156 = .ok (.invokevirtual 75, 3) := by decide +kernel
theorem dX3_readCut_159 : decode cX3_readCut 159 = .ok (.ireturn, 1) := by decide +kernel
theorem dX4_init_0 : decode cX4_init 0 = .ok (.aload_n 0, 1) := by decide +kernel
theorem dX4_init_1 : decode cX4_init 1 = .ok (.invokespecial 3, 3) := by decide +kernel
theorem dX4_init_4 : decode cX4_init 4 = .ok (.aload_n 0, 1) := by decide +kernel
theorem dX4_init_5 : decode cX4_init 5 = .ok (.aload_n 1, 1) := by decide +kernel
theorem dX4_init_6 : decode cX4_init 6 = .ok (.putfield 9, 3) := by decide +kernel
theorem dX4_init_9 : decode cX4_init 9 = .ok (.return_, 1) := by decide +kernel
theorem dX4_open_0 : decode cX4_open 0 = .ok (.aload_n 0, 1) := by decide +kernel
theorem dX4_open_1 : decode cX4_open 1 = .ok (.aload_n 1, 1) := by decide +kernel
theorem dX4_open_2 : decode cX4_open 2 = .ok (.putfield 9, 3) := by decide +kernel
theorem dX4_open_5 : decode cX4_open 5 = .ok (.aload_n 0, 1) := by decide +kernel
theorem dX4_open_6 : decode cX4_open 6 = .ok (.iconst 0, 1) := by decide +kernel
theorem dX4_open_7 : decode cX4_open 7 = .ok (.iload_n 2, 1) := by decide +kernel
theorem dX4_open_8 : decode cX4_open 8 = .ok (.aload_n 1, 1) := by decide +kernel
theorem dX4_open_9 : decode cX4_open 9 = .ok (.arraylength, 1) := by decide +kernel
theorem dX4_open_10 : decode cX4_open 10 = .ok (.invokestatic 15, 3) := by decide +kernel
theorem dX4_open_13 : decode cX4_open 13 = .ok (.invokestatic 21, 3) := by decide +kernel
theorem dX4_open_16 : decode cX4_open 16 = .ok (.putfield 24, 3) := by decide +kernel
theorem dX4_open_19 : decode cX4_open 19 = .ok (.aload_n 0, 1) := by decide +kernel
theorem dX4_open_20 : decode cX4_open 20 = .ok (.iconst 0, 1) := by decide +kernel
theorem dX4_open_21 : decode cX4_open 21 = .ok (.putfield 28, 3) := by decide +kernel
theorem dX4_open_24 : decode cX4_open 24 = .ok (.aload_n 0, 1) := by decide +kernel
theorem dX4_open_25 : decode cX4_open 25 = .ok (.invokevirtual 31, 3) := by decide +kernel
theorem dX4_open_28 : decode cX4_open 28 = .ok (.return_, 1) := by decide +kernel
theorem dX4_step_0 : decode cX4_step 0 = .ok (.aload_n 0, 1) := by decide +kernel
theorem dX4_step_1 : decode cX4_step 1 = .ok (.aload_n 0, 1) := by decide +kernel
theorem dX4_step_2 : decode cX4_step 2 = .ok (.getfield 28, 3) := by decide +kernel
theorem dX4_step_5 : decode cX4_step 5 = .ok (.putfield 34, 3) := by decide +kernel
theorem dX4_step_8 : decode cX4_step 8 = .ok (.aload_n 0, 1) := by decide +kernel
theorem dX4_step_9 : decode cX4_step 9 = .ok (.getfield 34, 3) := by decide +kernel
theorem dX4_step_12 : decode cX4_step 12 = .ok (.aload_n 0, 1) := by decide +kernel
theorem dX4_step_13 : decode cX4_step 13 = .ok (.getfield 24, 3) := by decide +kernel
theorem dX4_step_16 : decode cX4_step 16 = .ok (.if_icmp .ge 44, 3) := by decide +kernel
theorem dX4_step_19 : decode cX4_step 19 = .ok (.aload_n 0, 1) := by decide +kernel
theorem dX4_step_20 : decode cX4_step 20 = .ok (.getfield 9, 3) := by decide +kernel
theorem dX4_step_23 : decode cX4_step 23 = .ok (.aload_n 0, 1) := by decide +kernel
theorem dX4_step_24 : decode cX4_step 24 = .ok (.getfield 34, 3) := by decide +kernel
theorem dX4_step_27 : decode cX4_step 27 = .ok (.baload, 1) := by decide +kernel
theorem dX4_step_28 : decode cX4_step 28 = .ok (.bipush 32, 2) := by decide +kernel
theorem dX4_step_30 : decode cX4_step 30 = .ok (.if_icmp .eq 17, 3) := by decide +kernel
theorem dX4_step_33 : decode cX4_step 33 = .ok (.aload_n 0, 1) := by decide +kernel
theorem dX4_step_34 : decode cX4_step 34 = .ok (.getfield 9, 3) := by decide +kernel
theorem dX4_step_37 : decode cX4_step 37 = .ok (.aload_n 0, 1) := by decide +kernel
theorem dX4_step_38 : decode cX4_step 38 = .ok (.getfield 34, 3) := by decide +kernel
theorem dX4_step_41 : decode cX4_step 41 = .ok (.baload, 1) := by decide +kernel
theorem dX4_step_42 : decode cX4_step 42 = .ok (.bipush 10, 2) := by decide +kernel
theorem dX4_step_44 : decode cX4_step 44 = .ok (.if_icmp .ne 16, 3) := by decide +kernel
theorem dX4_step_47 : decode cX4_step 47 = .ok (.aload_n 0, 1) := by decide +kernel
theorem dX4_step_48 : decode cX4_step 48 = .ok (.dup, 1) := by decide +kernel
theorem dX4_step_49 : decode cX4_step 49 = .ok (.getfield 34, 3) := by decide +kernel
theorem dX4_step_52 : decode cX4_step 52 = .ok (.iconst 1, 1) := by decide +kernel
theorem dX4_step_53 : decode cX4_step 53 = .ok (.iadd, 1) := by decide +kernel
theorem dX4_step_54 : decode cX4_step 54 = .ok (.putfield 34, 3) := by decide +kernel
theorem dX4_step_57 : decode cX4_step 57 = .ok (.goto (-49), 3) := by decide +kernel
theorem dX4_step_60 : decode cX4_step 60 = .ok (.aload_n 0, 1) := by decide +kernel
theorem dX4_step_61 : decode cX4_step 61 = .ok (.aload_n 0, 1) := by decide +kernel
theorem dX4_step_62 : decode cX4_step 62 = .ok (.getfield 34, 3) := by decide +kernel
theorem dX4_step_65 : decode cX4_step 65 = .ok (.putfield 28, 3) := by decide +kernel
theorem dX4_step_68 : decode cX4_step 68 = .ok (.aload_n 0, 1) := by decide +kernel
theorem dX4_step_69 : decode cX4_step 69 = .ok (.getfield 34, 3) := by decide +kernel
theorem dX4_step_72 : decode cX4_step 72 = .ok (.aload_n 0, 1) := by decide +kernel
theorem dX4_step_73 : decode cX4_step 73 = .ok (.getfield 24, 3) := by decide +kernel
theorem dX4_step_76 : decode cX4_step 76 = .ok (.if_icmp .lt 9, 3) := by decide +kernel
theorem dX4_step_79 : decode cX4_step 79 = .ok (.aload_n 0, 1) := by decide +kernel
theorem dX4_step_80 : decode cX4_step 80 = .ok (.iconst 0, 1) := by decide +kernel
theorem dX4_step_81 : decode cX4_step 81 = .ok (.putfield 37, 3) := by decide +kernel
theorem dX4_step_84 : decode cX4_step 84 = .ok (.return_, 1) := by decide +kernel
theorem dX4_step_85 : decode cX4_step 85 = .ok (.aload_n 0, 1) := by decide +kernel
theorem dX4_step_86 : decode cX4_step 86 = .ok (.getfield 9, 3) := by decide +kernel
theorem dX4_step_89 : decode cX4_step 89 = .ok (.aload_n 0, 1) := by decide +kernel
theorem dX4_step_90 : decode cX4_step 90 = .ok (.getfield 34, 3) := by decide +kernel
theorem dX4_step_93 : decode cX4_step 93 = .ok (.baload, 1) := by decide +kernel
theorem dX4_step_94 : decode cX4_step 94 = .ok (.istore_n 1, 1) := by decide +kernel
theorem dX4_step_95 : decode cX4_step 95 = .ok (.iload_n 1, 1) := by decide +kernel
theorem dX4_step_96 : decode cX4_step 96 = .ok (.bipush 97, 2) := by decide +kernel
theorem dX4_step_98 : decode cX4_step 98 = .ok (.if_icmp .lt 16, 3) := by decide +kernel
theorem dX4_step_101 : decode cX4_step 101 = .ok (.iload_n 1, 1) := by decide +kernel
theorem dX4_step_102 : decode cX4_step 102 = .ok (.bipush 122, 2) := by decide +kernel
theorem dX4_step_104 : decode cX4_step 104 = .ok (.if_icmp .gt 10, 3) := by decide +kernel
theorem dX4_step_107 : decode cX4_step 107 = .ok (.aload_n 0, 1) := by decide +kernel
theorem dX4_step_108 : decode cX4_step 108 = .ok (.invokevirtual 40, 3) := by decide +kernel
theorem dX4_step_111 : decode cX4_step 111 = .ok (.goto 40, 3) := by decide +kernel
theorem dX4_step_114 : decode cX4_step 114 = .ok (.iload_n 1, 1) := by decide +kernel
theorem dX4_step_115 : decode cX4_step 115 = .ok (.bipush 48, 2) := by decide +kernel
theorem dX4_step_117 : decode cX4_step 117 = .ok (.if_icmp .lt 16, 3) := by decide +kernel
theorem dX4_step_120 : decode cX4_step 120 = .ok (.iload_n 1, 1) := by decide +kernel
theorem dX4_step_121 : decode cX4_step 121 = .ok (.bipush 57, 2) := by decide +kernel
theorem dX4_step_123 : decode cX4_step 123 = .ok (.if_icmp .gt 10, 3) := by decide +kernel
theorem dX4_step_126 : decode cX4_step 126 = .ok (.aload_n 0, 1) := by decide +kernel
theorem dX4_step_127 : decode cX4_step 127 = .ok (.invokevirtual 43, 3) := by decide +kernel
theorem dX4_step_130 : decode cX4_step 130 = .ok (.goto 21, 3) := by decide +kernel
theorem dX4_step_133 : decode cX4_step 133 = .ok (.iload_n 1, 1) := by decide +kernel
theorem dX4_step_134 : decode cX4_step 134 = .ok (.bipush 34, 2) := by decide +kernel
theorem dX4_step_136 : decode cX4_step 136 = .ok (.if_icmp .ne 10, 3) := by decide +kernel
theorem dX4_step_139 : decode cX4_step 139 = .ok (.aload_n 0, 1) := by decide +kernel
theorem dX4_step_140 : decode cX4_step 140 = .ok (.invokevirtual 46, 3) := by decide +kernel
theorem dX4_step_143 : decode cX4_step 143 = .ok (.goto 8, 3) := by decide +kernel
theorem dX4_step_146 : decode cX4_step 146 = .ok (.aload_n 0, 1) := by decide +kernel
theorem dX4_step_147 : decode cX4_step 147 = .ok (.iload_n 1, 1) := by decide +kernel
theorem dX4_step_148 : decode cX4_step 148 = .ok (.invokevirtual 49, 3) := by decide +kernel
theorem dX4_step_151 : decode cX4_step 151 = .ok (.return_, 1) := by decide +kernel
theorem dX4_takeWord_0 : decode cX4_takeWord 0 = .ok (.aload_n 0, 1) := by decide +kernel
theorem dX4_takeWord_1 : decode cX4_takeWord 1 = .ok (.iconst 1, 1) := by decide +kernel
theorem dX4_takeWord_2 : decode cX4_takeWord 2 = .ok (.putfield 37, 3) := by decide +kernel
theorem dX4_takeWord_5 : decode cX4_takeWord 5 = .ok (.aload_n 0, 1) := by decide +kernel
theorem dX4_takeWord_6 : decode cX4_takeWord 6 = .ok (.getfield 28, 3) := by decide +kernel
theorem dX4_takeWord_9 : decode cX4_takeWord 9 = .ok (.aload_n 0, 1) := by decide +kernel
theorem dX4_takeWord_10 : decode cX4_takeWord 10 = .ok (.getfield 24, 3) := by decide +kernel
theorem dX4_takeWord_13 : decode cX4_takeWord 13 = .ok (.if_icmp .ge 44, 3) := by decide +kernel
theorem dX4_takeWord_16 : decode cX4_takeWord 16 = .ok (.aload_n 0, 1) := by decide +kernel
theorem dX4_takeWord_17 : decode cX4_takeWord 17 = .ok (.getfield 9, 3) := by decide +kernel
theorem dX4_takeWord_20 : decode cX4_takeWord 20 = .ok (.aload_n 0, 1) := by decide +kernel
theorem dX4_takeWord_21 : decode cX4_takeWord 21 = .ok (.getfield 28, 3) := by decide +kernel
theorem dX4_takeWord_24 : decode cX4_takeWord 24 = .ok (.baload, 1) := by decide +kernel
theorem dX4_takeWord_25 : decode cX4_takeWord 25 = .ok (.bipush 97, 2) := by decide +kernel
theorem dX4_takeWord_27 : decode cX4_takeWord 27 = .ok (.if_icmp .lt 30, 3) := by decide +kernel
theorem dX4_takeWord_30 : decode cX4_takeWord 30 = .ok (.aload_n 0, 1) := by decide +kernel
theorem dX4_takeWord_31 : decode cX4_takeWord 31 = .ok (.getfield 9, 3) := by decide +kernel
theorem dX4_takeWord_34 : decode cX4_takeWord 34 = .ok (.aload_n 0, 1) := by decide +kernel
theorem dX4_takeWord_35 : decode cX4_takeWord 35 = .ok (.getfield 28, 3) := by decide +kernel
theorem dX4_takeWord_38 : decode cX4_takeWord 38 = .ok (.baload, 1) := by decide +kernel
theorem dX4_takeWord_39 : decode cX4_takeWord 39 = .ok (.bipush 122, 2) := by decide +kernel
theorem dX4_takeWord_41 : decode cX4_takeWord 41 = .ok (.if_icmp .gt 16, 3) := by decide +kernel
theorem dX4_takeWord_44 : decode cX4_takeWord 44 = .ok (.aload_n 0, 1) := by decide +kernel
theorem dX4_takeWord_45 : decode cX4_takeWord 45 = .ok (.dup, 1) := by decide +kernel
theorem dX4_takeWord_46 : decode cX4_takeWord 46 = .ok (.getfield 28, 3) := by decide +kernel
theorem dX4_takeWord_49 : decode cX4_takeWord 49 = .ok (.iconst 1, 1) := by decide +kernel
theorem dX4_takeWord_50 : decode cX4_takeWord 50 = .ok (.iadd, 1) := by decide +kernel
theorem dX4_takeWord_51 : decode cX4_takeWord 51 = .ok (.putfield 28, 3) := by decide +kernel
theorem dX4_takeWord_54 : decode cX4_takeWord 54 = .ok (.goto (-49), 3) := by decide +kernel
theorem dX4_takeWord_57 : decode cX4_takeWord 57 = .ok (.return_, 1) := by decide +kernel
theorem dX4_takeNumber_0 : decode cX4_takeNumber 0 = .ok (.aload_n 0, 1) := by decide +kernel
theorem dX4_takeNumber_1 : decode cX4_takeNumber 1 = .ok (.iconst 3, 1) := by decide +kernel
theorem dX4_takeNumber_2 : decode cX4_takeNumber 2 = .ok (.putfield 37, 3) := by decide +kernel
theorem dX4_takeNumber_5 : decode cX4_takeNumber 5 = .ok (.aload_n 0, 1) := by decide +kernel
theorem dX4_takeNumber_6 : decode cX4_takeNumber 6 = .ok (.iconst 0, 1) := by decide +kernel
theorem dX4_takeNumber_7 : decode cX4_takeNumber 7 = .ok (.putfield 53, 3) := by decide +kernel
theorem dX4_takeNumber_10 : decode cX4_takeNumber 10 = .ok (.aload_n 0, 1) := by decide +kernel
theorem dX4_takeNumber_11 : decode cX4_takeNumber 11 = .ok (.getfield 28, 3) := by decide +kernel
theorem dX4_takeNumber_14 : decode cX4_takeNumber 14 = .ok (.aload_n 0, 1) := by decide +kernel
theorem dX4_takeNumber_15 : decode cX4_takeNumber 15 = .ok (.getfield 24, 3) := by decide +kernel
theorem dX4_takeNumber_18 : decode cX4_takeNumber 18 = .ok (.if_icmp .ge 73, 3) := by decide +kernel
theorem dX4_takeNumber_21 : decode cX4_takeNumber 21 = .ok (.aload_n 0, 1) := by decide +kernel
theorem dX4_takeNumber_22 : decode cX4_takeNumber 22 = .ok (.getfield 9, 3) := by decide +kernel
theorem dX4_takeNumber_25 : decode cX4_takeNumber 25 = .ok (.aload_n 0, 1) := by decide +kernel
theorem dX4_takeNumber_26 : decode cX4_takeNumber 26 = .ok (.getfield 28, 3) := by decide +kernel
theorem dX4_takeNumber_29 : decode cX4_takeNumber 29 = .ok (.baload, 1) := by decide +kernel
theorem dX4_takeNumber_30 : decode cX4_takeNumber 30 = .ok (.bipush 48, 2) := by decide +kernel
theorem dX4_takeNumber_32 : decode cX4_takeNumber 32 = .ok (.if_icmp .lt 59, 3) := by decide +kernel
theorem dX4_takeNumber_35 : decode cX4_takeNumber 35 = .ok (.aload_n 0, 1) := by decide +kernel
theorem dX4_takeNumber_36 : decode cX4_takeNumber 36 = .ok (.getfield 9, 3) := by decide +kernel
theorem dX4_takeNumber_39 : decode cX4_takeNumber 39 = .ok (.aload_n 0, 1) := by decide +kernel
theorem dX4_takeNumber_40 : decode cX4_takeNumber 40 = .ok (.getfield 28, 3) := by decide +kernel
theorem dX4_takeNumber_43 : decode cX4_takeNumber 43 = .ok (.baload, 1) := by decide +kernel
theorem dX4_takeNumber_44 : decode cX4_takeNumber 44 = .ok (.bipush 57, 2) := by decide +kernel
theorem dX4_takeNumber_46 : decode cX4_takeNumber 46 = .ok (.if_icmp .gt 45, 3) := by decide +kernel
theorem dX4_takeNumber_49 : decode cX4_takeNumber 49 = .ok (.aload_n 0, 1) := by decide +kernel
theorem dX4_takeNumber_50 : decode cX4_takeNumber 50 = .ok (.ldc 56, 2) := by decide +kernel
theorem dX4_takeNumber_52 : decode cX4_takeNumber 52 = .ok (.aload_n 0, 1) := by decide +kernel
theorem dX4_takeNumber_53 : decode cX4_takeNumber 53 = .ok (.getfield 53, 3) := by decide +kernel
theorem dX4_takeNumber_56 : decode cX4_takeNumber 56 = .ok (.bipush 10, 2) := by decide +kernel
theorem dX4_takeNumber_58 : decode cX4_takeNumber 58 = .ok (.imul, 1) := by decide +kernel
theorem dX4_takeNumber_59 : decode cX4_takeNumber 59 = .ok (.aload_n 0, 1) := by decide +kernel
theorem dX4_takeNumber_60 : decode cX4_takeNumber 60 = .ok (.getfield 9, 3) := by decide +kernel
theorem dX4_takeNumber_63 : decode cX4_takeNumber 63 = .ok (.aload_n 0, 1) := by decide +kernel
theorem dX4_takeNumber_64 : decode cX4_takeNumber 64 = .ok (.getfield 28, 3) := by decide +kernel
theorem dX4_takeNumber_67 : decode cX4_takeNumber 67 = .ok (.baload, 1) := by decide +kernel
theorem dX4_takeNumber_68 : decode cX4_takeNumber 68 = .ok (.iadd, 1) := by decide +kernel
theorem dX4_takeNumber_69 : decode cX4_takeNumber 69 = .ok (.bipush 48, 2) := by decide +kernel
theorem dX4_takeNumber_71 : decode cX4_takeNumber 71 = .ok (.isub, 1) := by decide +kernel
theorem dX4_takeNumber_72 : decode cX4_takeNumber 72 = .ok (.invokestatic 15, 3) := by decide +kernel
theorem dX4_takeNumber_75 : decode cX4_takeNumber 75 = .ok (.putfield 53, 3) := by decide +kernel
theorem dX4_takeNumber_78 : decode cX4_takeNumber 78 = .ok (.aload_n 0, 1) := by decide +kernel
theorem dX4_takeNumber_79 : decode cX4_takeNumber 79 = .ok (.dup, 1) := by decide +kernel
theorem dX4_takeNumber_80 : decode cX4_takeNumber 80 = .ok (.getfield 28, 3) := by decide +kernel
theorem dX4_takeNumber_83 : decode cX4_takeNumber 83 = .ok (.iconst 1, 1) := by decide +kernel
theorem dX4_takeNumber_84 : decode cX4_takeNumber 84 = .ok (.iadd, 1) := by decide +kernel
theorem dX4_takeNumber_85 : decode cX4_takeNumber 85 = .ok (.putfield 28, 3) := by decide +kernel
theorem dX4_takeNumber_88 : decode cX4_takeNumber 88 = .ok (.goto (-78), 3) := by decide +kernel
theorem dX4_takeNumber_91 : decode cX4_takeNumber 91 = .ok (.return_, 1) := by decide +kernel
theorem dX4_takeString_0 : decode cX4_takeString 0 = .ok (.aload_n 0, 1) := by decide +kernel
theorem dX4_takeString_1 : decode cX4_takeString 1 = .ok (.dup, 1) := by decide +kernel
theorem dX4_takeString_2 : decode cX4_takeString 2 = .ok (.getfield 28, 3) := by decide +kernel
theorem dX4_takeString_5 : decode cX4_takeString 5 = .ok (.iconst 1, 1) := by decide +kernel
theorem dX4_takeString_6 : decode cX4_takeString 6 = .ok (.iadd, 1) := by decide +kernel
theorem dX4_takeString_7 : decode cX4_takeString 7 = .ok (.putfield 28, 3) := by decide +kernel
theorem dX4_takeString_10 : decode cX4_takeString 10 = .ok (.aload_n 0, 1) := by decide +kernel
theorem dX4_takeString_11 : decode cX4_takeString 11 = .ok (.getfield 28, 3) := by decide +kernel
theorem dX4_takeString_14 : decode cX4_takeString 14 = .ok (.aload_n 0, 1) := by decide +kernel
theorem dX4_takeString_15 : decode cX4_takeString 15 = .ok (.getfield 24, 3) := by decide +kernel
theorem dX4_takeString_18 : decode cX4_takeString 18 = .ok (.if_icmp .ge 58, 3) := by decide +kernel
theorem dX4_takeString_21 : decode cX4_takeString 21 = .ok (.aload_n 0, 1) := by decide +kernel
theorem dX4_takeString_22 : decode cX4_takeString 22 = .ok (.getfield 9, 3) := by decide +kernel
theorem dX4_takeString_25 : decode cX4_takeString 25 = .ok (.aload_n 0, 1) := by decide +kernel
theorem dX4_takeString_26 : decode cX4_takeString 26 = .ok (.getfield 28, 3) := by decide +kernel
theorem dX4_takeString_29 : decode cX4_takeString 29 = .ok (.baload, 1) := by decide +kernel
theorem dX4_takeString_30 : decode cX4_takeString 30 = .ok (.bipush 32, 2) := by decide +kernel
theorem dX4_takeString_32 : decode cX4_takeString 32 = .ok (.if_icmp .lt 44, 3) := by decide +kernel
theorem dX4_takeString_35 : decode cX4_takeString 35 = .ok (.aload_n 0, 1) := by decide +kernel
theorem dX4_takeString_36 : decode cX4_takeString 36 = .ok (.getfield 9, 3) := by decide +kernel
theorem dX4_takeString_39 : decode cX4_takeString 39 = .ok (.aload_n 0, 1) := by decide +kernel
theorem dX4_takeString_40 : decode cX4_takeString 40 = .ok (.getfield 28, 3) := by decide +kernel
theorem dX4_takeString_43 : decode cX4_takeString 43 = .ok (.baload, 1) := by decide +kernel
theorem dX4_takeString_44 : decode cX4_takeString 44 = .ok (.bipush 126, 2) := by decide +kernel
theorem dX4_takeString_46 : decode cX4_takeString 46 = .ok (.if_icmp .gt 30, 3) := by decide +kernel
theorem dX4_takeString_49 : decode cX4_takeString 49 = .ok (.aload_n 0, 1) := by decide +kernel
theorem dX4_takeString_50 : decode cX4_takeString 50 = .ok (.getfield 9, 3) := by decide +kernel
theorem dX4_takeString_53 : decode cX4_takeString 53 = .ok (.aload_n 0, 1) := by decide +kernel
theorem dX4_takeString_54 : decode cX4_takeString 54 = .ok (.getfield 28, 3) := by decide +kernel
theorem dX4_takeString_57 : decode cX4_takeString 57 = .ok (.baload, 1) := by decide +kernel
theorem dX4_takeString_58 : decode cX4_takeString 58 = .ok (.bipush 34, 2) := by decide +kernel
theorem dX4_takeString_60 : decode cX4_takeString 60 = .ok (.if_icmp .eq 16, 3) := by decide +kernel
theorem dX4_takeString_63 : decode cX4_takeString 63 = .ok (.aload_n 0, 1) := by decide +kernel
theorem dX4_takeString_64 : decode cX4_takeString 64 = .ok (.dup, 1) := by decide +kernel
theorem dX4_takeString_65 : decode cX4_takeString 65 = .ok (.getfield 28, 3) := by decide +kernel
theorem dX4_takeString_68 : decode cX4_takeString 68 = .ok (.iconst 1, 1) := by decide +kernel
theorem dX4_takeString_69 : decode cX4_takeString 69 = .ok (.iadd, 1) := by decide +kernel
theorem dX4_takeString_70 : decode cX4_takeString 70 = .ok (.putfield 28, 3) := by decide +kernel
theorem dX4_takeString_73 : decode cX4_takeString 73 = .ok (.goto (-63), 3) := by decide +kernel
theorem dX4_takeString_76 : decode cX4_takeString 76 = .ok (.aload_n 0, 1) := by decide +kernel
theorem dX4_takeString_77 : decode cX4_takeString 77 = .ok (.getfield 28, 3) := by decide +kernel
theorem dX4_takeString_80 : decode cX4_takeString 80 = .ok (.aload_n 0, 1) := by decide +kernel
theorem dX4_takeString_81 : decode cX4_takeString 81 = .ok (.getfield 24, 3) := by decide +kernel
theorem dX4_takeString_84 : decode cX4_takeString 84 = .ok (.if_icmp .ge 21, 3) := by decide +kernel
theorem dX4_takeString_87 : decode cX4_takeString 87 = .ok (.aload_n 0, 1) := by decide +kernel
theorem dX4_takeString_88 : decode cX4_takeString 88 = .ok (.getfield 9, 3) := by decide +kernel
theorem dX4_takeString_91 : decode cX4_takeString 91 = .ok (.aload_n 0, 1) := by decide +kernel
theorem dX4_takeString_92 : decode cX4_takeString 92 = .ok (.getfield 28, 3) := by decide +kernel
theorem dX4_takeString_95 : decode cX4_takeString 95 = .ok (.baload, 1) := by decide +kernel
theorem dX4_takeString_96 : decode cX4_takeString 96 = .ok (.bipush 34, 2) := by decide +kernel
theorem dX4_takeString_98 : decode cX4_takeString 98 = .ok (.if_icmp .ne 7, 3) := by decide +kernel
theorem dX4_takeString_101 : decode cX4_takeString 101 = .ok (.iconst 1, 1) := by decide +kernel
theorem dX4_takeString_102 : decode cX4_takeString 102 = .ok (.goto 4, 3) := by decide +kernel
theorem dX4_takeString_105 : decode cX4_takeString 105 = .ok (.iconst 0, 1) := by decide +kernel
theorem dX4_takeString_106 : decode cX4_takeString 106 = .ok (.istore_n 1, 1) := by decide +kernel
theorem dX4_takeString_107 : decode cX4_takeString 107 = .ok (.aload_n 0, 1) := by decide +kernel
theorem dX4_takeString_108 : decode cX4_takeString 108 = .ok (.iload_n 1, 1) := by decide +kernel
theorem dX4_takeString_109 : decode cX4_takeString 109 = .ok (.ifCond .eq 7, 3) := by decide +kernel
theorem dX4_takeString_112 : decode cX4_takeString 112 = .ok (.iconst 4, 1) := by decide +kernel
theorem dX4_takeString_113 : decode cX4_takeString 113 = .ok (.goto 5, 3) := by decide +kernel
theorem dX4_takeString_116 : decode cX4_takeString 116 = .ok (.bipush 6, 2) := by decide +kernel
theorem dX4_takeString_118 : decode cX4_takeString 118 = .ok (.putfield 37, 3) := by decide +kernel
theorem dX4_takeString_121 : decode cX4_takeString 121 = .ok (.aload_n 0, 1) := by decide +kernel
theorem dX4_takeString_122 : decode cX4_takeString 122 = .ok (.iload_n 1, 1) := by decide +kernel
theorem dX4_takeString_123 : decode cX4_takeString 123 = .ok (.ifCond .eq 12, 3) := by decide +kernel
theorem dX4_takeString_126 : decode cX4_takeString 126 = .ok (.aload_n 0, 1) := by decide +kernel
theorem dX4_takeString_127 : decode cX4_takeString 127 = .ok (.getfield 28, 3) := by decide +kernel
theorem dX4_takeString_130 : decode cX4_takeString 130 = .ok (.iconst 1, 1) := by decide +kernel
theorem dX4_takeString_131 : decode cX4_takeString 131 = .ok (.iadd, 1) := by decide +kernel
theorem dX4_takeString_132 : decode cX4_takeString 132 = .ok (.goto 7, 3) := by decide +kernel
theorem dX4_takeString_135 : decode cX4_takeString 135 = .ok (.aload_n 0, 1) := by decide +kernel
theorem dX4_takeString_136 : decode cX4_takeString 136 = .ok (.getfield 28, 3) := by decide +kernel
theorem dX4_takeString_139 : decode cX4_takeString 139 = .ok (.putfield 28, 3) := by decide +kernel
theorem dX4_takeString_142 : decode cX4_takeString 142 = .ok (.return_, 1) := by decide +kernel
theorem dX4_takeSingle_0 : decode cX4_takeSingle 0 = .ok (.aload_n 0, 1) := by decide +kernel
theorem dX4_takeSingle_1 : decode cX4_takeSingle 1 = .ok (.dup, 1) := by decide +kernel
theorem dX4_takeSingle_2 : decode cX4_takeSingle 2 = .ok (.getfield 28, 3) := by decide +kernel
theorem dX4_takeSingle_5 : decode cX4_takeSingle 5 = .ok (.iconst 1, 1) := by decide +kernel
theorem dX4_takeSingle_6 : decode cX4_takeSingle 6 = .ok (.iadd, 1) := by decide +kernel
theorem dX4_takeSingle_7 : decode cX4_takeSingle 7 = .ok (.putfield 28, 3) := by decide +kernel
theorem dX4_takeSingle_10 : decode cX4_takeSingle 10 = .ok (.aload_n 0, 1) := by decide +kernel
theorem dX4_takeSingle_11 : decode cX4_takeSingle 11 = .ok (.iload_n 1, 1) := by decide +kernel
theorem dX4_takeSingle_12 : decode cX4_takeSingle 12 = .ok (.bipush 65, 2) := by decide +kernel
theorem dX4_takeSingle_14 : decode cX4_takeSingle 14 = .ok (.isub, 1) := by decide +kernel
theorem dX4_takeSingle_15 : decode cX4_takeSingle 15 = .ok (.putfield 53, 3) := by decide +kernel
theorem dX4_takeSingle_18 : decode cX4_takeSingle 18 = .ok (.iload_n 1, 1) := by decide +kernel
theorem dX4_takeSingle_19 : decode cX4_takeSingle 19 = .ok (.bipush 59, 2) := by decide +kernel
theorem dX4_takeSingle_21 : decode cX4_takeSingle 21 = .ok (.if_icmp .ne 11, 3) := by decide +kernel
theorem dX4_takeSingle_24 : decode cX4_takeSingle 24 = .ok (.aload_n 0, 1) := by decide +kernel
theorem dX4_takeSingle_25 : decode cX4_takeSingle 25 = .ok (.iconst 5, 1) := by decide +kernel
theorem dX4_takeSingle_26 : decode cX4_takeSingle 26 = .ok (.putfield 37, 3) := by decide +kernel
theorem dX4_takeSingle_29 : decode cX4_takeSingle 29 = .ok (.goto 29, 3) := by decide +kernel
theorem dX4_takeSingle_32 : decode cX4_takeSingle 32 = .ok (.aload_n 0, 1) := by decide +kernel
theorem dX4_takeSingle_33 : decode cX4_takeSingle 33 = .ok (.aload_n 0, 1) := by decide +kernel
theorem dX4_takeSingle_34 : decode cX4_takeSingle 34 = .ok (.getfield 53, 3) := by decide +kernel
theorem dX4_takeSingle_37 : decode cX4_takeSingle 37 = .ok (.ifCond .lt 16, 3) := by decide +kernel
theorem dX4_takeSingle_40 : decode cX4_takeSingle 40 = .ok (.aload_n 0, 1) := by decide +kernel
theorem dX4_takeSingle_41 : decode cX4_takeSingle 41 = .ok (.getfield 53, 3) := by decide +kernel
theorem dX4_takeSingle_44 : decode cX4_takeSingle 44 = .ok (.bipush 8, 2) := by decide +kernel
theorem dX4_takeSingle_46 : decode cX4_takeSingle 46 = .ok (.if_icmp .ge 7, 3) := by decide +kernel
theorem dX4_takeSingle_49 : decode cX4_takeSingle 49 = .ok (.iconst 2, 1) := by decide +kernel
theorem dX4_takeSingle_50 : decode cX4_takeSingle 50 = .ok (.goto 5, 3) := by decide +kernel
theorem dX4_takeSingle_53 : decode cX4_takeSingle 53 = .ok (.bipush 6, 2) := by decide +kernel
theorem dX4_takeSingle_55 : decode cX4_takeSingle 55 = .ok (.putfield 37, 3) := by decide +kernel
theorem dX4_takeSingle_58 : decode cX4_takeSingle 58 = .ok (.return_, 1) := by decide +kernel
theorem dX4_isWord_0 : decode cX4_isWord 0 = .ok (.aload_n 0, 1) := by decide +kernel
theorem dX4_isWord_1 : decode cX4_isWord 1 = .ok (.getfield 37, 3) := by decide +kernel
theorem dX4_isWord_4 : decode cX4_isWord 4 = .ok (.iconst 1, 1) := by decide +kernel
theorem dX4_isWord_5 : decode cX4_isWord 5 = .ok (.if_icmp .ne 19, 3) := by decide +kernel
theorem dX4_isWord_8 : decode cX4_isWord 8 = .ok (.aload_n 0, 1) := by decide +kernel
theorem dX4_isWord_9 : decode cX4_isWord 9 = .ok (.getfield 28, 3) := by decide +kernel
theorem dX4_isWord_12 : decode cX4_isWord 12 = .ok (.aload_n 0, 1) := by decide +kernel
theorem dX4_isWord_13 : decode cX4_isWord 13 = .ok (.getfield 34, 3) := by decide +kernel
theorem dX4_isWord_16 : decode cX4_isWord 16 = .ok (.isub, 1) := by decide +kernel
theorem dX4_isWord_17 : decode cX4_isWord 17 = .ok (.aload_n 1, 1) := by decide +kernel
theorem dX4_isWord_18 : decode cX4_isWord 18 = .ok (.invokevirtual 57, 3) := by decide +kernel
theorem dX4_isWord_21 : decode cX4_isWord 21 = .ok (.if_icmp .eq 5, 3) := by decide +kernel
theorem dX4_isWord_24 : decode cX4_isWord 24 = .ok (.iconst 0, 1) := by decide +kernel
theorem dX4_isWord_25 : decode cX4_isWord 25 = .ok (.ireturn, 1) := by decide +kernel
theorem dX4_isWord_26 : decode cX4_isWord 26 = .ok (.iconst 0, 1) := by decide +kernel
theorem dX4_isWord_27 : decode cX4_isWord 27 = .ok (.istore_n 2, 1) := by decide +kernel
theorem dX4_isWord_28 : decode cX4_isWord 28 = .ok (.iload_n 2, 1) := by decide +kernel
theorem dX4_isWord_29 : decode cX4_isWord 29 = .ok (.aload_n 1, 1) := by decide +kernel
theorem dX4_isWord_30 : decode cX4_isWord 30 = .ok (.invokevirtual 57, 3) := by decide +kernel
theorem dX4_isWord_33 : decode cX4_isWord 33 = .ok (.if_icmp .ge 30, 3) := by decide +kernel
theorem dX4_isWord_36 : decode cX4_isWord 36 = .ok (.aload_n 0, 1) := by decide +kernel
theorem dX4_isWord_37 : decode cX4_isWord 37 = .ok (.getfield 9, 3) := by decide +kernel
theorem dX4_isWord_40 : decode cX4_isWord 40 = .ok (.aload_n 0, 1) := by decide +kernel
theorem dX4_isWord_41 : decode cX4_isWord 41 = .ok (.getfield 34, 3) := by decide +kernel
theorem dX4_isWord_44 : decode cX4_isWord 44 = .ok (.iload_n 2, 1) := by decide +kernel
theorem dX4_isWord_45 : decode cX4_isWord 45 = .ok (.iadd, 1) := by decide +kernel
theorem dX4_isWord_46 : decode cX4_isWord 46 = .ok (.baload, 1) := by decide +kernel
theorem dX4_isWord_47 : decode cX4_isWord 47 = .ok (.aload_n 1, 1) := by decide +kernel
theorem dX4_isWord_48 : decode cX4_isWord 48 = .ok (.iload_n 2, 1) := by decide +kernel
theorem dX4_isWord_49 : decode cX4_isWord 49 = .ok (.invokevirtual 62, 3) := by decide +kernel
theorem dX4_isWord_52 : decode cX4_isWord 52 = .ok (.if_icmp .eq 5, 3) := by decide +kernel
theorem dX4_isWord_55 : decode cX4_isWord 55 = .ok (.iconst 0, 1) := by decide +kernel
theorem dX4_isWord_56 : decode cX4_isWord 56 = .ok (.ireturn, 1) := by decide +kernel
theorem dX4_isWord_57 : decode cX4_isWord 57 = .ok (.iinc 2 1, 3) := by decide +kernel
theorem dX4_isWord_60 : decode cX4_isWord 60 = .ok (.goto (-32), 3) := by decide +kernel
theorem dX4_isWord_63 : decode cX4_isWord 63 = .ok (.iconst 1, 1) := by decide +kernel
theorem dX4_isWord_64 : decode cX4_isWord 64 = .ok (.ireturn, 1) := by decide +kernel
theorem dX4_stringFrom_0 : decode cX4_stringFrom 0 = .ok (.aload_n 0, 1) := by decide +kernel
theorem dX4_stringFrom_1 : decode cX4_stringFrom 1 = .ok (.getfield 34, 3) := by decide +kernel
theorem dX4_stringFrom_4 : decode cX4_stringFrom 4 = .ok (.iconst 1, 1) := by decide +kernel
theorem dX4_stringFrom_5 : decode cX4_stringFrom 5 = .ok (.iadd, 1) := by decide +kernel
theorem dX4_stringFrom_6 : decode cX4_stringFrom 6 = .ok (.ireturn, 1) := by decide +kernel
theorem dX4_stringLength_0 : decode cX4_stringLength 0 = .ok (.aload_n 0, 1) := by decide +kernel
theorem dX4_stringLength_1 : decode cX4_stringLength 1 = .ok (.getfield 28, 3) := by decide +kernel
theorem dX4_stringLength_4 : decode cX4_stringLength 4 = .ok (.aload_n 0, 1) := by decide +kernel
theorem dX4_stringLength_5 : decode cX4_stringLength 5 = .ok (.getfield 34, 3) := by decide +kernel
theorem dX4_stringLength_8 : decode cX4_stringLength 8 = .ok (.isub, 1) := by decide +kernel
theorem dX4_stringLength_9 : decode cX4_stringLength 9 = .ok (.iconst 2, 1) := by decide +kernel
theorem dX4_stringLength_10 : decode cX4_stringLength 10 = .ok (.isub, 1) := by decide +kernel
theorem dX4_stringLength_11 : decode cX4_stringLength 11 = .ok (.ireturn, 1) := by decide +kernel
theorem dX5_init_0 : decode cX5_init 0 = .ok (.aload_n 0, 1) := by decide +kernel
theorem dX5_init_1 : decode cX5_init 1 = .ok (.invokespecial 3, 3) := by decide +kernel
theorem dX5_init_4 : decode cX5_init 4 = .ok (.aload_n 0, 1) := by decide +kernel
theorem dX5_init_5 : decode cX5_init 5 = .ok (.iconst 1, 1) := by decide +kernel
theorem dX5_init_6 : decode cX5_init 6 = .ok (.putfield 9, 3) := by decide +kernel
theorem dX5_init_9 : decode cX5_init 9 = .ok (.aload_n 0, 1) := by decide +kernel
theorem dX5_init_10 : decode cX5_init 10 = .ok (.iconst 4, 1) := by decide +kernel
theorem dX5_init_11 : decode cX5_init 11 = .ok (.newarray .int, 2) := by decide +kernel
theorem dX5_init_13 : decode cX5_init 13 = .ok (.putfield 15, 3) := by decide +kernel
theorem dX5_init_16 : decode cX5_init 16 = .ok (.aload_n 0, 1) := by decide +kernel
theorem dX5_init_17 : decode cX5_init 17 = .ok (.iconst 4, 1) := by decide +kernel
theorem dX5_init_18 : decode cX5_init 18 = .ok (.newarray .int, 2) := by decide +kernel
theorem dX5_init_20 : decode cX5_init 20 = .ok (.putfield 19, 3) := by decide +kernel
theorem dX5_init_23 : decode cX5_init 23 = .ok (.aload_n 0, 1) := by decide +kernel
theorem dX5_init_24 : decode cX5_init 24 = .ok (.bipush 8, 2) := by decide +kernel
theorem dX5_init_26 : decode cX5_init 26 = .ok (.newarray .int, 2) := by decide +kernel
theorem dX5_init_28 : decode cX5_init 28 = .ok (.putfield 22, 3) := by decide +kernel
theorem dX5_init_31 : decode cX5_init 31 = .ok (.aload_n 0, 1) := by decide +kernel
theorem dX5_init_32 : decode cX5_init 32 = .ok (.bipush 8, 2) := by decide +kernel
theorem dX5_init_34 : decode cX5_init 34 = .ok (.newarray .int, 2) := by decide +kernel
theorem dX5_init_36 : decode cX5_init 36 = .ok (.putfield 25, 3) := by decide +kernel
theorem dX5_init_39 : decode cX5_init 39 = .ok (.aload_n 0, 1) := by decide +kernel
theorem dX5_init_40 : decode cX5_init 40 = .ok (.bipush 40, 2) := by decide +kernel
theorem dX5_init_42 : decode cX5_init 42 = .ok (.newarray .int, 2) := by decide +kernel
theorem dX5_init_44 : decode cX5_init 44 = .ok (.putfield 28, 3) := by decide +kernel
theorem dX5_init_47 : decode cX5_init 47 = .ok (.aload_n 0, 1) := by decide +kernel
theorem dX5_init_48 : decode cX5_init 48 = .ok (.bipush 40, 2) := by decide +kernel
theorem dX5_init_50 : decode cX5_init 50 = .ok (.newarray .int, 2) := by decide +kernel
theorem dX5_init_52 : decode cX5_init 52 = .ok (.putfield 31, 3) := by decide +kernel
theorem dX5_init_55 : decode cX5_init 55 = .ok (.aload_n 0, 1) := by decide +kernel
theorem dX5_init_56 : decode cX5_init 56 = .ok (.sipush 160, 3) := by decide +kernel
theorem dX5_init_59 : decode cX5_init 59 = .ok (.newarray .int, 2) := by decide +kernel
theorem dX5_init_61 : decode cX5_init 61 = .ok (.putfield 34, 3) := by decide +kernel
theorem dX5_init_64 : decode cX5_init 64 = .ok (.aload_n 0, 1) := by decide +kernel
theorem dX5_init_65 : decode cX5_init 65 = .ok (.sipush 160, 3) := by decide +kernel
theorem dX5_init_68 : decode cX5_init 68 = .ok (.newarray .int, 2) := by decide +kernel
theorem dX5_init_70 : decode cX5_init 70 = .ok (.putfield 37, 3) := by decide +kernel
theorem dX5_init_73 : decode cX5_init 73 = .ok (.return_, 1) := by decide +kernel
theorem dX5_clear_0 : decode cX5_clear 0 = .ok (.aload_n 0, 1) := by decide +kernel
theorem dX5_clear_1 : decode cX5_clear 1 = .ok (.iconst 1, 1) := by decide +kernel
theorem dX5_clear_2 : decode cX5_clear 2 = .ok (.putfield 9, 3) := by decide +kernel
theorem dX5_clear_5 : decode cX5_clear 5 = .ok (.aload_n 0, 1) := by decide +kernel
theorem dX5_clear_6 : decode cX5_clear 6 = .ok (.iconst 0, 1) := by decide +kernel
theorem dX5_clear_7 : decode cX5_clear 7 = .ok (.putfield 40, 3) := by decide +kernel
theorem dX5_clear_10 : decode cX5_clear 10 = .ok (.aload_n 0, 1) := by decide +kernel
theorem dX5_clear_11 : decode cX5_clear 11 = .ok (.iconst 0, 1) := by decide +kernel
theorem dX5_clear_12 : decode cX5_clear 12 = .ok (.putfield 43, 3) := by decide +kernel
theorem dX5_clear_15 : decode cX5_clear 15 = .ok (.aload_n 0, 1) := by decide +kernel
theorem dX5_clear_16 : decode cX5_clear 16 = .ok (.iconst 0, 1) := by decide +kernel
theorem dX5_clear_17 : decode cX5_clear 17 = .ok (.putfield 46, 3) := by decide +kernel
theorem dX5_clear_20 : decode cX5_clear 20 = .ok (.aload_n 0, 1) := by decide +kernel
theorem dX5_clear_21 : decode cX5_clear 21 = .ok (.iconst 0, 1) := by decide +kernel
theorem dX5_clear_22 : decode cX5_clear 22 = .ok (.putfield 49, 3) := by decide +kernel
theorem dX5_clear_25 : decode cX5_clear 25 = .ok (.aload_n 0, 1) := by decide +kernel
theorem dX5_clear_26 : decode cX5_clear 26 = .ok (.getfield 15, 3) := by decide +kernel
theorem dX5_clear_29 : decode cX5_clear 29 = .ok (.iconst 0, 1) := by decide +kernel
theorem dX5_clear_30 : decode cX5_clear 30 = .ok (.invokestatic 52, 3) := by decide +kernel
theorem dX5_clear_33 : decode cX5_clear 33 = .ok (.aload_n 0, 1) := by decide +kernel
theorem dX5_clear_34 : decode cX5_clear 34 = .ok (.getfield 19, 3) := by decide +kernel
theorem dX5_clear_37 : decode cX5_clear 37 = .ok (.iconst 0, 1) := by decide +kernel
theorem dX5_clear_38 : decode cX5_clear 38 = .ok (.invokestatic 52, 3) := by decide +kernel
theorem dX5_clear_41 : decode cX5_clear 41 = .ok (.aload_n 0, 1) := by decide +kernel
theorem dX5_clear_42 : decode cX5_clear 42 = .ok (.getfield 22, 3) := by decide +kernel
theorem dX5_clear_45 : decode cX5_clear 45 = .ok (.iconst 0, 1) := by decide +kernel
theorem dX5_clear_46 : decode cX5_clear 46 = .ok (.invokestatic 52, 3) := by decide +kernel
theorem dX5_clear_49 : decode cX5_clear 49 = .ok (.aload_n 0, 1) := by decide +kernel
theorem dX5_clear_50 : decode cX5_clear 50 = .ok (.getfield 25, 3) := by decide +kernel
theorem dX5_clear_53 : decode cX5_clear 53 = .ok (.iconst 0, 1) := by decide +kernel
theorem dX5_clear_54 : decode cX5_clear 54 = .ok (.invokestatic 52, 3) := by decide +kernel
theorem dX5_clear_57 : decode cX5_clear 57 = .ok (.return_, 1) := by decide +kernel
theorem dX5_hasTongue_0 : decode cX5_hasTongue 0 = .ok (.iload_n 1, 1) := by decide +kernel
theorem dX5_hasTongue_1 : decode cX5_hasTongue 1 = .ok (.ifCond .lt 20, 3) := by decide +kernel
theorem dX5_hasTongue_4 : decode cX5_hasTongue 4 = .ok (.iload_n 1, 1) := by decide +kernel
theorem dX5_hasTongue_5 : decode cX5_hasTongue 5 = .ok (.aload_n 0, 1) := by decide +kernel
theorem dX5_hasTongue_6 : decode cX5_hasTongue 6 = .ok (.getfield 9, 3) := by decide +kernel
theorem dX5_hasTongue_9 : decode cX5_hasTongue 9 = .ok (.if_icmp .ge 12, 3) := by decide +kernel
theorem dX5_hasTongue_12 : decode cX5_hasTongue 12 = .ok (.iload_n 1, 1) := by decide +kernel
theorem dX5_hasTongue_13 : decode cX5_hasTongue 13 = .ok (.iconst 4, 1) := by decide +kernel
theorem dX5_hasTongue_14 : decode cX5_hasTongue 14 = .ok (.if_icmp .ge 7, 3) := by decide +kernel
theorem dX5_hasTongue_17 : decode cX5_hasTongue 17 = .ok (.iconst 1, 1) := by decide +kernel
theorem dX5_hasTongue_18 : decode cX5_hasTongue 18 = .ok (.goto 4, 3) := by decide +kernel
theorem dX5_hasTongue_21 : decode cX5_hasTongue 21 = .ok (.iconst 0, 1) := by decide +kernel
theorem dX5_hasTongue_22 : decode cX5_hasTongue 22 = .ok (.ireturn, 1) := by decide +kernel
theorem dX5_hasTitle_0 : decode cX5_hasTitle 0 = .ok (.iload_n 1, 1) := by decide +kernel
theorem dX5_hasTitle_1 : decode cX5_hasTitle 1 = .ok (.ifCond .lt 21, 3) := by decide +kernel
theorem dX5_hasTitle_4 : decode cX5_hasTitle 4 = .ok (.iload_n 1, 1) := by decide +kernel
theorem dX5_hasTitle_5 : decode cX5_hasTitle 5 = .ok (.aload_n 0, 1) := by decide +kernel
theorem dX5_hasTitle_6 : decode cX5_hasTitle 6 = .ok (.getfield 40, 3) := by decide +kernel
theorem dX5_hasTitle_9 : decode cX5_hasTitle 9 = .ok (.if_icmp .ge 13, 3) := by decide +kernel
theorem dX5_hasTitle_12 : decode cX5_hasTitle 12 = .ok (.iload_n 1, 1) := by decide +kernel
theorem dX5_hasTitle_13 : decode cX5_hasTitle 13 = .ok (.bipush 40, 2) := by decide +kernel
theorem dX5_hasTitle_15 : decode cX5_hasTitle 15 = .ok (.if_icmp .ge 7, 3) := by decide +kernel
theorem dX5_hasTitle_18 : decode cX5_hasTitle 18 = .ok (.iconst 1, 1) := by decide +kernel
theorem dX5_hasTitle_19 : decode cX5_hasTitle 19 = .ok (.goto 4, 3) := by decide +kernel
theorem dX5_hasTitle_22 : decode cX5_hasTitle 22 = .ok (.iconst 0, 1) := by decide +kernel
theorem dX5_hasTitle_23 : decode cX5_hasTitle 23 = .ok (.ireturn, 1) := by decide +kernel
theorem dX5_hasCut_0 : decode cX5_hasCut 0 = .ok (.iload_n 1, 1) := by decide +kernel
theorem dX5_hasCut_1 : decode cX5_hasCut 1 = .ok (.ifCond .lt 22, 3) := by decide +kernel
theorem dX5_hasCut_4 : decode cX5_hasCut 4 = .ok (.iload_n 1, 1) := by decide +kernel
theorem dX5_hasCut_5 : decode cX5_hasCut 5 = .ok (.bipush 8, 2) := by decide +kernel
theorem dX5_hasCut_7 : decode cX5_hasCut 7 = .ok (.if_icmp .ge 16, 3) := by decide +kernel
theorem dX5_hasCut_10 : decode cX5_hasCut 10 = .ok (.aload_n 0, 1) := by decide +kernel
theorem dX5_hasCut_11 : decode cX5_hasCut 11 = .ok (.getfield 25, 3) := by decide +kernel
theorem dX5_hasCut_14 : decode cX5_hasCut 14 = .ok (.iload_n 1, 1) := by decide +kernel
theorem dX5_hasCut_15 : decode cX5_hasCut 15 = .ok (.iaload, 1) := by decide +kernel
theorem dX5_hasCut_16 : decode cX5_hasCut 16 = .ok (.ifCond .le 7, 3) := by decide +kernel
theorem dX5_hasCut_19 : decode cX5_hasCut 19 = .ok (.iconst 1, 1) := by decide +kernel
theorem dX5_hasCut_20 : decode cX5_hasCut 20 = .ok (.goto 4, 3) := by decide +kernel
theorem dX5_hasCut_23 : decode cX5_hasCut 23 = .ok (.iconst 0, 1) := by decide +kernel
theorem dX5_hasCut_24 : decode cX5_hasCut 24 = .ok (.ireturn, 1) := by decide +kernel
theorem dX5_isFullOfMarks_0 : decode cX5_isFullOfMarks 0 = .ok (.aload_n 0, 1) := by decide +kernel
theorem dX5_isFullOfMarks_1 : decode cX5_isFullOfMarks 1 = .ok (.getfield 46, 3) := by decide +kernel
theorem dX5_isFullOfMarks_4 : decode cX5_isFullOfMarks 4 = .ok (.bipush 40, 2) := by decide +kernel
theorem dX5_isFullOfMarks_6 : decode cX5_isFullOfMarks 6 = .ok (.if_icmp .lt 7, 3) := by decide +kernel
theorem dX5_isFullOfMarks_9 : decode cX5_isFullOfMarks 9 = .ok (.iconst 1, 1) := by decide +kernel
theorem dX5_isFullOfMarks_10 : decode cX5_isFullOfMarks 10 = .ok (.goto 4, 3) := by decide +kernel
theorem dX5_isFullOfMarks_13 : decode cX5_isFullOfMarks 13 = .ok (.iconst 0, 1) := by decide +kernel
theorem dX5_isFullOfMarks_14 : decode cX5_isFullOfMarks 14 = .ok (.ireturn, 1) := by decide +kernel
theorem dX5_isFullOfCuts_0 : decode cX5_isFullOfCuts 0 = .ok (.aload_n 0, 1) := by decide +kernel
theorem dX5_isFullOfCuts_1 : decode cX5_isFullOfCuts 1 = .ok (.getfield 43, 3) := by decide +kernel
theorem dX5_isFullOfCuts_4 : decode cX5_isFullOfCuts 4 = .ok (.bipush 8, 2) := by decide +kernel
theorem dX5_isFullOfCuts_6 : decode cX5_isFullOfCuts 6 = .ok (.if_icmp .lt 7, 3) := by decide +kernel
theorem dX5_isFullOfCuts_9 : decode cX5_isFullOfCuts 9 = .ok (.iconst 1, 1) := by decide +kernel
theorem dX5_isFullOfCuts_10 : decode cX5_isFullOfCuts 10 = .ok (.goto 4, 3) := by decide +kernel
theorem dX5_isFullOfCuts_13 : decode cX5_isFullOfCuts 13 = .ok (.iconst 0, 1) := by decide +kernel
theorem dX5_isFullOfCuts_14 : decode cX5_isFullOfCuts 14 = .ok (.ireturn, 1) := by decide +kernel
theorem dX5_tells_0 : decode cX5_tells 0 = .ok (.aload_n 0, 1) := by decide +kernel
theorem dX5_tells_1 : decode cX5_tells 1 = .ok (.iload_n 2, 1) := by decide +kernel
theorem dX5_tells_2 : decode cX5_tells 2 = .ok (.invokevirtual 58, 3) := by decide +kernel
theorem dX5_tells_5 : decode cX5_tells 5 = .ok (.ifCond .eq 19, 3) := by decide +kernel
theorem dX5_tells_8 : decode cX5_tells 8 = .ok (.iload_n 2, 1) := by decide +kernel
theorem dX5_tells_9 : decode cX5_tells 9 = .ok (.aload_n 1, 1) := by decide +kernel
theorem dX5_tells_10 : decode cX5_tells 10 = .ok (.arraylength, 1) := by decide +kernel
theorem dX5_tells_11 : decode cX5_tells 11 = .ok (.if_icmp .ge 13, 3) := by decide +kernel
theorem dX5_tells_14 : decode cX5_tells 14 = .ok (.aload_n 1, 1) := by decide +kernel
theorem dX5_tells_15 : decode cX5_tells 15 = .ok (.iload_n 2, 1) := by decide +kernel
theorem dX5_tells_16 : decode cX5_tells 16 = .ok (.iaload, 1) := by decide +kernel
theorem dX5_tells_17 : decode cX5_tells 17 = .ok (.ifCond .le 7, 3) := by decide +kernel
theorem dX5_tells_20 : decode cX5_tells 20 = .ok (.iconst 1, 1) := by decide +kernel
theorem dX5_tells_21 : decode cX5_tells 21 = .ok (.goto 4, 3) := by decide +kernel
theorem dX5_tells_24 : decode cX5_tells 24 = .ok (.iconst 0, 1) := by decide +kernel
theorem dX5_tells_25 : decode cX5_tells 25 = .ok (.ireturn, 1) := by decide +kernel
theorem dX5_tell_0 : decode cX5_tell 0 = .ok (.aload_n 0, 1) := by decide +kernel
theorem dX5_tell_1 : decode cX5_tell 1 = .ok (.iload_n 2, 1) := by decide +kernel
theorem dX5_tell_2 : decode cX5_tell 2 = .ok (.invokevirtual 58, 3) := by decide +kernel
theorem dX5_tell_5 : decode cX5_tell 5 = .ok (.ifCond .eq 13, 3) := by decide +kernel
theorem dX5_tell_8 : decode cX5_tell 8 = .ok (.iload_n 2, 1) := by decide +kernel
theorem dX5_tell_9 : decode cX5_tell 9 = .ok (.aload_n 1, 1) := by decide +kernel
theorem dX5_tell_10 : decode cX5_tell 10 = .ok (.arraylength, 1) := by decide +kernel
theorem dX5_tell_11 : decode cX5_tell 11 = .ok (.if_icmp .ge 7, 3) := by decide +kernel
theorem dX5_tell_14 : decode cX5_tell 14 = .ok (.aload_n 1, 1) := by decide +kernel
theorem dX5_tell_15 : decode cX5_tell 15 = .ok (.iload_n 2, 1) := by decide +kernel
theorem dX5_tell_16 : decode cX5_tell 16 = .ok (.iload_n 3, 1) := by decide +kernel
theorem dX5_tell_17 : decode cX5_tell 17 = .ok (.iastore, 1) := by decide +kernel
theorem dX5_tell_18 : decode cX5_tell 18 = .ok (.return_, 1) := by decide +kernel
theorem dX5_tellsBeats_0 : decode cX5_tellsBeats 0 = .ok (.aload_n 0, 1) := by decide +kernel
theorem dX5_tellsBeats_1 : decode cX5_tellsBeats 1 = .ok (.getfield 49, 3) := by decide +kernel
theorem dX5_tellsBeats_4 : decode cX5_tellsBeats 4 = .ok (.ifCond .le 7, 3) := by decide +kernel
theorem dX5_tellsBeats_7 : decode cX5_tellsBeats 7 = .ok (.iconst 1, 1) := by decide +kernel
theorem dX5_tellsBeats_8 : decode cX5_tellsBeats 8 = .ok (.goto 4, 3) := by decide +kernel
theorem dX5_tellsBeats_11 : decode cX5_tellsBeats 11 = .ok (.iconst 0, 1) := by decide +kernel
theorem dX5_tellsBeats_12 : decode cX5_tellsBeats 12 = .ok (.ireturn, 1) := by decide +kernel
theorem dX5_tellBeats_0 : decode cX5_tellBeats 0 = .ok (.aload_n 0, 1) := by decide +kernel
theorem dX5_tellBeats_1 : decode cX5_tellBeats 1 = .ok (.iload_n 1, 1) := by decide +kernel
theorem dX5_tellBeats_2 : decode cX5_tellBeats 2 = .ok (.putfield 49, 3) := by decide +kernel
theorem dX5_tellBeats_5 : decode cX5_tellBeats 5 = .ok (.return_, 1) := by decide +kernel
theorem dX5_widthOf_0 : decode cX5_widthOf 0 = .ok (.aload_n 0, 1) := by decide +kernel
theorem dX5_widthOf_1 : decode cX5_widthOf 1 = .ok (.aload_n 0, 1) := by decide +kernel
theorem dX5_widthOf_2 : decode cX5_widthOf 2 = .ok (.getfield 15, 3) := by decide +kernel
theorem dX5_widthOf_5 : decode cX5_widthOf 5 = .ok (.iload_n 1, 1) := by decide +kernel
theorem dX5_widthOf_6 : decode cX5_widthOf 6 = .ok (.invokevirtual 62, 3) := by decide +kernel
theorem dX5_widthOf_9 : decode cX5_widthOf 9 = .ok (.ifCond .eq 12, 3) := by decide +kernel
theorem dX5_widthOf_12 : decode cX5_widthOf 12 = .ok (.aload_n 0, 1) := by decide +kernel
theorem dX5_widthOf_13 : decode cX5_widthOf 13 = .ok (.getfield 15, 3) := by decide +kernel
theorem dX5_widthOf_16 : decode cX5_widthOf 16 = .ok (.iload_n 1, 1) := by decide +kernel
theorem dX5_widthOf_17 : decode cX5_widthOf 17 = .ok (.iaload, 1) := by decide +kernel
theorem dX5_widthOf_18 : decode cX5_widthOf 18 = .ok (.goto 5, 3) := by decide +kernel
theorem dX5_widthOf_21 : decode cX5_widthOf 21 = .ok (.bipush 20, 2) := by decide +kernel
theorem dX5_widthOf_23 : decode cX5_widthOf 23 = .ok (.ireturn, 1) := by decide +kernel
theorem dX5_speedOf_0 : decode cX5_speedOf 0 = .ok (.aload_n 0, 1) := by decide +kernel
theorem dX5_speedOf_1 : decode cX5_speedOf 1 = .ok (.aload_n 0, 1) := by decide +kernel
theorem dX5_speedOf_2 : decode cX5_speedOf 2 = .ok (.getfield 19, 3) := by decide +kernel
theorem dX5_speedOf_5 : decode cX5_speedOf 5 = .ok (.iload_n 1, 1) := by decide +kernel
theorem dX5_speedOf_6 : decode cX5_speedOf 6 = .ok (.invokevirtual 62, 3) := by decide +kernel
theorem dX5_speedOf_9 : decode cX5_speedOf 9 = .ok (.ifCond .eq 12, 3) := by decide +kernel
theorem dX5_speedOf_12 : decode cX5_speedOf 12 = .ok (.aload_n 0, 1) := by decide +kernel
theorem dX5_speedOf_13 : decode cX5_speedOf 13 = .ok (.getfield 19, 3) := by decide +kernel
theorem dX5_speedOf_16 : decode cX5_speedOf 16 = .ok (.iload_n 1, 1) := by decide +kernel
theorem dX5_speedOf_17 : decode cX5_speedOf 17 = .ok (.iaload, 1) := by decide +kernel
theorem dX5_speedOf_18 : decode cX5_speedOf 18 = .ok (.goto 4, 3) := by decide +kernel
theorem dX5_speedOf_21 : decode cX5_speedOf 21 = .ok (.iconst 4, 1) := by decide +kernel
theorem dX5_speedOf_22 : decode cX5_speedOf 22 = .ok (.ireturn, 1) := by decide +kernel
theorem dX5_beatsOfBar_0 : decode cX5_beatsOfBar 0 = .ok (.aload_n 0, 1) := by decide +kernel
theorem dX5_beatsOfBar_1 : decode cX5_beatsOfBar 1 = .ok (.invokevirtual 66, 3) := by decide +kernel
theorem dX5_beatsOfBar_4 : decode cX5_beatsOfBar 4 = .ok (.ifCond .eq 10, 3) := by decide +kernel
theorem dX5_beatsOfBar_7 : decode cX5_beatsOfBar 7 = .ok (.aload_n 0, 1) := by decide +kernel
theorem dX5_beatsOfBar_8 : decode cX5_beatsOfBar 8 = .ok (.getfield 49, 3) := by decide +kernel
theorem dX5_beatsOfBar_11 : decode cX5_beatsOfBar 11 = .ok (.goto 4, 3) := by decide +kernel
theorem dX5_beatsOfBar_14 : decode cX5_beatsOfBar 14 = .ok (.iconst 4, 1) := by decide +kernel
theorem dX5_beatsOfBar_15 : decode cX5_beatsOfBar 15 = .ok (.ireturn, 1) := by decide +kernel
theorem dX5_addMark_0 : decode cX5_addMark 0 = .ok (.aload_n 0, 1) := by decide +kernel
theorem dX5_addMark_1 : decode cX5_addMark 1 = .ok (.invokevirtual 70, 3) := by decide +kernel
theorem dX5_addMark_4 : decode cX5_addMark 4 = .ok (.ifCond .ne 23, 3) := by decide +kernel
theorem dX5_addMark_7 : decode cX5_addMark 7 = .ok (.aload_n 0, 1) := by decide +kernel
theorem dX5_addMark_8 : decode cX5_addMark 8 = .ok (.getfield 28, 3) := by decide +kernel
theorem dX5_addMark_11 : decode cX5_addMark 11 = .ok (.aload_n 0, 1) := by decide +kernel
theorem dX5_addMark_12 : decode cX5_addMark 12 = .ok (.getfield 46, 3) := by decide +kernel
theorem dX5_addMark_15 : decode cX5_addMark 15 = .ok (.iload_n 1, 1) := by decide +kernel
theorem dX5_addMark_16 : decode cX5_addMark 16 = .ok (.iastore, 1) := by decide +kernel
theorem dX5_addMark_17 : decode cX5_addMark 17 = .ok (.aload_n 0, 1) := by decide +kernel
theorem dX5_addMark_18 : decode cX5_addMark 18 = .ok (.dup, 1) := by decide +kernel
theorem dX5_addMark_19 : decode cX5_addMark 19 = .ok (.getfield 46, 3) := by decide +kernel
theorem dX5_addMark_22 : decode cX5_addMark 22 = .ok (.iconst 1, 1) := by decide +kernel
theorem dX5_addMark_23 : decode cX5_addMark 23 = .ok (.iadd, 1) := by decide +kernel
theorem dX5_addMark_24 : decode cX5_addMark 24 = .ok (.putfield 46, 3) := by decide +kernel
theorem dX5_addMark_27 : decode cX5_addMark 27 = .ok (.return_, 1) := by decide +kernel
theorem dX5_addTitle_0 : decode cX5_addTitle 0 = .ok (.aload_n 0, 1) := by decide +kernel
theorem dX5_addTitle_1 : decode cX5_addTitle 1 = .ok (.getfield 40, 3) := by decide +kernel
theorem dX5_addTitle_4 : decode cX5_addTitle 4 = .ok (.aload_n 0, 1) := by decide +kernel
theorem dX5_addTitle_5 : decode cX5_addTitle 5 = .ok (.getfield 46, 3) := by decide +kernel
theorem dX5_addTitle_8 : decode cX5_addTitle 8 = .ok (.if_icmp .ge 12, 3) := by decide +kernel
theorem dX5_addTitle_11 : decode cX5_addTitle 11 = .ok (.aload_n 0, 1) := by decide +kernel
theorem dX5_addTitle_12 : decode cX5_addTitle 12 = .ok (.getfield 40, 3) := by decide +kernel
theorem dX5_addTitle_15 : decode cX5_addTitle 15 = .ok (.bipush 40, 2) := by decide +kernel
theorem dX5_addTitle_17 : decode cX5_addTitle 17 = .ok (.if_icmp .lt 4, 3) := by decide +kernel
theorem dX5_addTitle_20 : decode cX5_addTitle 20 = .ok (.return_, 1) := by decide +kernel
theorem dX5_addTitle_21 : decode cX5_addTitle 21 = .ok (.aload_n 0, 1) := by decide +kernel
theorem dX5_addTitle_22 : decode cX5_addTitle 22 = .ok (.getfield 31, 3) := by decide +kernel
theorem dX5_addTitle_25 : decode cX5_addTitle 25 = .ok (.aload_n 0, 1) := by decide +kernel
theorem dX5_addTitle_26 : decode cX5_addTitle 26 = .ok (.getfield 40, 3) := by decide +kernel
theorem dX5_addTitle_29 : decode cX5_addTitle 29 = .ok (.aload_n 0, 1) := by decide +kernel
theorem dX5_addTitle_30 : decode cX5_addTitle 30 = .ok (.getfield 46, 3) := by decide +kernel
theorem dX5_addTitle_33 : decode cX5_addTitle 33 = .ok (.iconst 1, 1) := by decide +kernel
theorem dX5_addTitle_34 : decode cX5_addTitle 34 = .ok (.isub, 1) := by decide +kernel
theorem dX5_addTitle_35 : decode cX5_addTitle 35 = .ok (.iastore, 1) := by decide +kernel
theorem dX5_addTitle_36 : decode cX5_addTitle 36 = .ok (.aload_n 0, 1) := by decide +kernel
theorem dX5_addTitle_37 : decode cX5_addTitle 37 = .ok (.dup, 1) := by decide +kernel
theorem dX5_addTitle_38 : decode cX5_addTitle 38 = .ok (.getfield 40, 3) := by decide +kernel
theorem dX5_addTitle_41 : decode cX5_addTitle 41 = .ok (.iconst 1, 1) := by decide +kernel
theorem dX5_addTitle_42 : decode cX5_addTitle 42 = .ok (.iadd, 1) := by decide +kernel
theorem dX5_addTitle_43 : decode cX5_addTitle 43 = .ok (.putfield 40, 3) := by decide +kernel
theorem dX5_addTitle_46 : decode cX5_addTitle 46 = .ok (.iconst 0, 1) := by decide +kernel
theorem dX5_addTitle_47 : decode cX5_addTitle 47 = .ok (.istore_n 3, 1) := by decide +kernel
theorem dX5_addTitle_48 : decode cX5_addTitle 48 = .ok (.iload_n 3, 1) := by decide +kernel
theorem dX5_addTitle_49 : decode cX5_addTitle 49 = .ok (.iconst 4, 1) := by decide +kernel
theorem dX5_addTitle_50 : decode cX5_addTitle 50 = .ok (.if_icmp .ge 16, 3) := by decide +kernel
theorem dX5_addTitle_53 : decode cX5_addTitle 53 = .ok (.aload_n 0, 1) := by decide +kernel
theorem dX5_addTitle_54 : decode cX5_addTitle 54 = .ok (.iload_n 3, 1) := by decide +kernel
theorem dX5_addTitle_55 : decode cX5_addTitle 55 = .ok (.iload_n 1, 1) := by decide +kernel
theorem dX5_addTitle_56 : decode cX5_addTitle 56 = .ok (.iload_n 2, 1) := by decide +kernel
theorem dX5_addTitle_57 : decode cX5_addTitle 57 = .ok (.invokevirtual 73, 3) := by decide +kernel
theorem dX5_addTitle_60 : decode cX5_addTitle 60 = .ok (.iinc 3 1, 3) := by decide +kernel
theorem dX5_addTitle_63 : decode cX5_addTitle 63 = .ok (.goto (-15), 3) := by decide +kernel
theorem dX5_addTitle_66 : decode cX5_addTitle 66 = .ok (.return_, 1) := by decide +kernel
theorem dX5_setString_0 : decode cX5_setString 0 = .ok (.aload_n 0, 1) := by decide +kernel
theorem dX5_setString_1 : decode cX5_setString 1 = .ok (.getfield 40, 3) := by decide +kernel
theorem dX5_setString_4 : decode cX5_setString 4 = .ok (.iconst 1, 1) := by decide +kernel
theorem dX5_setString_5 : decode cX5_setString 5 = .ok (.isub, 1) := by decide +kernel
theorem dX5_setString_6 : decode cX5_setString 6 = .ok (.iload_n 1, 1) := by decide +kernel
theorem dX5_setString_7 : decode cX5_setString 7 = .ok (.invokestatic 77, 3) := by decide +kernel
theorem dX5_setString_10 : decode cX5_setString 10 = .ok (.istore 4, 2) := by decide +kernel
theorem dX5_setString_12 : decode cX5_setString 12 = .ok (.iload 4, 2) := by decide +kernel
theorem dX5_setString_14 : decode cX5_setString 14 = .ok (.iconst (-1), 1) := by decide +kernel
theorem dX5_setString_15 : decode cX5_setString 15 = .ok (.if_icmp .eq 19, 3) := by decide +kernel
theorem dX5_setString_18 : decode cX5_setString 18 = .ok (.aload_n 0, 1) := by decide +kernel
theorem dX5_setString_19 : decode cX5_setString 19 = .ok (.getfield 34, 3) := by decide +kernel
theorem dX5_setString_22 : decode cX5_setString 22 = .ok (.iload 4, 2) := by decide +kernel
theorem dX5_setString_24 : decode cX5_setString 24 = .ok (.iload_n 2, 1) := by decide +kernel
theorem dX5_setString_25 : decode cX5_setString 25 = .ok (.iastore, 1) := by decide +kernel
theorem dX5_setString_26 : decode cX5_setString 26 = .ok (.aload_n 0, 1) := by decide +kernel
theorem dX5_setString_27 : decode cX5_setString 27 = .ok (.getfield 37, 3) := by decide +kernel
theorem dX5_setString_30 : decode cX5_setString 30 = .ok (.iload 4, 2) := by decide +kernel
theorem dX5_setString_32 : decode cX5_setString 32 = .ok (.iload_n 3, 1) := by decide +kernel
theorem dX5_setString_33 : decode cX5_setString 33 = .ok (.iastore, 1) := by decide +kernel
theorem dX5_setString_34 : decode cX5_setString 34 = .ok (.return_, 1) := by decide +kernel
theorem dX5_addCut_0 : decode cX5_addCut 0 = .ok (.iload_n 1, 1) := by decide +kernel
theorem dX5_addCut_1 : decode cX5_addCut 1 = .ok (.ifCond .lt 33, 3) := by decide +kernel
theorem dX5_addCut_4 : decode cX5_addCut 4 = .ok (.iload_n 1, 1) := by decide +kernel
theorem dX5_addCut_5 : decode cX5_addCut 5 = .ok (.bipush 8, 2) := by decide +kernel
theorem dX5_addCut_7 : decode cX5_addCut 7 = .ok (.if_icmp .ge 27, 3) := by decide +kernel
theorem dX5_addCut_10 : decode cX5_addCut 10 = .ok (.aload_n 0, 1) := by decide +kernel
theorem dX5_addCut_11 : decode cX5_addCut 11 = .ok (.getfield 22, 3) := by decide +kernel
theorem dX5_addCut_14 : decode cX5_addCut 14 = .ok (.iload_n 1, 1) := by decide +kernel
theorem dX5_addCut_15 : decode cX5_addCut 15 = .ok (.iload_n 2, 1) := by decide +kernel
theorem dX5_addCut_16 : decode cX5_addCut 16 = .ok (.iastore, 1) := by decide +kernel
theorem dX5_addCut_17 : decode cX5_addCut 17 = .ok (.aload_n 0, 1) := by decide +kernel
theorem dX5_addCut_18 : decode cX5_addCut 18 = .ok (.getfield 25, 3) := by decide +kernel
theorem dX5_addCut_21 : decode cX5_addCut 21 = .ok (.iload_n 1, 1) := by decide +kernel
theorem dX5_addCut_22 : decode cX5_addCut 22 = .ok (.iload_n 3, 1) := by decide +kernel
theorem dX5_addCut_23 : decode cX5_addCut 23 = .ok (.iastore, 1) := by decide +kernel
theorem dX5_addCut_24 : decode cX5_addCut 24 = .ok (.aload_n 0, 1) := by decide +kernel
theorem dX5_addCut_25 : decode cX5_addCut 25 = .ok (.dup, 1) := by decide +kernel
theorem dX5_addCut_26 : decode cX5_addCut 26 = .ok (.getfield 43, 3) := by decide +kernel
theorem dX5_addCut_29 : decode cX5_addCut 29 = .ok (.iconst 1, 1) := by decide +kernel
theorem dX5_addCut_30 : decode cX5_addCut 30 = .ok (.iadd, 1) := by decide +kernel
theorem dX5_addCut_31 : decode cX5_addCut 31 = .ok (.putfield 43, 3) := by decide +kernel
theorem dX5_addCut_34 : decode cX5_addCut 34 = .ok (.return_, 1) := by decide +kernel
theorem dX5_latestBar_0 : decode cX5_latestBar 0 = .ok (.aload_n 0, 1) := by decide +kernel
theorem dX5_latestBar_1 : decode cX5_latestBar 1 = .ok (.aload_n 0, 1) := by decide +kernel
theorem dX5_latestBar_2 : decode cX5_latestBar 2 = .ok (.getfield 46, 3) := by decide +kernel
theorem dX5_latestBar_5 : decode cX5_latestBar 5 = .ok (.iconst 1, 1) := by decide +kernel
theorem dX5_latestBar_6 : decode cX5_latestBar 6 = .ok (.isub, 1) := by decide +kernel
theorem dX5_latestBar_7 : decode cX5_latestBar 7 = .ok (.iconst 0, 1) := by decide +kernel
theorem dX5_latestBar_8 : decode cX5_latestBar 8 = .ok (.invokevirtual 81, 3) := by decide +kernel
theorem dX5_latestBar_11 : decode cX5_latestBar 11 = .ok (.ireturn, 1) := by decide +kernel
theorem dX5_barOf_0 : decode cX5_barOf 0 = .ok (.aload_n 0, 1) := by decide +kernel
theorem dX5_barOf_1 : decode cX5_barOf 1 = .ok (.iload_n 1, 1) := by decide +kernel
theorem dX5_barOf_2 : decode cX5_barOf 2 = .ok (.invokevirtual 84, 3) := by decide +kernel
theorem dX5_barOf_5 : decode cX5_barOf 5 = .ok (.ifCond .eq 17, 3) := by decide +kernel
theorem dX5_barOf_8 : decode cX5_barOf 8 = .ok (.aload_n 0, 1) := by decide +kernel
theorem dX5_barOf_9 : decode cX5_barOf 9 = .ok (.aload_n 0, 1) := by decide +kernel
theorem dX5_barOf_10 : decode cX5_barOf 10 = .ok (.getfield 31, 3) := by decide +kernel
theorem dX5_barOf_13 : decode cX5_barOf 13 = .ok (.iload_n 1, 1) := by decide +kernel
theorem dX5_barOf_14 : decode cX5_barOf 14 = .ok (.iaload, 1) := by decide +kernel
theorem dX5_barOf_15 : decode cX5_barOf 15 = .ok (.iconst 0, 1) := by decide +kernel
theorem dX5_barOf_16 : decode cX5_barOf 16 = .ok (.invokevirtual 81, 3) := by decide +kernel
theorem dX5_barOf_19 : decode cX5_barOf 19 = .ok (.goto 4, 3) := by decide +kernel
theorem dX5_barOf_22 : decode cX5_barOf 22 = .ok (.iconst 0, 1) := by decide +kernel
theorem dX5_barOf_23 : decode cX5_barOf 23 = .ok (.ireturn, 1) := by decide +kernel
theorem dX5_endOf_0 : decode cX5_endOf 0 = .ok (.aload_n 0, 1) := by decide +kernel
theorem dX5_endOf_1 : decode cX5_endOf 1 = .ok (.iload_n 1, 1) := by decide +kernel
theorem dX5_endOf_2 : decode cX5_endOf 2 = .ok (.invokevirtual 84, 3) := by decide +kernel
theorem dX5_endOf_5 : decode cX5_endOf 5 = .ok (.ifCond .eq 21, 3) := by decide +kernel
theorem dX5_endOf_8 : decode cX5_endOf 8 = .ok (.aload_n 0, 1) := by decide +kernel
theorem dX5_endOf_9 : decode cX5_endOf 9 = .ok (.aload_n 0, 1) := by decide +kernel
theorem dX5_endOf_10 : decode cX5_endOf 10 = .ok (.getfield 31, 3) := by decide +kernel
theorem dX5_endOf_13 : decode cX5_endOf 13 = .ok (.iload_n 1, 1) := by decide +kernel
theorem dX5_endOf_14 : decode cX5_endOf 14 = .ok (.iaload, 1) := by decide +kernel
theorem dX5_endOf_15 : decode cX5_endOf 15 = .ok (.iconst 1, 1) := by decide +kernel
theorem dX5_endOf_16 : decode cX5_endOf 16 = .ok (.iadd, 1) := by decide +kernel
theorem dX5_endOf_17 : decode cX5_endOf 17 = .ok (.sipush 1000, 3) := by decide +kernel
theorem dX5_endOf_20 : decode cX5_endOf 20 = .ok (.invokevirtual 81, 3) := by decide +kernel
theorem dX5_endOf_23 : decode cX5_endOf 23 = .ok (.goto 4, 3) := by decide +kernel
theorem dX5_endOf_26 : decode cX5_endOf 26 = .ok (.iconst 0, 1) := by decide +kernel
theorem dX5_endOf_27 : decode cX5_endOf 27 = .ok (.ireturn, 1) := by decide +kernel
theorem dX5_barOfMark_0 : decode cX5_barOfMark 0 = .ok (.iload_n 1, 1) := by decide +kernel
theorem dX5_barOfMark_1 : decode cX5_barOfMark 1 = .ok (.ifCond .lt 26, 3) := by decide +kernel
theorem dX5_barOfMark_4 : decode cX5_barOfMark 4 = .ok (.iload_n 1, 1) := by decide +kernel
theorem dX5_barOfMark_5 : decode cX5_barOfMark 5 = .ok (.aload_n 0, 1) := by decide +kernel
theorem dX5_barOfMark_6 : decode cX5_barOfMark 6 = .ok (.getfield 46, 3) := by decide +kernel
theorem dX5_barOfMark_9 : decode cX5_barOfMark 9 = .ok (.if_icmp .ge 18, 3) := by decide +kernel
theorem dX5_barOfMark_12 : decode cX5_barOfMark 12 = .ok (.iload_n 1, 1) := by decide +kernel
theorem dX5_barOfMark_13 : decode cX5_barOfMark 13 = .ok (.bipush 40, 2) := by decide +kernel
theorem dX5_barOfMark_15 : decode cX5_barOfMark 15 = .ok (.if_icmp .ge 12, 3) := by decide +kernel
theorem dX5_barOfMark_18 : decode cX5_barOfMark 18 = .ok (.aload_n 0, 1) := by decide +kernel
theorem dX5_barOfMark_19 : decode cX5_barOfMark 19 = .ok (.getfield 28, 3) := by decide +kernel
theorem dX5_barOfMark_22 : decode cX5_barOfMark 22 = .ok (.iload_n 1, 1) := by decide +kernel
theorem dX5_barOfMark_23 : decode cX5_barOfMark 23 = .ok (.iaload, 1) := by decide +kernel
theorem dX5_barOfMark_24 : decode cX5_barOfMark 24 = .ok (.goto 4, 3) := by decide +kernel
theorem dX5_barOfMark_27 : decode cX5_barOfMark 27 = .ok (.iload_n 2, 1) := by decide +kernel
theorem dX5_barOfMark_28 : decode cX5_barOfMark 28 = .ok (.ireturn, 1) := by decide +kernel
theorem dX5_titleAt_0 : decode cX5_titleAt 0 = .ok (.iconst 0, 1) := by decide +kernel
theorem dX5_titleAt_1 : decode cX5_titleAt 1 = .ok (.istore_n 2, 1) := by decide +kernel
theorem dX5_titleAt_2 : decode cX5_titleAt 2 = .ok (.iload_n 2, 1) := by decide +kernel
theorem dX5_titleAt_3 : decode cX5_titleAt 3 = .ok (.aload_n 0, 1) := by decide +kernel
theorem dX5_titleAt_4 : decode cX5_titleAt 4 = .ok (.getfield 40, 3) := by decide +kernel
theorem dX5_titleAt_7 : decode cX5_titleAt 7 = .ok (.if_icmp .ge 29, 3) := by decide +kernel
theorem dX5_titleAt_10 : decode cX5_titleAt 10 = .ok (.aload_n 0, 1) := by decide +kernel
theorem dX5_titleAt_11 : decode cX5_titleAt 11 = .ok (.iload_n 2, 1) := by decide +kernel
theorem dX5_titleAt_12 : decode cX5_titleAt 12 = .ok (.invokevirtual 87, 3) := by decide +kernel
theorem dX5_titleAt_15 : decode cX5_titleAt 15 = .ok (.iload_n 1, 1) := by decide +kernel
theorem dX5_titleAt_16 : decode cX5_titleAt 16 = .ok (.if_icmp .gt 14, 3) := by decide +kernel
theorem dX5_titleAt_19 : decode cX5_titleAt 19 = .ok (.iload_n 1, 1) := by decide +kernel
theorem dX5_titleAt_20 : decode cX5_titleAt 20 = .ok (.aload_n 0, 1) := by decide +kernel
theorem dX5_titleAt_21 : decode cX5_titleAt 21 = .ok (.iload_n 2, 1) := by decide +kernel
theorem dX5_titleAt_22 : decode cX5_titleAt 22 = .ok (.invokevirtual 91, 3) := by decide +kernel
theorem dX5_titleAt_25 : decode cX5_titleAt 25 = .ok (.if_icmp .ge 5, 3) := by decide +kernel
theorem dX5_titleAt_28 : decode cX5_titleAt 28 = .ok (.iload_n 2, 1) := by decide +kernel
theorem dX5_titleAt_29 : decode cX5_titleAt 29 = .ok (.ireturn, 1) := by decide +kernel
theorem dX5_titleAt_30 : decode cX5_titleAt 30 = .ok (.iinc 2 1, 3) := by decide +kernel
theorem dX5_titleAt_33 : decode cX5_titleAt 33 = .ok (.goto (-31), 3) := by decide +kernel
theorem dX5_titleAt_36 : decode cX5_titleAt 36 = .ok (.iconst (-1), 1) := by decide +kernel
theorem dX5_titleAt_37 : decode cX5_titleAt 37 = .ok (.ireturn, 1) := by decide +kernel
theorem dX5_stringFrom_0 : decode cX5_stringFrom 0 = .ok (.iload_n 1, 1) := by decide +kernel
theorem dX5_stringFrom_1 : decode cX5_stringFrom 1 = .ok (.iload_n 2, 1) := by decide +kernel
theorem dX5_stringFrom_2 : decode cX5_stringFrom 2 = .ok (.invokestatic 77, 3) := by decide +kernel
theorem dX5_stringFrom_5 : decode cX5_stringFrom 5 = .ok (.istore_n 3, 1) := by decide +kernel
theorem dX5_stringFrom_6 : decode cX5_stringFrom 6 = .ok (.iload_n 3, 1) := by decide +kernel
theorem dX5_stringFrom_7 : decode cX5_stringFrom 7 = .ok (.iconst (-1), 1) := by decide +kernel
theorem dX5_stringFrom_8 : decode cX5_stringFrom 8 = .ok (.if_icmp .ne 7, 3) := by decide +kernel
theorem dX5_stringFrom_11 : decode cX5_stringFrom 11 = .ok (.iconst 0, 1) := by decide +kernel
theorem dX5_stringFrom_12 : decode cX5_stringFrom 12 = .ok (.goto 9, 3) := by decide +kernel
theorem dX5_stringFrom_15 : decode cX5_stringFrom 15 = .ok (.aload_n 0, 1) := by decide +kernel
theorem dX5_stringFrom_16 : decode cX5_stringFrom 16 = .ok (.getfield 34, 3) := by decide +kernel
theorem dX5_stringFrom_19 : decode cX5_stringFrom 19 = .ok (.iload_n 3, 1) := by decide +kernel
theorem dX5_stringFrom_20 : decode cX5_stringFrom 20 = .ok (.iaload, 1) := by decide +kernel
theorem dX5_stringFrom_21 : decode cX5_stringFrom 21 = .ok (.ireturn, 1) := by decide +kernel
theorem dX5_stringLength_0 : decode cX5_stringLength 0 = .ok (.iload_n 1, 1) := by decide +kernel
theorem dX5_stringLength_1 : decode cX5_stringLength 1 = .ok (.iload_n 2, 1) := by decide +kernel
theorem dX5_stringLength_2 : decode cX5_stringLength 2 = .ok (.invokestatic 77, 3) := by decide +kernel
theorem dX5_stringLength_5 : decode cX5_stringLength 5 = .ok (.istore_n 3, 1) := by decide +kernel
theorem dX5_stringLength_6 : decode cX5_stringLength 6 = .ok (.iload_n 3, 1) := by decide +kernel
theorem dX5_stringLength_7 : decode cX5_stringLength 7 = .ok (.iconst (-1), 1) := by decide +kernel
theorem dX5_stringLength_8 : decode cX5_stringLength 8 = .ok (.if_icmp .ne 7, 3) := by decide +kernel
theorem dX5_stringLength_11 : decode cX5_stringLength 11 = .ok (.iconst 0, 1) := by decide +kernel
theorem dX5_stringLength_12 : decode cX5_stringLength 12 = .ok (.goto 9, 3) := by decide +kernel
theorem dX5_stringLength_15 : decode cX5_stringLength 15 = .ok (.aload_n 0, 1) := by decide +kernel
theorem dX5_stringLength_16 : decode cX5_stringLength 16 = .ok (.getfield 37, 3) := by decide +kernel
theorem dX5_stringLength_19 : decode cX5_stringLength 19 = .ok (.iload_n 3, 1) := by decide +kernel
theorem dX5_stringLength_20 : decode cX5_stringLength 20 = .ok (.iaload, 1) := by decide +kernel
theorem dX5_stringLength_21 : decode cX5_stringLength 21 = .ok (.ireturn, 1) := by decide +kernel
theorem dX5_slotOf_0 : decode cX5_slotOf 0 = .ok (.iload_n 0, 1) := by decide +kernel
theorem dX5_slotOf_1 : decode cX5_slotOf 1 = .ok (.ifCond .lt 18, 3) := by decide +kernel
theorem dX5_slotOf_4 : decode cX5_slotOf 4 = .ok (.iload_n 0, 1) := by decide +kernel
theorem dX5_slotOf_5 : decode cX5_slotOf 5 = .ok (.bipush 40, 2) := by decide +kernel
theorem dX5_slotOf_7 : decode cX5_slotOf 7 = .ok (.if_icmp .ge 12, 3) := by decide +kernel
theorem dX5_slotOf_10 : decode cX5_slotOf 10 = .ok (.iload_n 1, 1) := by decide +kernel
theorem dX5_slotOf_11 : decode cX5_slotOf 11 = .ok (.ifCond .lt 8, 3) := by decide +kernel
theorem dX5_slotOf_14 : decode cX5_slotOf 14 = .ok (.iload_n 1, 1) := by decide +kernel
theorem dX5_slotOf_15 : decode cX5_slotOf 15 = .ok (.iconst 4, 1) := by decide +kernel
theorem dX5_slotOf_16 : decode cX5_slotOf 16 = .ok (.if_icmp .lt 5, 3) := by decide +kernel
end
section
theorem dX5_slotOf_19 : decode cX5_slotOf 19 = .ok (.iconst (-1), 1) := by decide +kernel
theorem dX5_slotOf_20 : decode cX5_slotOf 20 = .ok (.ireturn, 1) := by decide +kernel
theorem dX5_slotOf_21 : decode cX5_slotOf 21 = .ok (.iload_n 0, 1) := by decide +kernel
theorem dX5_slotOf_22 : decode cX5_slotOf 22 = .ok (.iconst 4, 1) := by decide +kernel
theorem dX5_slotOf_23 : decode cX5_slotOf 23 = .ok (.imul, 1) := by decide +kernel
theorem dX5_slotOf_24 : decode cX5_slotOf 24 = .ok (.iload_n 1, 1) := by decide +kernel
theorem dX5_slotOf_25 : decode cX5_slotOf 25 = .ok (.iadd, 1) := by decide +kernel
theorem dX5_slotOf_26 : decode cX5_slotOf 26 = .ok (.ireturn, 1) := by decide +kernel
theorem dX5_cutTakes_0 : decode cX5_cutTakes 0 = .ok (.aload_n 0, 1) := by decide +kernel
theorem dX5_cutTakes_1 : decode cX5_cutTakes 1 = .ok (.iload_n 1, 1) := by decide +kernel
theorem dX5_cutTakes_2 : decode cX5_cutTakes 2 = .ok (.invokevirtual 94, 3) := by decide +kernel
theorem dX5_cutTakes_5 : decode cX5_cutTakes 5 = .ok (.ifCond .eq 27, 3) := by decide +kernel
theorem dX5_cutTakes_8 : decode cX5_cutTakes 8 = .ok (.aload_n 0, 1) := by decide +kernel
theorem dX5_cutTakes_9 : decode cX5_cutTakes 9 = .ok (.getfield 22, 3) := by decide +kernel
theorem dX5_cutTakes_12 : decode cX5_cutTakes 12 = .ok (.iload_n 1, 1) := by decide +kernel
theorem dX5_cutTakes_13 : decode cX5_cutTakes 13 = .ok (.iaload, 1) := by decide +kernel
theorem dX5_cutTakes_14 : decode cX5_cutTakes 14 = .ok (.iload_n 2, 1) := by decide +kernel
theorem dX5_cutTakes_15 : decode cX5_cutTakes 15 = .ok (.if_icmp .gt 17, 3) := by decide +kernel
theorem dX5_cutTakes_18 : decode cX5_cutTakes 18 = .ok (.iload_n 2, 1) := by decide +kernel
theorem dX5_cutTakes_19 : decode cX5_cutTakes 19 = .ok (.aload_n 0, 1) := by decide +kernel
theorem dX5_cutTakes_20 : decode cX5_cutTakes 20 = .ok (.getfield 25, 3) := by decide +kernel
theorem dX5_cutTakes_23 : decode cX5_cutTakes 23 = .ok (.iload_n 1, 1) := by decide +kernel
theorem dX5_cutTakes_24 : decode cX5_cutTakes 24 = .ok (.iaload, 1) := by decide +kernel
theorem dX5_cutTakes_25 : decode cX5_cutTakes 25 = .ok (.if_icmp .ge 7, 3) := by decide +kernel
theorem dX5_cutTakes_28 : decode cX5_cutTakes 28 = .ok (.iconst 1, 1) := by decide +kernel
theorem dX5_cutTakes_29 : decode cX5_cutTakes 29 = .ok (.goto 4, 3) := by decide +kernel
theorem dX5_cutTakes_32 : decode cX5_cutTakes 32 = .ok (.iconst 0, 1) := by decide +kernel
theorem dX5_cutTakes_33 : decode cX5_cutTakes 33 = .ok (.ireturn, 1) := by decide +kernel
theorem dX5_cutFirst_0 : decode cX5_cutFirst 0 = .ok (.aload_n 0, 1) := by decide +kernel
theorem dX5_cutFirst_1 : decode cX5_cutFirst 1 = .ok (.iload_n 1, 1) := by decide +kernel
theorem dX5_cutFirst_2 : decode cX5_cutFirst 2 = .ok (.invokevirtual 94, 3) := by decide +kernel
theorem dX5_cutFirst_5 : decode cX5_cutFirst 5 = .ok (.ifCond .eq 12, 3) := by decide +kernel
theorem dX5_cutFirst_8 : decode cX5_cutFirst 8 = .ok (.aload_n 0, 1) := by decide +kernel
theorem dX5_cutFirst_9 : decode cX5_cutFirst 9 = .ok (.getfield 22, 3) := by decide +kernel
theorem dX5_cutFirst_12 : decode cX5_cutFirst 12 = .ok (.iload_n 1, 1) := by decide +kernel
theorem dX5_cutFirst_13 : decode cX5_cutFirst 13 = .ok (.iaload, 1) := by decide +kernel
theorem dX5_cutFirst_14 : decode cX5_cutFirst 14 = .ok (.goto 6, 3) := by decide +kernel
theorem dX5_cutFirst_17 : decode cX5_cutFirst 17 = .ok (.sipush 1000, 3) := by decide +kernel
theorem dX5_cutFirst_20 : decode cX5_cutFirst 20 = .ok (.ireturn, 1) := by decide +kernel
theorem dX5_cutBehind_0 : decode cX5_cutBehind 0 = .ok (.aload_n 0, 1) := by decide +kernel
theorem dX5_cutBehind_1 : decode cX5_cutBehind 1 = .ok (.iload_n 1, 1) := by decide +kernel
theorem dX5_cutBehind_2 : decode cX5_cutBehind 2 = .ok (.invokevirtual 94, 3) := by decide +kernel
theorem dX5_cutBehind_5 : decode cX5_cutBehind 5 = .ok (.ifCond .eq 12, 3) := by decide +kernel
theorem dX5_cutBehind_8 : decode cX5_cutBehind 8 = .ok (.aload_n 0, 1) := by decide +kernel
theorem dX5_cutBehind_9 : decode cX5_cutBehind 9 = .ok (.getfield 25, 3) := by decide +kernel
theorem dX5_cutBehind_12 : decode cX5_cutBehind 12 = .ok (.iload_n 1, 1) := by decide +kernel
theorem dX5_cutBehind_13 : decode cX5_cutBehind 13 = .ok (.iaload, 1) := by decide +kernel
theorem dX5_cutBehind_14 : decode cX5_cutBehind 14 = .ok (.goto 4, 3) := by decide +kernel
theorem dX5_cutBehind_17 : decode cX5_cutBehind 17 = .ok (.iconst 0, 1) := by decide +kernel
theorem dX5_cutBehind_18 : decode cX5_cutBehind 18 = .ok (.ireturn, 1) := by decide +kernel
theorem dX6_init_0 : decode cX6_init 0 = .ok (.aload_n 0, 1) := by decide +kernel
theorem dX6_init_1 : decode cX6_init 1 = .ok (.invokespecial 3, 3) := by decide +kernel
theorem dX6_init_4 : decode cX6_init 4 = .ok (.aload_n 0, 1) := by decide +kernel
theorem dX6_init_5 : decode cX6_init 5 = .ok (.sipush 1500, 3) := by decide +kernel
theorem dX6_init_8 : decode cX6_init 8 = .ok (.newarray .byte, 2) := by decide +kernel
theorem dX6_init_10 : decode cX6_init 10 = .ok (.putfield 9, 3) := by decide +kernel
theorem dX6_init_13 : decode cX6_init 13 = .ok (.return_, 1) := by decide +kernel
theorem dX6_hasRoom_0 : decode cX6_hasRoom 0 = .ok (.aload_n 0, 1) := by decide +kernel
theorem dX6_hasRoom_1 : decode cX6_hasRoom 1 = .ok (.getfield 15, 3) := by decide +kernel
theorem dX6_hasRoom_4 : decode cX6_hasRoom 4 = .ok (.bipush 20, 2) := by decide +kernel
theorem dX6_hasRoom_6 : decode cX6_hasRoom 6 = .ok (.iadd, 1) := by decide +kernel
theorem dX6_hasRoom_7 : decode cX6_hasRoom 7 = .ok (.sipush 1500, 3) := by decide +kernel
theorem dX6_hasRoom_10 : decode cX6_hasRoom 10 = .ok (.if_icmp .gt 7, 3) := by decide +kernel
theorem dX6_hasRoom_13 : decode cX6_hasRoom 13 = .ok (.iconst 1, 1) := by decide +kernel
theorem dX6_hasRoom_14 : decode cX6_hasRoom 14 = .ok (.goto 4, 3) := by decide +kernel
theorem dX6_hasRoom_17 : decode cX6_hasRoom 17 = .ok (.iconst 0, 1) := by decide +kernel
theorem dX6_hasRoom_18 : decode cX6_hasRoom 18 = .ok (.ireturn, 1) := by decide +kernel
theorem dX6_holds_0 : decode cX6_holds 0 = .ok (.iload_n 1, 1) := by decide +kernel
theorem dX6_holds_1 : decode cX6_holds 1 = .ok (.ifCond .lt 15, 3) := by decide +kernel
theorem dX6_holds_4 : decode cX6_holds 4 = .ok (.iload_n 1, 1) := by decide +kernel
theorem dX6_holds_5 : decode cX6_holds 5 = .ok (.aload_n 0, 1) := by decide +kernel
theorem dX6_holds_6 : decode cX6_holds 6 = .ok (.getfield 15, 3) := by decide +kernel
theorem dX6_holds_9 : decode cX6_holds 9 = .ok (.if_icmp .gt 7, 3) := by decide +kernel
theorem dX6_holds_12 : decode cX6_holds 12 = .ok (.iconst 1, 1) := by decide +kernel
theorem dX6_holds_13 : decode cX6_holds 13 = .ok (.goto 4, 3) := by decide +kernel
theorem dX6_holds_16 : decode cX6_holds 16 = .ok (.iconst 0, 1) := by decide +kernel
theorem dX6_holds_17 : decode cX6_holds 17 = .ok (.ireturn, 1) := by decide +kernel
theorem dX6_append_0 : decode cX6_append 0 = .ok (.bipush 24, 2) := by decide +kernel
theorem dX6_append_2 : decode cX6_append 2 = .ok (.istore_n 2, 1) := by decide +kernel
theorem dX6_append_3 : decode cX6_append 3 = .ok (.iload_n 2, 1) := by decide +kernel
theorem dX6_append_4 : decode cX6_append 4 = .ok (.ifCond .lt 42, 3) := by decide +kernel
theorem dX6_append_7 : decode cX6_append 7 = .ok (.aload_n 0, 1) := by decide +kernel
theorem dX6_append_8 : decode cX6_append 8 = .ok (.getfield 15, 3) := by decide +kernel
theorem dX6_append_11 : decode cX6_append 11 = .ok (.sipush 1500, 3) := by decide +kernel
theorem dX6_append_14 : decode cX6_append 14 = .ok (.if_icmp .ge 32, 3) := by decide +kernel
theorem dX6_append_17 : decode cX6_append 17 = .ok (.aload_n 0, 1) := by decide +kernel
theorem dX6_append_18 : decode cX6_append 18 = .ok (.getfield 9, 3) := by decide +kernel
theorem dX6_append_21 : decode cX6_append 21 = .ok (.aload_n 0, 1) := by decide +kernel
theorem dX6_append_22 : decode cX6_append 22 = .ok (.getfield 15, 3) := by decide +kernel
theorem dX6_append_25 : decode cX6_append 25 = .ok (.iload_n 1, 1) := by decide +kernel
theorem dX6_append_26 : decode cX6_append 26 = .ok (.iload_n 2, 1) := by decide +kernel
theorem dX6_append_27 : decode cX6_append 27 = .ok (.ishr, 1) := by decide +kernel
theorem dX6_append_28 : decode cX6_append 28 = .ok (.i2b, 1) := by decide +kernel
theorem dX6_append_29 : decode cX6_append 29 = .ok (.bastore, 1) := by decide +kernel
theorem dX6_append_30 : decode cX6_append 30 = .ok (.aload_n 0, 1) := by decide +kernel
theorem dX6_append_31 : decode cX6_append 31 = .ok (.dup, 1) := by decide +kernel
theorem dX6_append_32 : decode cX6_append 32 = .ok (.getfield 15, 3) := by decide +kernel
theorem dX6_append_35 : decode cX6_append 35 = .ok (.iconst 1, 1) := by decide +kernel
theorem dX6_append_36 : decode cX6_append 36 = .ok (.iadd, 1) := by decide +kernel
theorem dX6_append_37 : decode cX6_append 37 = .ok (.putfield 15, 3) := by decide +kernel
theorem dX6_append_40 : decode cX6_append 40 = .ok (.iinc 2 (-8), 3) := by decide +kernel
theorem dX6_append_43 : decode cX6_append 43 = .ok (.goto (-40), 3) := by decide +kernel
theorem dX6_append_46 : decode cX6_append 46 = .ok (.return_, 1) := by decide +kernel
theorem dX6_clear_0 : decode cX6_clear 0 = .ok (.aload_n 0, 1) := by decide +kernel
theorem dX6_clear_1 : decode cX6_clear 1 = .ok (.iconst 0, 1) := by decide +kernel
theorem dX6_clear_2 : decode cX6_clear 2 = .ok (.putfield 15, 3) := by decide +kernel
theorem dX6_clear_5 : decode cX6_clear 5 = .ok (.return_, 1) := by decide +kernel
theorem dX7_init_0 : decode cX7_init 0 = .ok (.aload_n 0, 1) := by decide +kernel
theorem dX7_init_1 : decode cX7_init 1 = .ok (.invokespecial 3, 3) := by decide +kernel
theorem dX7_init_4 : decode cX7_init 4 = .ok (.aload_n 0, 1) := by decide +kernel
theorem dX7_init_5 : decode cX7_init 5 = .ok (.bipush 12, 2) := by decide +kernel
theorem dX7_init_7 : decode cX7_init 7 = .ok (.newarray .int, 2) := by decide +kernel
theorem dX7_init_9 : decode cX7_init 9 = .ok (.putfield 9, 3) := by decide +kernel
theorem dX7_init_12 : decode cX7_init 12 = .ok (.aload_n 0, 1) := by decide +kernel
theorem dX7_init_13 : decode cX7_init 13 = .ok (.aload_n 1, 1) := by decide +kernel
theorem dX7_init_14 : decode cX7_init 14 = .ok (.putfield 15, 3) := by decide +kernel
theorem dX7_init_17 : decode cX7_init 17 = .ok (.return_, 1) := by decide +kernel
theorem dX7_setString_0 : decode cX7_setString 0 = .ok (.aload_n 0, 1) := by decide +kernel
theorem dX7_setString_1 : decode cX7_setString 1 = .ok (.aload_n 1, 1) := by decide +kernel
theorem dX7_setString_2 : decode cX7_setString 2 = .ok (.putfield 15, 3) := by decide +kernel
theorem dX7_setString_5 : decode cX7_setString 5 = .ok (.aload_n 0, 1) := by decide +kernel
theorem dX7_setString_6 : decode cX7_setString 6 = .ok (.iload_n 2, 1) := by decide +kernel
theorem dX7_setString_7 : decode cX7_setString 7 = .ok (.putfield 19, 3) := by decide +kernel
theorem dX7_setString_10 : decode cX7_setString 10 = .ok (.aload_n 0, 1) := by decide +kernel
theorem dX7_setString_11 : decode cX7_setString 11 = .ok (.iload_n 3, 1) := by decide +kernel
theorem dX7_setString_12 : decode cX7_setString 12 = .ok (.putfield 23, 3) := by decide +kernel
theorem dX7_setString_15 : decode cX7_setString 15 = .ok (.aload_n 0, 1) := by decide +kernel
theorem dX7_setString_16 : decode cX7_setString 16 = .ok (.iload 4, 2) := by decide +kernel
theorem dX7_setString_18 : decode cX7_setString 18 = .ok (.putfield 26, 3) := by decide +kernel
theorem dX7_setString_21 : decode cX7_setString 21 = .ok (.return_, 1) := by decide +kernel
theorem dX7_setRowEnd_0 : decode cX7_setRowEnd 0 = .ok (.iload_n 1, 1) := by decide +kernel
theorem dX7_setRowEnd_1 : decode cX7_setRowEnd 1 = .ok (.ifCond .lt 16, 3) := by decide +kernel
theorem dX7_setRowEnd_4 : decode cX7_setRowEnd 4 = .ok (.iload_n 1, 1) := by decide +kernel
theorem dX7_setRowEnd_5 : decode cX7_setRowEnd 5 = .ok (.bipush 12, 2) := by decide +kernel
theorem dX7_setRowEnd_7 : decode cX7_setRowEnd 7 = .ok (.if_icmp .ge 10, 3) := by decide +kernel
theorem dX7_setRowEnd_10 : decode cX7_setRowEnd 10 = .ok (.aload_n 0, 1) := by decide +kernel
theorem dX7_setRowEnd_11 : decode cX7_setRowEnd 11 = .ok (.getfield 9, 3) := by decide +kernel
theorem dX7_setRowEnd_14 : decode cX7_setRowEnd 14 = .ok (.iload_n 1, 1) := by decide +kernel
theorem dX7_setRowEnd_15 : decode cX7_setRowEnd 15 = .ok (.iload_n 2, 1) := by decide +kernel
theorem dX7_setRowEnd_16 : decode cX7_setRowEnd 16 = .ok (.iastore, 1) := by decide +kernel
theorem dX7_setRowEnd_17 : decode cX7_setRowEnd 17 = .ok (.return_, 1) := by decide +kernel
theorem dX7_rowBegin_0 : decode cX7_rowBegin 0 = .ok (.iload_n 1, 1) := by decide +kernel
theorem dX7_rowBegin_1 : decode cX7_rowBegin 1 = .ok (.ifCond .le 22, 3) := by decide +kernel
theorem dX7_rowBegin_4 : decode cX7_rowBegin 4 = .ok (.iload_n 1, 1) := by decide +kernel
theorem dX7_rowBegin_5 : decode cX7_rowBegin 5 = .ok (.bipush 12, 2) := by decide +kernel
theorem dX7_rowBegin_7 : decode cX7_rowBegin 7 = .ok (.if_icmp .ge 16, 3) := by decide +kernel
theorem dX7_rowBegin_10 : decode cX7_rowBegin 10 = .ok (.aload_n 0, 1) := by decide +kernel
theorem dX7_rowBegin_11 : decode cX7_rowBegin 11 = .ok (.getfield 9, 3) := by decide +kernel
theorem dX7_rowBegin_14 : decode cX7_rowBegin 14 = .ok (.iload_n 1, 1) := by decide +kernel
theorem dX7_rowBegin_15 : decode cX7_rowBegin 15 = .ok (.iconst 1, 1) := by decide +kernel
theorem dX7_rowBegin_16 : decode cX7_rowBegin 16 = .ok (.isub, 1) := by decide +kernel
theorem dX7_rowBegin_17 : decode cX7_rowBegin 17 = .ok (.iaload, 1) := by decide +kernel
theorem dX7_rowBegin_18 : decode cX7_rowBegin 18 = .ok (.iconst 1, 1) := by decide +kernel
theorem dX7_rowBegin_19 : decode cX7_rowBegin 19 = .ok (.iadd, 1) := by decide +kernel
theorem dX7_rowBegin_20 : decode cX7_rowBegin 20 = .ok (.goto 4, 3) := by decide +kernel
theorem dX7_rowBegin_23 : decode cX7_rowBegin 23 = .ok (.iconst 0, 1) := by decide +kernel
theorem dX7_rowBegin_24 : decode cX7_rowBegin 24 = .ok (.ireturn, 1) := by decide +kernel
theorem dX7_rowLength_0 : decode cX7_rowLength 0 = .ok (.iload_n 1, 1) := by decide +kernel
theorem dX7_rowLength_1 : decode cX7_rowLength 1 = .ok (.ifCond .lt 28, 3) := by decide +kernel
theorem dX7_rowLength_4 : decode cX7_rowLength 4 = .ok (.iload_n 1, 1) := by decide +kernel
theorem dX7_rowLength_5 : decode cX7_rowLength 5 = .ok (.bipush 12, 2) := by decide +kernel
theorem dX7_rowLength_7 : decode cX7_rowLength 7 = .ok (.if_icmp .ge 22, 3) := by decide +kernel
theorem dX7_rowLength_10 : decode cX7_rowLength 10 = .ok (.iconst 0, 1) := by decide +kernel
theorem dX7_rowLength_11 : decode cX7_rowLength 11 = .ok (.aload_n 0, 1) := by decide +kernel
theorem dX7_rowLength_12 : decode cX7_rowLength 12 = .ok (.getfield 9, 3) := by decide +kernel
theorem dX7_rowLength_15 : decode cX7_rowLength 15 = .ok (.iload_n 1, 1) := by decide +kernel
theorem dX7_rowLength_16 : decode cX7_rowLength 16 = .ok (.iaload, 1) := by decide +kernel
theorem dX7_rowLength_17 : decode cX7_rowLength 17 = .ok (.aload_n 0, 1) := by decide +kernel
theorem dX7_rowLength_18 : decode cX7_rowLength 18 = .ok (.iload_n 1, 1) := by decide +kernel
theorem dX7_rowLength_19 : decode cX7_rowLength 19 = .ok (.invokevirtual 30, 3) := by decide +kernel
theorem dX7_rowLength_22 : decode cX7_rowLength 22 = .ok (.isub, 1) := by decide +kernel
theorem dX7_rowLength_23 : decode cX7_rowLength 23 = .ok (.invokestatic 34, 3) := by decide +kernel
theorem dX7_rowLength_26 : decode cX7_rowLength 26 = .ok (.goto 4, 3) := by decide +kernel
theorem dX7_rowLength_29 : decode cX7_rowLength 29 = .ok (.iconst 0, 1) := by decide +kernel
theorem dX7_rowLength_30 : decode cX7_rowLength 30 = .ok (.ireturn, 1) := by decide +kernel
theorem dX7_signsOf_0 : decode cX7_signsOf 0 = .ok (.iload_n 1, 1) := by decide +kernel
theorem dX7_signsOf_1 : decode cX7_signsOf 1 = .ok (.ifCond .lt 11, 3) := by decide +kernel
theorem dX7_signsOf_4 : decode cX7_signsOf 4 = .ok (.iload_n 1, 1) := by decide +kernel
theorem dX7_signsOf_5 : decode cX7_signsOf 5 = .ok (.aload_n 0, 1) := by decide +kernel
theorem dX7_signsOf_6 : decode cX7_signsOf 6 = .ok (.getfield 40, 3) := by decide +kernel
theorem dX7_signsOf_9 : decode cX7_signsOf 9 = .ok (.if_icmp .lt 5, 3) := by decide +kernel
theorem dX7_signsOf_12 : decode cX7_signsOf 12 = .ok (.iconst 0, 1) := by decide +kernel
theorem dX7_signsOf_13 : decode cX7_signsOf 13 = .ok (.ireturn, 1) := by decide +kernel
theorem dX7_signsOf_14 : decode cX7_signsOf 14 = .ok (.aload_n 0, 1) := by decide +kernel
theorem dX7_signsOf_15 : decode cX7_signsOf 15 = .ok (.iload_n 1, 1) := by decide +kernel
theorem dX7_signsOf_16 : decode cX7_signsOf 16 = .ok (.iconst 2, 1) := by decide +kernel
theorem dX7_signsOf_17 : decode cX7_signsOf 17 = .ok (.imul, 1) := by decide +kernel
theorem dX7_signsOf_18 : decode cX7_signsOf 18 = .ok (.invokevirtual 43, 3) := by decide +kernel
theorem dX7_signsOf_21 : decode cX7_signsOf 21 = .ok (.aload_n 0, 1) := by decide +kernel
theorem dX7_signsOf_22 : decode cX7_signsOf 22 = .ok (.iload_n 1, 1) := by decide +kernel
theorem dX7_signsOf_23 : decode cX7_signsOf 23 = .ok (.iconst 2, 1) := by decide +kernel
theorem dX7_signsOf_24 : decode cX7_signsOf 24 = .ok (.imul, 1) := by decide +kernel
theorem dX7_signsOf_25 : decode cX7_signsOf 25 = .ok (.iconst 1, 1) := by decide +kernel
theorem dX7_signsOf_26 : decode cX7_signsOf 26 = .ok (.iadd, 1) := by decide +kernel
theorem dX7_signsOf_27 : decode cX7_signsOf 27 = .ok (.invokevirtual 43, 3) := by decide +kernel
theorem dX7_signsOf_30 : decode cX7_signsOf 30 = .ok (.iadd, 1) := by decide +kernel
theorem dX7_signsOf_31 : decode cX7_signsOf 31 = .ok (.ireturn, 1) := by decide +kernel
theorem dX7_signAt_0 : decode cX7_signAt 0 = .ok (.iload_n 1, 1) := by decide +kernel
theorem dX7_signAt_1 : decode cX7_signAt 1 = .ok (.ifCond .lt 20, 3) := by decide +kernel
theorem dX7_signAt_4 : decode cX7_signAt 4 = .ok (.iload_n 1, 1) := by decide +kernel
theorem dX7_signAt_5 : decode cX7_signAt 5 = .ok (.aload_n 0, 1) := by decide +kernel
theorem dX7_signAt_6 : decode cX7_signAt 6 = .ok (.getfield 40, 3) := by decide +kernel
theorem dX7_signAt_9 : decode cX7_signAt 9 = .ok (.if_icmp .ge 12, 3) := by decide +kernel
theorem dX7_signAt_12 : decode cX7_signAt 12 = .ok (.iload_n 2, 1) := by decide +kernel
theorem dX7_signAt_13 : decode cX7_signAt 13 = .ok (.ifCond .lt 8, 3) := by decide +kernel
theorem dX7_signAt_16 : decode cX7_signAt 16 = .ok (.iload_n 2, 1) := by decide +kernel
theorem dX7_signAt_17 : decode cX7_signAt 17 = .ok (.iconst 2, 1) := by decide +kernel
theorem dX7_signAt_18 : decode cX7_signAt 18 = .ok (.if_icmp .lt 5, 3) := by decide +kernel
theorem dX7_signAt_21 : decode cX7_signAt 21 = .ok (.iconst (-1), 1) := by decide +kernel
theorem dX7_signAt_22 : decode cX7_signAt 22 = .ok (.ireturn, 1) := by decide +kernel
theorem dX7_signAt_23 : decode cX7_signAt 23 = .ok (.iload_n 1, 1) := by decide +kernel
theorem dX7_signAt_24 : decode cX7_signAt 24 = .ok (.iconst 2, 1) := by decide +kernel
theorem dX7_signAt_25 : decode cX7_signAt 25 = .ok (.imul, 1) := by decide +kernel
theorem dX7_signAt_26 : decode cX7_signAt 26 = .ok (.iload_n 2, 1) := by decide +kernel
theorem dX7_signAt_27 : decode cX7_signAt 27 = .ok (.iadd, 1) := by decide +kernel
theorem dX7_signAt_28 : decode cX7_signAt 28 = .ok (.istore 4, 2) := by decide +kernel
theorem dX7_signAt_30 : decode cX7_signAt 30 = .ok (.iload_n 3, 1) := by decide +kernel
theorem dX7_signAt_31 : decode cX7_signAt 31 = .ok (.ifCond .lt 13, 3) := by decide +kernel
theorem dX7_signAt_34 : decode cX7_signAt 34 = .ok (.iload_n 3, 1) := by decide +kernel
theorem dX7_signAt_35 : decode cX7_signAt 35 = .ok (.aload_n 0, 1) := by decide +kernel
theorem dX7_signAt_36 : decode cX7_signAt 36 = .ok (.iload 4, 2) := by decide +kernel
theorem dX7_signAt_38 : decode cX7_signAt 38 = .ok (.invokevirtual 43, 3) := by decide +kernel
theorem dX7_signAt_41 : decode cX7_signAt 41 = .ok (.if_icmp .lt 5, 3) := by decide +kernel
theorem dX7_signAt_44 : decode cX7_signAt 44 = .ok (.iconst (-1), 1) := by decide +kernel
theorem dX7_signAt_45 : decode cX7_signAt 45 = .ok (.ireturn, 1) := by decide +kernel
theorem dX7_signAt_46 : decode cX7_signAt 46 = .ok (.aload_n 0, 1) := by decide +kernel
theorem dX7_signAt_47 : decode cX7_signAt 47 = .ok (.getfield 19, 3) := by decide +kernel
theorem dX7_signAt_50 : decode cX7_signAt 50 = .ok (.aload_n 0, 1) := by decide +kernel
theorem dX7_signAt_51 : decode cX7_signAt 51 = .ok (.iload 4, 2) := by decide +kernel
theorem dX7_signAt_53 : decode cX7_signAt 53 = .ok (.invokevirtual 30, 3) := by decide +kernel
theorem dX7_signAt_56 : decode cX7_signAt 56 = .ok (.iadd, 1) := by decide +kernel
theorem dX7_signAt_57 : decode cX7_signAt 57 = .ok (.iload_n 3, 1) := by decide +kernel
theorem dX7_signAt_58 : decode cX7_signAt 58 = .ok (.iadd, 1) := by decide +kernel
theorem dX7_signAt_59 : decode cX7_signAt 59 = .ok (.istore 5, 2) := by decide +kernel
theorem dX7_signAt_61 : decode cX7_signAt 61 = .ok (.iload 5, 2) := by decide +kernel
theorem dX7_signAt_63 : decode cX7_signAt 63 = .ok (.ifCond .lt 23, 3) := by decide +kernel
theorem dX7_signAt_66 : decode cX7_signAt 66 = .ok (.iload 5, 2) := by decide +kernel
theorem dX7_signAt_68 : decode cX7_signAt 68 = .ok (.aload_n 0, 1) := by decide +kernel
theorem dX7_signAt_69 : decode cX7_signAt 69 = .ok (.getfield 15, 3) := by decide +kernel
theorem dX7_signAt_72 : decode cX7_signAt 72 = .ok (.arraylength, 1) := by decide +kernel
theorem dX7_signAt_73 : decode cX7_signAt 73 = .ok (.if_icmp .ge 13, 3) := by decide +kernel
theorem dX7_signAt_76 : decode cX7_signAt 76 = .ok (.aload_n 0, 1) := by decide +kernel
theorem dX7_signAt_77 : decode cX7_signAt 77 = .ok (.getfield 15, 3) := by decide +kernel
theorem dX7_signAt_80 : decode cX7_signAt 80 = .ok (.iload 5, 2) := by decide +kernel
theorem dX7_signAt_82 : decode cX7_signAt 82 = .ok (.baload, 1) := by decide +kernel
theorem dX7_signAt_83 : decode cX7_signAt 83 = .ok (.goto 4, 3) := by decide +kernel
theorem dX7_signAt_86 : decode cX7_signAt 86 = .ok (.iconst (-1), 1) := by decide +kernel
theorem dX7_signAt_87 : decode cX7_signAt 87 = .ok (.ireturn, 1) := by decide +kernel
theorem dX8_areWithin_0 : decode cX8_areWithin 0 = .ok (.iload_n 1, 1) := by decide +kernel
theorem dX8_areWithin_1 : decode cX8_areWithin 1 = .ok (.ifCond .lt 25, 3) := by decide +kernel
theorem dX8_areWithin_4 : decode cX8_areWithin 4 = .ok (.iload_n 2, 1) := by decide +kernel
theorem dX8_areWithin_5 : decode cX8_areWithin 5 = .ok (.ifCond .lt 21, 3) := by decide +kernel
theorem dX8_areWithin_8 : decode cX8_areWithin 8 = .ok (.iload_n 2, 1) := by decide +kernel
theorem dX8_areWithin_9 : decode cX8_areWithin 9 = .ok (.aload_n 0, 1) := by decide +kernel
theorem dX8_areWithin_10 : decode cX8_areWithin 10 = .ok (.arraylength, 1) := by decide +kernel
theorem dX8_areWithin_11 : decode cX8_areWithin 11 = .ok (.if_icmp .gt 15, 3) := by decide +kernel
theorem dX8_areWithin_14 : decode cX8_areWithin 14 = .ok (.iload_n 1, 1) := by decide +kernel
theorem dX8_areWithin_15 : decode cX8_areWithin 15 = .ok (.aload_n 0, 1) := by decide +kernel
theorem dX8_areWithin_16 : decode cX8_areWithin 16 = .ok (.arraylength, 1) := by decide +kernel
theorem dX8_areWithin_17 : decode cX8_areWithin 17 = .ok (.iload_n 2, 1) := by decide +kernel
theorem dX8_areWithin_18 : decode cX8_areWithin 18 = .ok (.isub, 1) := by decide +kernel
theorem dX8_areWithin_19 : decode cX8_areWithin 19 = .ok (.if_icmp .gt 7, 3) := by decide +kernel
theorem dX8_areWithin_22 : decode cX8_areWithin 22 = .ok (.iconst 1, 1) := by decide +kernel
theorem dX8_areWithin_23 : decode cX8_areWithin 23 = .ok (.goto 4, 3) := by decide +kernel
theorem dX8_areWithin_26 : decode cX8_areWithin 26 = .ok (.iconst 0, 1) := by decide +kernel
theorem dX8_areWithin_27 : decode cX8_areWithin 27 = .ok (.ireturn, 1) := by decide +kernel
theorem dX8_areProper_0 : decode cX8_areProper 0 = .ok (.aload_n 0, 1) := by decide +kernel
theorem dX8_areProper_1 : decode cX8_areProper 1 = .ok (.iload_n 1, 1) := by decide +kernel
theorem dX8_areProper_2 : decode cX8_areProper 2 = .ok (.iload_n 2, 1) := by decide +kernel
theorem dX8_areProper_3 : decode cX8_areProper 3 = .ok (.invokestatic 9, 3) := by decide +kernel
theorem dX8_areProper_6 : decode cX8_areProper 6 = .ok (.ifCond .ne 5, 3) := by decide +kernel
theorem dX8_areProper_9 : decode cX8_areProper 9 = .ok (.iconst 0, 1) := by decide +kernel
theorem dX8_areProper_10 : decode cX8_areProper 10 = .ok (.ireturn, 1) := by decide +kernel
theorem dX8_areProper_11 : decode cX8_areProper 11 = .ok (.bipush 32, 2) := by decide +kernel
theorem dX8_areProper_13 : decode cX8_areProper 13 = .ok (.istore_n 3, 1) := by decide +kernel
theorem dX8_areProper_14 : decode cX8_areProper 14 = .ok (.iload_n 1, 1) := by decide +kernel
theorem dX8_areProper_15 : decode cX8_areProper 15 = .ok (.istore 4, 2) := by decide +kernel
theorem dX8_areProper_17 : decode cX8_areProper 17 = .ok (.iload 4, 2) := by decide +kernel
theorem dX8_areProper_19 : decode cX8_areProper 19 = .ok (.iload_n 1, 1) := by decide +kernel
theorem dX8_areProper_20 : decode cX8_areProper 20 = .ok (.iload_n 2, 1) := by decide +kernel
theorem dX8_areProper_21 : decode cX8_areProper 21 = .ok (.iadd, 1) := by decide +kernel
theorem dX8_areProper_22 : decode cX8_areProper 22 = .ok (.if_icmp .ge 54, 3) := by decide +kernel
theorem dX8_areProper_25 : decode cX8_areProper 25 = .ok (.aload_n 0, 1) := by decide +kernel
theorem dX8_areProper_26 : decode cX8_areProper 26 = .ok (.iload 4, 2) := by decide +kernel
theorem dX8_areProper_28 : decode cX8_areProper 28 = .ok (.baload, 1) := by decide +kernel
theorem dX8_areProper_29 : decode cX8_areProper 29 = .ok (.istore 5, 2) := by decide +kernel
theorem dX8_areProper_31 : decode cX8_areProper 31 = .ok (.iload 5, 2) := by decide +kernel
theorem dX8_areProper_33 : decode cX8_areProper 33 = .ok (.bipush 32, 2) := by decide +kernel
theorem dX8_areProper_35 : decode cX8_areProper 35 = .ok (.if_icmp .lt 30, 3) := by decide +kernel
theorem dX8_areProper_38 : decode cX8_areProper 38 = .ok (.iload 5, 2) := by decide +kernel
theorem dX8_areProper_40 : decode cX8_areProper 40 = .ok (.bipush 126, 2) := by decide +kernel
theorem dX8_areProper_42 : decode cX8_areProper 42 = .ok (.if_icmp .gt 23, 3) := by decide +kernel
theorem dX8_areProper_45 : decode cX8_areProper 45 = .ok (.iload 5, 2) := by decide +kernel
theorem dX8_areProper_47 : decode cX8_areProper 47 = .ok (.bipush 34, 2) := by decide +kernel
theorem dX8_areProper_49 : decode cX8_areProper 49 = .ok (.if_icmp .eq 16, 3) := by decide +kernel
theorem dX8_areProper_52 : decode cX8_areProper 52 = .ok (.iload 5, 2) := by decide +kernel
theorem dX8_areProper_54 : decode cX8_areProper 54 = .ok (.bipush 32, 2) := by decide +kernel
theorem dX8_areProper_56 : decode cX8_areProper 56 = .ok (.if_icmp .ne 11, 3) := by decide +kernel
theorem dX8_areProper_59 : decode cX8_areProper 59 = .ok (.iload_n 3, 1) := by decide +kernel
theorem dX8_areProper_60 : decode cX8_areProper 60 = .ok (.bipush 32, 2) := by decide +kernel
theorem dX8_areProper_62 : decode cX8_areProper 62 = .ok (.if_icmp .ne 5, 3) := by decide +kernel
theorem dX8_areProper_65 : decode cX8_areProper 65 = .ok (.iconst 0, 1) := by decide +kernel
theorem dX8_areProper_66 : decode cX8_areProper 66 = .ok (.ireturn, 1) := by decide +kernel
theorem dX8_areProper_67 : decode cX8_areProper 67 = .ok (.iload 5, 2) := by decide +kernel
theorem dX8_areProper_69 : decode cX8_areProper 69 = .ok (.istore_n 3, 1) := by decide +kernel
theorem dX8_areProper_70 : decode cX8_areProper 70 = .ok (.iinc 4 1, 3) := by decide +kernel
theorem dX8_areProper_73 : decode cX8_areProper 73 = .ok (.goto (-56), 3) := by decide +kernel
theorem dX8_areProper_76 : decode cX8_areProper 76 = .ok (.iload_n 3, 1) := by decide +kernel
theorem dX8_areProper_77 : decode cX8_areProper 77 = .ok (.bipush 32, 2) := by decide +kernel
theorem dX8_areProper_79 : decode cX8_areProper 79 = .ok (.if_icmp .eq 7, 3) := by decide +kernel
theorem dX8_areProper_82 : decode cX8_areProper 82 = .ok (.iconst 1, 1) := by decide +kernel
theorem dX8_areProper_83 : decode cX8_areProper 83 = .ok (.goto 4, 3) := by decide +kernel
theorem dX8_areProper_86 : decode cX8_areProper 86 = .ok (.iconst 0, 1) := by decide +kernel
theorem dX8_areProper_87 : decode cX8_areProper 87 = .ok (.ireturn, 1) := by decide +kernel
theorem dX8_fit_0 : decode cX8_fit 0 = .ok (.aload_n 0, 1) := by decide +kernel
theorem dX8_fit_1 : decode cX8_fit 1 = .ok (.iload_n 1, 1) := by decide +kernel
theorem dX8_fit_2 : decode cX8_fit 2 = .ok (.iload_n 2, 1) := by decide +kernel
theorem dX8_fit_3 : decode cX8_fit 3 = .ok (.iload_n 3, 1) := by decide +kernel
theorem dX8_fit_4 : decode cX8_fit 4 = .ok (.invokestatic 15, 3) := by decide +kernel
theorem dX8_fit_7 : decode cX8_fit 7 = .ok (.istore 4, 2) := by decide +kernel
theorem dX8_fit_9 : decode cX8_fit 9 = .ok (.iload 4, 2) := by decide +kernel
theorem dX8_fit_11 : decode cX8_fit 11 = .ok (.iconst (-1), 1) := by decide +kernel
theorem dX8_fit_12 : decode cX8_fit 12 = .ok (.if_icmp .eq 14, 3) := by decide +kernel
theorem dX8_fit_15 : decode cX8_fit 15 = .ok (.iload 4, 2) := by decide +kernel
theorem dX8_fit_17 : decode cX8_fit 17 = .ok (.bipush 12, 2) := by decide +kernel
theorem dX8_fit_19 : decode cX8_fit 19 = .ok (.if_icmp .gt 7, 3) := by decide +kernel
theorem dX8_fit_22 : decode cX8_fit 22 = .ok (.iconst 1, 1) := by decide +kernel
theorem dX8_fit_23 : decode cX8_fit 23 = .ok (.goto 4, 3) := by decide +kernel
theorem dX8_fit_26 : decode cX8_fit 26 = .ok (.iconst 0, 1) := by decide +kernel
theorem dX8_fit_27 : decode cX8_fit 27 = .ok (.ireturn, 1) := by decide +kernel
theorem dX8_leastRows_0 : decode cX8_leastRows 0 = .ok (.aload_n 0, 1) := by decide +kernel
theorem dX8_leastRows_1 : decode cX8_leastRows 1 = .ok (.iload_n 1, 1) := by decide +kernel
theorem dX8_leastRows_2 : decode cX8_leastRows 2 = .ok (.iload_n 2, 1) := by decide +kernel
theorem dX8_leastRows_3 : decode cX8_leastRows 3 = .ok (.invokestatic 9, 3) := by decide +kernel
theorem dX8_leastRows_6 : decode cX8_leastRows 6 = .ok (.ifCond .ne 5, 3) := by decide +kernel
theorem dX8_leastRows_9 : decode cX8_leastRows 9 = .ok (.iconst (-1), 1) := by decide +kernel
theorem dX8_leastRows_10 : decode cX8_leastRows 10 = .ok (.ireturn, 1) := by decide +kernel
theorem dX8_leastRows_11 : decode cX8_leastRows 11 = .ok (.iconst 0, 1) := by decide +kernel
theorem dX8_leastRows_12 : decode cX8_leastRows 12 = .ok (.istore 4, 2) := by decide +kernel
theorem dX8_leastRows_14 : decode cX8_leastRows 14 = .ok (.iload_n 3, 1) := by decide +kernel
theorem dX8_leastRows_15 : decode cX8_leastRows 15 = .ok (.istore 5, 2) := by decide +kernel
theorem dX8_leastRows_17 : decode cX8_leastRows 17 = .ok (.iconst 0, 1) := by decide +kernel
theorem dX8_leastRows_18 : decode cX8_leastRows 18 = .ok (.istore 6, 2) := by decide +kernel
theorem dX8_leastRows_20 : decode cX8_leastRows 20 = .ok (.iload_n 1, 1) := by decide +kernel
theorem dX8_leastRows_21 : decode cX8_leastRows 21 = .ok (.istore 7, 2) := by decide +kernel
theorem dX8_leastRows_23 : decode cX8_leastRows 23 = .ok (.iload 7, 2) := by decide +kernel
theorem dX8_leastRows_25 : decode cX8_leastRows 25 = .ok (.iload_n 1, 1) := by decide +kernel
theorem dX8_leastRows_26 : decode cX8_leastRows 26 = .ok (.iload_n 2, 1) := by decide +kernel
theorem dX8_leastRows_27 : decode cX8_leastRows 27 = .ok (.iadd, 1) := by decide +kernel
theorem dX8_leastRows_28 : decode cX8_leastRows 28 = .ok (.if_icmp .gt 65, 3) := by decide +kernel
theorem dX8_leastRows_31 : decode cX8_leastRows 31 = .ok (.iload 7, 2) := by decide +kernel
theorem dX8_leastRows_33 : decode cX8_leastRows 33 = .ok (.iload_n 1, 1) := by decide +kernel
theorem dX8_leastRows_34 : decode cX8_leastRows 34 = .ok (.iload_n 2, 1) := by decide +kernel
theorem dX8_leastRows_35 : decode cX8_leastRows 35 = .ok (.iadd, 1) := by decide +kernel
theorem dX8_leastRows_36 : decode cX8_leastRows 36 = .ok (.if_icmp .ge 18, 3) := by decide +kernel
theorem dX8_leastRows_39 : decode cX8_leastRows 39 = .ok (.aload_n 0, 1) := by decide +kernel
theorem dX8_leastRows_40 : decode cX8_leastRows 40 = .ok (.iload 7, 2) := by decide +kernel
theorem dX8_leastRows_42 : decode cX8_leastRows 42 = .ok (.baload, 1) := by decide +kernel
theorem dX8_leastRows_43 : decode cX8_leastRows 43 = .ok (.bipush 32, 2) := by decide +kernel
theorem dX8_leastRows_45 : decode cX8_leastRows 45 = .ok (.if_icmp .eq 9, 3) := by decide +kernel
theorem dX8_leastRows_48 : decode cX8_leastRows 48 = .ok (.iinc 6 1, 3) := by decide +kernel
theorem dX8_leastRows_51 : decode cX8_leastRows 51 = .ok (.goto 36, 3) := by decide +kernel
theorem dX8_leastRows_54 : decode cX8_leastRows 54 = .ok (.iload 6, 2) := by decide +kernel
theorem dX8_leastRows_56 : decode cX8_leastRows 56 = .ok (.iload_n 3, 1) := by decide +kernel
theorem dX8_leastRows_57 : decode cX8_leastRows 57 = .ok (.if_icmp .le 5, 3) := by decide +kernel
theorem dX8_leastRows_60 : decode cX8_leastRows 60 = .ok (.iconst (-1), 1) := by decide +kernel
theorem dX8_leastRows_61 : decode cX8_leastRows 61 = .ok (.ireturn, 1) := by decide +kernel
theorem dX8_leastRows_62 : decode cX8_leastRows 62 = .ok (.iload 5, 2) := by decide +kernel
theorem dX8_leastRows_64 : decode cX8_leastRows 64 = .ok (.iconst 1, 1) := by decide +kernel
theorem dX8_leastRows_65 : decode cX8_leastRows 65 = .ok (.iload 6, 2) := by decide +kernel
theorem dX8_leastRows_67 : decode cX8_leastRows 67 = .ok (.iadd, 1) := by decide +kernel
theorem dX8_leastRows_68 : decode cX8_leastRows 68 = .ok (.iadd, 1) := by decide +kernel
theorem dX8_leastRows_69 : decode cX8_leastRows 69 = .ok (.istore 5, 2) := by decide +kernel
theorem dX8_leastRows_71 : decode cX8_leastRows 71 = .ok (.iload 5, 2) := by decide +kernel
theorem dX8_leastRows_73 : decode cX8_leastRows 73 = .ok (.iload_n 3, 1) := by decide +kernel
theorem dX8_leastRows_74 : decode cX8_leastRows 74 = .ok (.if_icmp .le 10, 3) := by decide +kernel
theorem dX8_leastRows_77 : decode cX8_leastRows 77 = .ok (.iinc 4 1, 3) := by decide +kernel
theorem dX8_leastRows_80 : decode cX8_leastRows 80 = .ok (.iload 6, 2) := by decide +kernel
theorem dX8_leastRows_82 : decode cX8_leastRows 82 = .ok (.istore 5, 2) := by decide +kernel
theorem dX8_leastRows_84 : decode cX8_leastRows 84 = .ok (.iconst 0, 1) := by decide +kernel
theorem dX8_leastRows_85 : decode cX8_leastRows 85 = .ok (.istore 6, 2) := by decide +kernel
theorem dX8_leastRows_87 : decode cX8_leastRows 87 = .ok (.iinc 7 1, 3) := by decide +kernel
theorem dX8_leastRows_90 : decode cX8_leastRows 90 = .ok (.goto (-67), 3) := by decide +kernel
theorem dX8_leastRows_93 : decode cX8_leastRows 93 = .ok (.iload 4, 2) := by decide +kernel
theorem dX8_leastRows_95 : decode cX8_leastRows 95 = .ok (.ireturn, 1) := by decide +kernel
theorem dX9_init_0 : decode cX9_init 0 = .ok (.aload_n 0, 1) := by decide +kernel
theorem dX9_init_1 : decode cX9_init 1 = .ok (.invokespecial 3, 3) := by decide +kernel
theorem dX9_init_4 : decode cX9_init 4 = .ok (.aload_n 0, 1) := by decide +kernel
theorem dX9_init_5 : decode cX9_init 5 = .ok (.new 9, 3) := by decide +kernel
theorem dX9_init_8 : decode cX9_init 8 = .ok (.dup, 1) := by decide +kernel
theorem dX9_init_9 : decode cX9_init 9 = .ok (.invokespecial 11, 3) := by decide +kernel
theorem dX9_init_12 : decode cX9_init 12 = .ok (.putfield 12, 3) := by decide +kernel
theorem dX9_init_15 : decode cX9_init 15 = .ok (.aload_n 0, 1) := by decide +kernel
theorem dX9_init_16 : decode cX9_init 16 = .ok (.new 9, 3) := by decide +kernel
theorem dX9_init_19 : decode cX9_init 19 = .ok (.dup, 1) := by decide +kernel
theorem dX9_init_20 : decode cX9_init 20 = .ok (.invokespecial 11, 3) := by decide +kernel
theorem dX9_init_23 : decode cX9_init 23 = .ok (.putfield 16, 3) := by decide +kernel
theorem dX9_init_26 : decode cX9_init 26 = .ok (.aload_n 0, 1) := by decide +kernel
theorem dX9_init_27 : decode cX9_init 27 = .ok (.new 19, 3) := by decide +kernel
theorem dX9_init_30 : decode cX9_init 30 = .ok (.dup, 1) := by decide +kernel
theorem dX9_init_31 : decode cX9_init 31 = .ok (.invokespecial 21, 3) := by decide +kernel
theorem dX9_init_34 : decode cX9_init 34 = .ok (.putfield 22, 3) := by decide +kernel
theorem dX9_init_37 : decode cX9_init 37 = .ok (.aload_n 0, 1) := by decide +kernel
theorem dX9_init_38 : decode cX9_init 38 = .ok (.new 19, 3) := by decide +kernel
theorem dX9_init_41 : decode cX9_init 41 = .ok (.dup, 1) := by decide +kernel
theorem dX9_init_42 : decode cX9_init 42 = .ok (.invokespecial 21, 3) := by decide +kernel
theorem dX9_init_45 : decode cX9_init 45 = .ok (.putfield 26, 3) := by decide +kernel
theorem dX9_init_48 : decode cX9_init 48 = .ok (.aload_n 0, 1) := by decide +kernel
theorem dX9_init_49 : decode cX9_init 49 = .ok (.new 29, 3) := by decide +kernel
theorem dX9_init_52 : decode cX9_init 52 = .ok (.dup, 1) := by decide +kernel
theorem dX9_init_53 : decode cX9_init 53 = .ok (.aload_n 0, 1) := by decide +kernel
theorem dX9_init_54 : decode cX9_init 54 = .ok (.getfield 26, 3) := by decide +kernel
theorem dX9_init_57 : decode cX9_init 57 = .ok (.aload_n 0, 1) := by decide +kernel
theorem dX9_init_58 : decode cX9_init 58 = .ok (.getfield 12, 3) := by decide +kernel
theorem dX9_init_61 : decode cX9_init 61 = .ok (.getfield 31, 3) := by decide +kernel
theorem dX9_init_64 : decode cX9_init 64 = .ok (.invokespecial 35, 3) := by decide +kernel
theorem dX9_init_67 : decode cX9_init 67 = .ok (.putfield 38, 3) := by decide +kernel
theorem dX9_init_70 : decode cX9_init 70 = .ok (.aload_n 0, 1) := by decide +kernel
theorem dX9_init_71 : decode cX9_init 71 = .ok (.new 42, 3) := by decide +kernel
theorem dX9_init_74 : decode cX9_init 74 = .ok (.dup, 1) := by decide +kernel
theorem dX9_init_75 : decode cX9_init 75 = .ok (.aload_n 0, 1) := by decide +kernel
theorem dX9_init_76 : decode cX9_init 76 = .ok (.getfield 22, 3) := by decide +kernel
theorem dX9_init_79 : decode cX9_init 79 = .ok (.aload_n 0, 1) := by decide +kernel
theorem dX9_init_80 : decode cX9_init 80 = .ok (.getfield 16, 3) := by decide +kernel
theorem dX9_init_83 : decode cX9_init 83 = .ok (.getfield 31, 3) := by decide +kernel
theorem dX9_init_86 : decode cX9_init 86 = .ok (.invokespecial 44, 3) := by decide +kernel
theorem dX9_init_89 : decode cX9_init 89 = .ok (.putfield 45, 3) := by decide +kernel
theorem dX9_init_92 : decode cX9_init 92 = .ok (.aload_n 0, 1) := by decide +kernel
theorem dX9_init_93 : decode cX9_init 93 = .ok (.new 49, 3) := by decide +kernel
theorem dX9_init_96 : decode cX9_init 96 = .ok (.dup, 1) := by decide +kernel
theorem dX9_init_97 : decode cX9_init 97 = .ok (.aload_n 0, 1) := by decide +kernel
theorem dX9_init_98 : decode cX9_init 98 = .ok (.getfield 22, 3) := by decide +kernel
theorem dX9_init_101 : decode cX9_init 101 = .ok (.invokespecial 51, 3) := by decide +kernel
theorem dX9_init_104 : decode cX9_init 104 = .ok (.putfield 54, 3) := by decide +kernel
theorem dX9_init_107 : decode cX9_init 107 = .ok (.return_, 1) := by decide +kernel
theorem dX9_feed_0 : decode cX9_feed 0 = .ok (.aload_n 0, 1) := by decide +kernel
theorem dX9_feed_1 : decode cX9_feed 1 = .ok (.getfield 12, 3) := by decide +kernel
theorem dX9_feed_4 : decode cX9_feed 4 = .ok (.invokevirtual 58, 3) := by decide +kernel
theorem dX9_feed_7 : decode cX9_feed 7 = .ok (.ifCond .ne 5, 3) := by decide +kernel
theorem dX9_feed_10 : decode cX9_feed 10 = .ok (.iconst (-1), 1) := by decide +kernel
theorem dX9_feed_11 : decode cX9_feed 11 = .ok (.ireturn, 1) := by decide +kernel
theorem dX9_feed_12 : decode cX9_feed 12 = .ok (.aload_n 0, 1) := by decide +kernel
theorem dX9_feed_13 : decode cX9_feed 13 = .ok (.getfield 12, 3) := by decide +kernel
theorem dX9_feed_16 : decode cX9_feed 16 = .ok (.iload_n 1, 1) := by decide +kernel
theorem dX9_feed_17 : decode cX9_feed 17 = .ok (.invokevirtual 62, 3) := by decide +kernel
theorem dX9_feed_20 : decode cX9_feed 20 = .ok (.aload_n 0, 1) := by decide +kernel
theorem dX9_feed_21 : decode cX9_feed 21 = .ok (.getfield 12, 3) := by decide +kernel
theorem dX9_feed_24 : decode cX9_feed 24 = .ok (.iload_n 2, 1) := by decide +kernel
theorem dX9_feed_25 : decode cX9_feed 25 = .ok (.invokevirtual 62, 3) := by decide +kernel
theorem dX9_feed_28 : decode cX9_feed 28 = .ok (.aload_n 0, 1) := by decide +kernel
theorem dX9_feed_29 : decode cX9_feed 29 = .ok (.getfield 12, 3) := by decide +kernel
theorem dX9_feed_32 : decode cX9_feed 32 = .ok (.iload_n 3, 1) := by decide +kernel
theorem dX9_feed_33 : decode cX9_feed 33 = .ok (.invokevirtual 62, 3) := by decide +kernel
theorem dX9_feed_36 : decode cX9_feed 36 = .ok (.aload_n 0, 1) := by decide +kernel
theorem dX9_feed_37 : decode cX9_feed 37 = .ok (.getfield 12, 3) := by decide +kernel
theorem dX9_feed_40 : decode cX9_feed 40 = .ok (.iload 4, 2) := by decide +kernel
theorem dX9_feed_42 : decode cX9_feed 42 = .ok (.invokevirtual 62, 3) := by decide +kernel
theorem dX9_feed_45 : decode cX9_feed 45 = .ok (.aload_n 0, 1) := by decide +kernel
theorem dX9_feed_46 : decode cX9_feed 46 = .ok (.getfield 12, 3) := by decide +kernel
theorem dX9_feed_49 : decode cX9_feed 49 = .ok (.iload 5, 2) := by decide +kernel
theorem dX9_feed_51 : decode cX9_feed 51 = .ok (.invokevirtual 62, 3) := by decide +kernel
theorem dX9_feed_54 : decode cX9_feed 54 = .ok (.aload_n 0, 1) := by decide +kernel
theorem dX9_feed_55 : decode cX9_feed 55 = .ok (.getfield 12, 3) := by decide +kernel
theorem dX9_feed_58 : decode cX9_feed 58 = .ok (.getfield 66, 3) := by decide +kernel
theorem dX9_feed_61 : decode cX9_feed 61 = .ok (.ireturn, 1) := by decide +kernel
theorem dX9_text_0 : decode cX9_text 0 = .ok (.aload_n 0, 1) := by decide +kernel
theorem dX9_text_1 : decode cX9_text 1 = .ok (.getfield 12, 3) := by decide +kernel
theorem dX9_text_4 : decode cX9_text 4 = .ok (.iload_n 1, 1) := by decide +kernel
theorem dX9_text_5 : decode cX9_text 5 = .ok (.invokevirtual 70, 3) := by decide +kernel
theorem dX9_text_8 : decode cX9_text 8 = .ok (.ifCond .ne 6, 3) := by decide +kernel
theorem dX9_text_11 : decode cX9_text 11 = .ok (.bipush (-2), 2) := by decide +kernel
theorem dX9_text_13 : decode cX9_text 13 = .ok (.ireturn, 1) := by decide +kernel
theorem dX9_text_14 : decode cX9_text 14 = .ok (.aload_n 0, 1) := by decide +kernel
theorem dX9_text_15 : decode cX9_text 15 = .ok (.getfield 38, 3) := by decide +kernel
theorem dX9_text_18 : decode cX9_text 18 = .ok (.aload_n 0, 1) := by decide +kernel
theorem dX9_text_19 : decode cX9_text 19 = .ok (.getfield 12, 3) := by decide +kernel
theorem dX9_text_22 : decode cX9_text 22 = .ok (.getfield 31, 3) := by decide +kernel
theorem dX9_text_25 : decode cX9_text 25 = .ok (.iload_n 1, 1) := by decide +kernel
theorem dX9_text_26 : decode cX9_text 26 = .ok (.aload_n 0, 1) := by decide +kernel
theorem dX9_text_27 : decode cX9_text 27 = .ok (.getfield 26, 3) := by decide +kernel
theorem dX9_text_30 : decode cX9_text 30 = .ok (.invokevirtual 74, 3) := by decide +kernel
theorem dX9_text_33 : decode cX9_text 33 = .ok (.istore_n 2, 1) := by decide +kernel
theorem dX9_text_34 : decode cX9_text 34 = .ok (.iload_n 2, 1) := by decide +kernel
theorem dX9_text_35 : decode cX9_text 35 = .ok (.ifCond .eq 36, 3) := by decide +kernel
theorem dX9_text_38 : decode cX9_text 38 = .ok (.aload_n 0, 1) := by decide +kernel
theorem dX9_text_39 : decode cX9_text 39 = .ok (.invokevirtual 78, 3) := by decide +kernel
theorem dX9_text_42 : decode cX9_text 42 = .ok (.aload_n 0, 1) := by decide +kernel
theorem dX9_text_43 : decode cX9_text 43 = .ok (.getfield 45, 3) := by decide +kernel
theorem dX9_text_46 : decode cX9_text 46 = .ok (.aload_n 0, 1) := by decide +kernel
theorem dX9_text_47 : decode cX9_text 47 = .ok (.getfield 22, 3) := by decide +kernel
theorem dX9_text_50 : decode cX9_text 50 = .ok (.aload_n 0, 1) := by decide +kernel
theorem dX9_text_51 : decode cX9_text 51 = .ok (.getfield 16, 3) := by decide +kernel
theorem dX9_text_54 : decode cX9_text 54 = .ok (.getfield 31, 3) := by decide +kernel
theorem dX9_text_57 : decode cX9_text 57 = .ok (.invokevirtual 81, 3) := by decide +kernel
theorem dX9_text_60 : decode cX9_text 60 = .ok (.aload_n 0, 1) := by decide +kernel
theorem dX9_text_61 : decode cX9_text 61 = .ok (.getfield 54, 3) := by decide +kernel
theorem dX9_text_64 : decode cX9_text 64 = .ok (.aload_n 0, 1) := by decide +kernel
theorem dX9_text_65 : decode cX9_text 65 = .ok (.getfield 22, 3) := by decide +kernel
theorem dX9_text_68 : decode cX9_text 68 = .ok (.invokevirtual 84, 3) := by decide +kernel
theorem dX9_text_71 : decode cX9_text 71 = .ok (.aload_n 0, 1) := by decide +kernel
theorem dX9_text_72 : decode cX9_text 72 = .ok (.getfield 12, 3) := by decide +kernel
theorem dX9_text_75 : decode cX9_text 75 = .ok (.invokevirtual 87, 3) := by decide +kernel
theorem dX9_text_78 : decode cX9_text 78 = .ok (.iload_n 2, 1) := by decide +kernel
theorem dX9_text_79 : decode cX9_text 79 = .ok (.ifCond .eq 13, 3) := by decide +kernel
theorem dX9_text_82 : decode cX9_text 82 = .ok (.aload_n 0, 1) := by decide +kernel
theorem dX9_text_83 : decode cX9_text 83 = .ok (.getfield 22, 3) := by decide +kernel
theorem dX9_text_86 : decode cX9_text 86 = .ok (.getfield 90, 3) := by decide +kernel
theorem dX9_text_89 : decode cX9_text 89 = .ok (.goto 4, 3) := by decide +kernel
theorem dX9_text_92 : decode cX9_text 92 = .ok (.iconst (-1), 1) := by decide +kernel
theorem dX9_text_93 : decode cX9_text 93 = .ok (.ireturn, 1) := by decide +kernel
theorem dX9_takeDraft_0 : decode cX9_takeDraft 0 = .ok (.aload_n 0, 1) := by decide +kernel
theorem dX9_takeDraft_1 : decode cX9_takeDraft 1 = .ok (.getfield 12, 3) := by decide +kernel
theorem dX9_takeDraft_4 : decode cX9_takeDraft 4 = .ok (.astore_n 1, 1) := by decide +kernel
theorem dX9_takeDraft_5 : decode cX9_takeDraft 5 = .ok (.aload_n 0, 1) := by decide +kernel
theorem dX9_takeDraft_6 : decode cX9_takeDraft 6 = .ok (.aload_n 0, 1) := by decide +kernel
theorem dX9_takeDraft_7 : decode cX9_takeDraft 7 = .ok (.getfield 16, 3) := by decide +kernel
theorem dX9_takeDraft_10 : decode cX9_takeDraft 10 = .ok (.putfield 12, 3) := by decide +kernel
theorem dX9_takeDraft_13 : decode cX9_takeDraft 13 = .ok (.aload_n 0, 1) := by decide +kernel
theorem dX9_takeDraft_14 : decode cX9_takeDraft 14 = .ok (.aload_n 1, 1) := by decide +kernel
theorem dX9_takeDraft_15 : decode cX9_takeDraft 15 = .ok (.putfield 16, 3) := by decide +kernel
theorem dX9_takeDraft_18 : decode cX9_takeDraft 18 = .ok (.aload_n 0, 1) := by decide +kernel
theorem dX9_takeDraft_19 : decode cX9_takeDraft 19 = .ok (.getfield 26, 3) := by decide +kernel
theorem dX9_takeDraft_22 : decode cX9_takeDraft 22 = .ok (.astore_n 2, 1) := by decide +kernel
theorem dX9_takeDraft_23 : decode cX9_takeDraft 23 = .ok (.aload_n 0, 1) := by decide +kernel
theorem dX9_takeDraft_24 : decode cX9_takeDraft 24 = .ok (.aload_n 0, 1) := by decide +kernel
theorem dX9_takeDraft_25 : decode cX9_takeDraft 25 = .ok (.getfield 22, 3) := by decide +kernel
theorem dX9_takeDraft_28 : decode cX9_takeDraft 28 = .ok (.putfield 26, 3) := by decide +kernel
theorem dX9_takeDraft_31 : decode cX9_takeDraft 31 = .ok (.aload_n 0, 1) := by decide +kernel
theorem dX9_takeDraft_32 : decode cX9_takeDraft 32 = .ok (.aload_n 2, 1) := by decide +kernel
theorem dX9_takeDraft_33 : decode cX9_takeDraft 33 = .ok (.putfield 22, 3) := by decide +kernel
theorem dX9_takeDraft_36 : decode cX9_takeDraft 36 = .ok (.return_, 1) := by decide +kernel
theorem dX9_fault_0 : decode cX9_fault 0 = .ok (.iload_n 1, 1) := by decide +kernel
theorem dX9_fault_1 : decode cX9_fault 1 = .ok (.lookupswitch 43 #[(0, 27), (1, 35)], 27) := by decide +kernel
theorem dX9_fault_28 : decode cX9_fault 28 = .ok (.aload_n 0, 1) := by decide +kernel
theorem dX9_fault_29 : decode cX9_fault 29 = .ok (.getfield 38, 3) := by decide +kernel
theorem dX9_fault_32 : decode cX9_fault 32 = .ok (.getfield 93, 3) := by decide +kernel
theorem dX9_fault_35 : decode cX9_fault 35 = .ok (.ireturn, 1) := by decide +kernel
theorem dX9_fault_36 : decode cX9_fault 36 = .ok (.aload_n 0, 1) := by decide +kernel
theorem dX9_fault_37 : decode cX9_fault 37 = .ok (.getfield 38, 3) := by decide +kernel
theorem dX9_fault_40 : decode cX9_fault 40 = .ok (.getfield 96, 3) := by decide +kernel
theorem dX9_fault_43 : decode cX9_fault 43 = .ok (.ireturn, 1) := by decide +kernel
theorem dX9_fault_44 : decode cX9_fault 44 = .ok (.iconst (-1), 1) := by decide +kernel
theorem dX9_fault_45 : decode cX9_fault 45 = .ok (.ireturn, 1) := by decide +kernel
theorem dX9_begin_0 : decode cX9_begin 0 = .ok (.aload_n 0, 1) := by decide +kernel
theorem dX9_begin_1 : decode cX9_begin 1 = .ok (.getfield 45, 3) := by decide +kernel
theorem dX9_begin_4 : decode cX9_begin 4 = .ok (.invokevirtual 99, 3) := by decide +kernel
theorem dX9_begin_7 : decode cX9_begin 7 = .ok (.aload_n 0, 1) := by decide +kernel
theorem dX9_begin_8 : decode cX9_begin 8 = .ok (.getfield 54, 3) := by decide +kernel
theorem dX9_begin_11 : decode cX9_begin 11 = .ok (.aload_n 0, 1) := by decide +kernel
theorem dX9_begin_12 : decode cX9_begin 12 = .ok (.getfield 22, 3) := by decide +kernel
theorem dX9_begin_15 : decode cX9_begin 15 = .ok (.invokevirtual 84, 3) := by decide +kernel
theorem dX9_begin_18 : decode cX9_begin 18 = .ok (.return_, 1) := by decide +kernel
theorem dX9_cut_0 : decode cX9_cut 0 = .ok (.aload_n 0, 1) := by decide +kernel
theorem dX9_cut_1 : decode cX9_cut 1 = .ok (.getfield 22, 3) := by decide +kernel
theorem dX9_cut_4 : decode cX9_cut 4 = .ok (.iload_n 1, 1) := by decide +kernel
theorem dX9_cut_5 : decode cX9_cut 5 = .ok (.invokevirtual 102, 3) := by decide +kernel
theorem dX9_cut_8 : decode cX9_cut 8 = .ok (.ifCond .ne 5, 3) := by decide +kernel
theorem dX9_cut_11 : decode cX9_cut 11 = .ok (.iconst 0, 1) := by decide +kernel
theorem dX9_cut_12 : decode cX9_cut 12 = .ok (.ireturn, 1) := by decide +kernel
theorem dX9_cut_13 : decode cX9_cut 13 = .ok (.aload_n 0, 1) := by decide +kernel
theorem dX9_cut_14 : decode cX9_cut 14 = .ok (.getfield 54, 3) := by decide +kernel
theorem dX9_cut_17 : decode cX9_cut 17 = .ok (.iload_n 1, 1) := by decide +kernel
theorem dX9_cut_18 : decode cX9_cut 18 = .ok (.iload_n 2, 1) := by decide +kernel
theorem dX9_cut_19 : decode cX9_cut 19 = .ok (.invokevirtual 105, 3) := by decide +kernel
theorem dX9_cut_22 : decode cX9_cut 22 = .ok (.iconst 1, 1) := by decide +kernel
theorem dX9_cut_23 : decode cX9_cut 23 = .ok (.ireturn, 1) := by decide +kernel
theorem dX9_change_0 : decode cX9_change 0 = .ok (.aload_n 0, 1) := by decide +kernel
theorem dX9_change_1 : decode cX9_change 1 = .ok (.getfield 22, 3) := by decide +kernel
theorem dX9_change_4 : decode cX9_change 4 = .ok (.iload_n 1, 1) := by decide +kernel
theorem dX9_change_5 : decode cX9_change 5 = .ok (.invokevirtual 109, 3) := by decide +kernel
theorem dX9_change_8 : decode cX9_change 8 = .ok (.ifCond .eq 25, 3) := by decide +kernel
theorem dX9_change_11 : decode cX9_change 11 = .ok (.aload_n 0, 1) := by decide +kernel
theorem dX9_change_12 : decode cX9_change 12 = .ok (.getfield 22, 3) := by decide +kernel
theorem dX9_change_15 : decode cX9_change 15 = .ok (.iload_n 2, 1) := by decide +kernel
theorem dX9_change_16 : decode cX9_change 16 = .ok (.invokevirtual 112, 3) := by decide +kernel
theorem dX9_change_19 : decode cX9_change 19 = .ok (.ifCond .eq 14, 3) := by decide +kernel
theorem dX9_change_22 : decode cX9_change 22 = .ok (.aload_n 0, 1) := by decide +kernel
theorem dX9_change_23 : decode cX9_change 23 = .ok (.getfield 12, 3) := by decide +kernel
theorem dX9_change_26 : decode cX9_change 26 = .ok (.iload_n 3, 1) := by decide +kernel
theorem dX9_change_27 : decode cX9_change 27 = .ok (.invokevirtual 70, 3) := by decide +kernel
theorem dX9_change_30 : decode cX9_change 30 = .ok (.ifCond .ne 5, 3) := by decide +kernel
theorem dX9_change_33 : decode cX9_change 33 = .ok (.iconst 0, 1) := by decide +kernel
theorem dX9_change_34 : decode cX9_change 34 = .ok (.ireturn, 1) := by decide +kernel
theorem dX9_change_35 : decode cX9_change 35 = .ok (.iload_n 3, 1) := by decide +kernel
theorem dX9_change_36 : decode cX9_change 36 = .ok (.ifCond .ne 15, 3) := by decide +kernel
theorem dX9_change_39 : decode cX9_change 39 = .ok (.aload_n 0, 1) := by decide +kernel
theorem dX9_change_40 : decode cX9_change 40 = .ok (.getfield 45, 3) := by decide +kernel
theorem dX9_change_43 : decode cX9_change 43 = .ok (.iload_n 1, 1) := by decide +kernel
theorem dX9_change_44 : decode cX9_change 44 = .ok (.iload_n 2, 1) := by decide +kernel
theorem dX9_change_45 : decode cX9_change 45 = .ok (.invokevirtual 115, 3) := by decide +kernel
theorem dX9_change_48 : decode cX9_change 48 = .ok (.goto 66, 3) := by decide +kernel
theorem dX9_change_51 : decode cX9_change 51 = .ok (.aload_n 0, 1) := by decide +kernel
theorem dX9_change_52 : decode cX9_change 52 = .ok (.getfield 12, 3) := by decide +kernel
theorem dX9_change_55 : decode cX9_change 55 = .ok (.getfield 31, 3) := by decide +kernel
theorem dX9_change_58 : decode cX9_change 58 = .ok (.iconst 0, 1) := by decide +kernel
theorem dX9_change_59 : decode cX9_change 59 = .ok (.iload_n 3, 1) := by decide +kernel
theorem dX9_change_60 : decode cX9_change 60 = .ok (.invokestatic 119, 3) := by decide +kernel
theorem dX9_change_63 : decode cX9_change 63 = .ok (.ifCond .eq 49, 3) := by decide +kernel
theorem dX9_change_66 : decode cX9_change 66 = .ok (.aload_n 0, 1) := by decide +kernel
theorem dX9_change_67 : decode cX9_change 67 = .ok (.getfield 12, 3) := by decide +kernel
theorem dX9_change_70 : decode cX9_change 70 = .ok (.getfield 31, 3) := by decide +kernel
theorem dX9_change_73 : decode cX9_change 73 = .ok (.iconst 0, 1) := by decide +kernel
theorem dX9_change_74 : decode cX9_change 74 = .ok (.iload_n 3, 1) := by decide +kernel
theorem dX9_change_75 : decode cX9_change 75 = .ok (.aload_n 0, 1) := by decide +kernel
theorem dX9_change_76 : decode cX9_change 76 = .ok (.getfield 22, 3) := by decide +kernel
theorem dX9_change_79 : decode cX9_change 79 = .ok (.iload_n 2, 1) := by decide +kernel
theorem dX9_change_80 : decode cX9_change 80 = .ok (.invokevirtual 125, 3) := by decide +kernel
theorem dX9_change_83 : decode cX9_change 83 = .ok (.invokestatic 129, 3) := by decide +kernel
theorem dX9_change_86 : decode cX9_change 86 = .ok (.ifCond .eq 26, 3) := by decide +kernel
theorem dX9_change_89 : decode cX9_change 89 = .ok (.aload_n 0, 1) := by decide +kernel
theorem dX9_change_90 : decode cX9_change 90 = .ok (.getfield 45, 3) := by decide +kernel
theorem dX9_change_93 : decode cX9_change 93 = .ok (.iload_n 1, 1) := by decide +kernel
theorem dX9_change_94 : decode cX9_change 94 = .ok (.iload_n 2, 1) := by decide +kernel
theorem dX9_change_95 : decode cX9_change 95 = .ok (.aload_n 0, 1) := by decide +kernel
theorem dX9_change_96 : decode cX9_change 96 = .ok (.getfield 12, 3) := by decide +kernel
theorem dX9_change_99 : decode cX9_change 99 = .ok (.getfield 31, 3) := by decide +kernel
theorem dX9_change_102 : decode cX9_change 102 = .ok (.iload_n 3, 1) := by decide +kernel
theorem dX9_change_103 : decode cX9_change 103 = .ok (.invokestatic 133, 3) := by decide +kernel
theorem dX9_change_106 : decode cX9_change 106 = .ok (.invokevirtual 139, 3) := by decide +kernel
theorem dX9_change_109 : decode cX9_change 109 = .ok (.goto 5, 3) := by decide +kernel
theorem dX9_change_112 : decode cX9_change 112 = .ok (.iconst 0, 1) := by decide +kernel
theorem dX9_change_113 : decode cX9_change 113 = .ok (.ireturn, 1) := by decide +kernel
theorem dX9_change_114 : decode cX9_change 114 = .ok (.aload_n 0, 1) := by decide +kernel
theorem dX9_change_115 : decode cX9_change 115 = .ok (.getfield 12, 3) := by decide +kernel
theorem dX9_change_118 : decode cX9_change 118 = .ok (.invokevirtual 87, 3) := by decide +kernel
theorem dX9_change_121 : decode cX9_change 121 = .ok (.iconst 1, 1) := by decide +kernel
theorem dX9_change_122 : decode cX9_change 122 = .ok (.ireturn, 1) := by decide +kernel
theorem dX9_heard_0 : decode cX9_heard 0 = .ok (.iload_n 1, 1) := by decide +kernel
theorem dX9_heard_1 : decode cX9_heard 1 = .ok (.iconst 1, 1) := by decide +kernel
theorem dX9_heard_2 : decode cX9_heard 2 = .ok (.if_icmp .lt 20, 3) := by decide +kernel
theorem dX9_heard_5 : decode cX9_heard 5 = .ok (.iload_n 1, 1) := by decide +kernel
theorem dX9_heard_6 : decode cX9_heard 6 = .ok (.sipush 999, 3) := by decide +kernel
theorem dX9_heard_9 : decode cX9_heard 9 = .ok (.if_icmp .gt 13, 3) := by decide +kernel
theorem dX9_heard_12 : decode cX9_heard 12 = .ok (.aload_n 0, 1) := by decide +kernel
theorem dX9_heard_13 : decode cX9_heard 13 = .ok (.getfield 54, 3) := by decide +kernel
theorem dX9_heard_16 : decode cX9_heard 16 = .ok (.getfield 143, 3) := by decide +kernel
theorem dX9_heard_19 : decode cX9_heard 19 = .ok (.ifCond .ne 5, 3) := by decide +kernel
theorem dX9_heard_22 : decode cX9_heard 22 = .ok (.iconst (-1), 1) := by decide +kernel
theorem dX9_heard_23 : decode cX9_heard 23 = .ok (.ireturn, 1) := by decide +kernel
theorem dX9_heard_24 : decode cX9_heard 24 = .ok (.aload_n 0, 1) := by decide +kernel
theorem dX9_heard_25 : decode cX9_heard 25 = .ok (.getfield 54, 3) := by decide +kernel
theorem dX9_heard_28 : decode cX9_heard 28 = .ok (.iload_n 1, 1) := by decide +kernel
theorem dX9_heard_29 : decode cX9_heard 29 = .ok (.invokevirtual 147, 3) := by decide +kernel
theorem dX9_heard_32 : decode cX9_heard 32 = .ok (.aload_n 0, 1) := by decide +kernel
theorem dX9_heard_33 : decode cX9_heard 33 = .ok (.getfield 54, 3) := by decide +kernel
theorem dX9_heard_36 : decode cX9_heard 36 = .ok (.getfield 150, 3) := by decide +kernel
theorem dX9_heard_39 : decode cX9_heard 39 = .ok (.ireturn, 1) := by decide +kernel
theorem dX9_hand_0 : decode cX9_hand 0 = .ok (.iload_n 1, 1) := by decide +kernel
theorem dX9_hand_1 : decode cX9_hand 1 = .ok (.ifCond .lt 10, 3) := by decide +kernel
theorem dX9_hand_4 : decode cX9_hand 4 = .ok (.iload_n 1, 1) := by decide +kernel
theorem dX9_hand_5 : decode cX9_hand 5 = .ok (.sipush 999, 3) := by decide +kernel
theorem dX9_hand_8 : decode cX9_hand 8 = .ok (.if_icmp .le 5, 3) := by decide +kernel
theorem dX9_hand_11 : decode cX9_hand 11 = .ok (.iconst (-1), 1) := by decide +kernel
theorem dX9_hand_12 : decode cX9_hand 12 = .ok (.ireturn, 1) := by decide +kernel
theorem dX9_hand_13 : decode cX9_hand 13 = .ok (.aload_n 0, 1) := by decide +kernel
theorem dX9_hand_14 : decode cX9_hand 14 = .ok (.getfield 54, 3) := by decide +kernel
theorem dX9_hand_17 : decode cX9_hand 17 = .ok (.iload_n 1, 1) := by decide +kernel
theorem dX9_hand_18 : decode cX9_hand 18 = .ok (.iload_n 2, 1) := by decide +kernel
theorem dX9_hand_19 : decode cX9_hand 19 = .ok (.invokevirtual 153, 3) := by decide +kernel
theorem dX9_hand_22 : decode cX9_hand 22 = .ok (.aload_n 0, 1) := by decide +kernel
theorem dX9_hand_23 : decode cX9_hand 23 = .ok (.getfield 54, 3) := by decide +kernel
theorem dX9_hand_26 : decode cX9_hand 26 = .ok (.getfield 150, 3) := by decide +kernel
theorem dX9_hand_29 : decode cX9_hand 29 = .ok (.ireturn, 1) := by decide +kernel
theorem dX9_title_0 : decode cX9_title 0 = .ok (.aload_n 0, 1) := by decide +kernel
theorem dX9_title_1 : decode cX9_title 1 = .ok (.getfield 22, 3) := by decide +kernel
theorem dX9_title_4 : decode cX9_title 4 = .ok (.iload_n 1, 1) := by decide +kernel
theorem dX9_title_5 : decode cX9_title 5 = .ok (.invokevirtual 109, 3) := by decide +kernel
theorem dX9_title_8 : decode cX9_title 8 = .ok (.ifCond .ne 13, 3) := by decide +kernel
theorem dX9_title_11 : decode cX9_title 11 = .ok (.new 156, 3) := by decide +kernel
theorem dX9_title_14 : decode cX9_title 14 = .ok (.dup, 1) := by decide +kernel
theorem dX9_title_15 : decode cX9_title 15 = .ok (.ldc 158, 2) := by decide +kernel
theorem dX9_title_17 : decode cX9_title 17 = .ok (.invokespecial 160, 3) := by decide +kernel
theorem dX9_title_20 : decode cX9_title 20 = .ok (.athrow, 1) := by decide +kernel
theorem dX9_title_21 : decode cX9_title 21 = .ok (.iload_n 2, 1) := by decide +kernel
theorem dX9_title_22 : decode cX9_title 22 = .ok (.tableswitch 89 0 4 #[34, 43, 52, 58, 72], 34) := by decide +kernel
theorem dX9_title_56 : decode cX9_title 56 = .ok (.aload_n 0, 1) := by decide +kernel
theorem dX9_title_57 : decode cX9_title 57 = .ok (.getfield 22, 3) := by decide +kernel
theorem dX9_title_60 : decode cX9_title 60 = .ok (.iload_n 1, 1) := by decide +kernel
theorem dX9_title_61 : decode cX9_title 61 = .ok (.invokevirtual 163, 3) := by decide +kernel
theorem dX9_title_64 : decode cX9_title 64 = .ok (.ireturn, 1) := by decide +kernel
theorem dX9_title_65 : decode cX9_title 65 = .ok (.aload_n 0, 1) := by decide +kernel
theorem dX9_title_66 : decode cX9_title 66 = .ok (.getfield 45, 3) := by decide +kernel
theorem dX9_title_69 : decode cX9_title 69 = .ok (.iload_n 1, 1) := by decide +kernel
theorem dX9_title_70 : decode cX9_title 70 = .ok (.invokevirtual 166, 3) := by decide +kernel
theorem dX9_title_73 : decode cX9_title 73 = .ok (.ireturn, 1) := by decide +kernel
theorem dX9_title_74 : decode cX9_title 74 = .ok (.aload_n 0, 1) := by decide +kernel
theorem dX9_title_75 : decode cX9_title 75 = .ok (.iload_n 1, 1) := by decide +kernel
theorem dX9_title_76 : decode cX9_title 76 = .ok (.invokevirtual 169, 3) := by decide +kernel
theorem dX9_title_79 : decode cX9_title 79 = .ok (.ireturn, 1) := by decide +kernel
theorem dX9_title_80 : decode cX9_title 80 = .ok (.aload_n 0, 1) := by decide +kernel
theorem dX9_title_81 : decode cX9_title 81 = .ok (.getfield 45, 3) := by decide +kernel
theorem dX9_title_84 : decode cX9_title 84 = .ok (.iload_n 1, 1) := by decide +kernel
theorem dX9_title_85 : decode cX9_title 85 = .ok (.aload_n 0, 1) := by decide +kernel
theorem dX9_title_86 : decode cX9_title 86 = .ok (.iload_n 1, 1) := by decide +kernel
theorem dX9_title_87 : decode cX9_title 87 = .ok (.invokevirtual 169, 3) := by decide +kernel
theorem dX9_title_90 : decode cX9_title 90 = .ok (.invokevirtual 172, 3) := by decide +kernel
theorem dX9_title_93 : decode cX9_title 93 = .ok (.ireturn, 1) := by decide +kernel
theorem dX9_title_94 : decode cX9_title 94 = .ok (.aload_n 0, 1) := by decide +kernel
theorem dX9_title_95 : decode cX9_title 95 = .ok (.getfield 45, 3) := by decide +kernel
theorem dX9_title_98 : decode cX9_title 98 = .ok (.iload_n 1, 1) := by decide +kernel
theorem dX9_title_99 : decode cX9_title 99 = .ok (.invokevirtual 176, 3) := by decide +kernel
theorem dX9_title_102 : decode cX9_title 102 = .ok (.ifCond .eq 7, 3) := by decide +kernel
theorem dX9_title_105 : decode cX9_title 105 = .ok (.iconst 1, 1) := by decide +kernel
theorem dX9_title_106 : decode cX9_title 106 = .ok (.goto 4, 3) := by decide +kernel
theorem dX9_title_109 : decode cX9_title 109 = .ok (.iconst 0, 1) := by decide +kernel
theorem dX9_title_110 : decode cX9_title 110 = .ok (.ireturn, 1) := by decide +kernel
theorem dX9_title_111 : decode cX9_title 111 = .ok (.new 179, 3) := by decide +kernel
theorem dX9_title_114 : decode cX9_title 114 = .ok (.dup, 1) := by decide +kernel
theorem dX9_title_115 : decode cX9_title 115 = .ok (.ldc 181, 2) := by decide +kernel
theorem dX9_title_117 : decode cX9_title 117 = .ok (.invokespecial 183, 3) := by decide +kernel
theorem dX9_title_120 : decode cX9_title 120 = .ok (.athrow, 1) := by decide +kernel
theorem dX9_pages_0 : decode cX9_pages 0 = .ok (.aload_n 0, 1) := by decide +kernel
theorem dX9_pages_1 : decode cX9_pages 1 = .ok (.iload_n 1, 1) := by decide +kernel
theorem dX9_pages_2 : decode cX9_pages 2 = .ok (.iload_n 2, 1) := by decide +kernel
theorem dX9_pages_3 : decode cX9_pages 3 = .ok (.invokevirtual 184, 3) := by decide +kernel
theorem dX9_pages_6 : decode cX9_pages 6 = .ok (.aload_n 0, 1) := by decide +kernel
theorem dX9_pages_7 : decode cX9_pages 7 = .ok (.getfield 45, 3) := by decide +kernel
theorem dX9_pages_10 : decode cX9_pages 10 = .ok (.iload_n 1, 1) := by decide +kernel
theorem dX9_pages_11 : decode cX9_pages 11 = .ok (.iload_n 2, 1) := by decide +kernel
theorem dX9_pages_12 : decode cX9_pages 12 = .ok (.invokevirtual 187, 3) := by decide +kernel
theorem dX9_pages_15 : decode cX9_pages 15 = .ok (.getfield 191, 3) := by decide +kernel
theorem dX9_pages_18 : decode cX9_pages 18 = .ok (.ireturn, 1) := by decide +kernel
theorem dX9_price_0 : decode cX9_price 0 = .ok (.aload_n 0, 1) := by decide +kernel
theorem dX9_price_1 : decode cX9_price 1 = .ok (.iload_n 1, 1) := by decide +kernel
theorem dX9_price_2 : decode cX9_price 2 = .ok (.iload_n 2, 1) := by decide +kernel
theorem dX9_price_3 : decode cX9_price 3 = .ok (.invokevirtual 184, 3) := by decide +kernel
theorem dX9_price_6 : decode cX9_price 6 = .ok (.aload_n 0, 1) := by decide +kernel
theorem dX9_price_7 : decode cX9_price 7 = .ok (.getfield 45, 3) := by decide +kernel
theorem dX9_price_10 : decode cX9_price 10 = .ok (.iload_n 1, 1) := by decide +kernel
theorem dX9_price_11 : decode cX9_price 11 = .ok (.iload_n 2, 1) := by decide +kernel
theorem dX9_price_12 : decode cX9_price 12 = .ok (.invokevirtual 187, 3) := by decide +kernel
theorem dX9_price_15 : decode cX9_price 15 = .ok (.getfield 196, 3) := by decide +kernel
theorem dX9_price_18 : decode cX9_price 18 = .ok (.ireturn, 1) := by decide +kernel
theorem dX9_refuseUnknown_0 : decode cX9_refuseUnknown 0 = .ok (.aload_n 0, 1) := by decide +kernel
theorem dX9_refuseUnknown_1 : decode cX9_refuseUnknown 1 = .ok (.getfield 22, 3) := by decide +kernel
theorem dX9_refuseUnknown_4 : decode cX9_refuseUnknown 4 = .ok (.iload_n 1, 1) := by decide +kernel
theorem dX9_refuseUnknown_5 : decode cX9_refuseUnknown 5 = .ok (.invokevirtual 109, 3) := by decide +kernel
theorem dX9_refuseUnknown_8 : decode cX9_refuseUnknown 8 = .ok (.ifCond .ne 13, 3) := by decide +kernel
theorem dX9_refuseUnknown_11 : decode cX9_refuseUnknown 11 = .ok (.new 156, 3) := by decide +kernel
theorem dX9_refuseUnknown_14 : decode cX9_refuseUnknown 14 = .ok (.dup, 1) := by decide +kernel
theorem dX9_refuseUnknown_15 : decode cX9_refuseUnknown 15 = .ok (.ldc 158, 2) := by decide +kernel
theorem dX9_refuseUnknown_17 : decode cX9_refuseUnknown 17 = .ok (.invokespecial 160, 3) := by decide +kernel
theorem dX9_refuseUnknown_20 : decode cX9_refuseUnknown 20 = .ok (.athrow, 1) := by decide +kernel
theorem dX9_refuseUnknown_21 : decode cX9_refuseUnknown 21 = .ok (.aload_n 0, 1) := by decide +kernel
theorem dX9_refuseUnknown_22 : decode cX9_refuseUnknown 22 = .ok (.getfield 22, 3) := by decide +kernel
theorem dX9_refuseUnknown_25 : decode cX9_refuseUnknown 25 = .ok (.iload_n 2, 1) := by decide +kernel
theorem dX9_refuseUnknown_26 : decode cX9_refuseUnknown 26 = .ok (.invokevirtual 112, 3) := by decide +kernel
theorem dX9_refuseUnknown_29 : decode cX9_refuseUnknown 29 = .ok (.ifCond .ne 13, 3) := by decide +kernel
theorem dX9_refuseUnknown_32 : decode cX9_refuseUnknown 32 = .ok (.new 179, 3) := by decide +kernel
theorem dX9_refuseUnknown_35 : decode cX9_refuseUnknown 35 = .ok (.dup, 1) := by decide +kernel
theorem dX9_refuseUnknown_36 : decode cX9_refuseUnknown 36 = .ok (.ldc 199, 2) := by decide +kernel
theorem dX9_refuseUnknown_38 : decode cX9_refuseUnknown 38 = .ok (.invokespecial 183, 3) := by decide +kernel
theorem dX9_refuseUnknown_41 : decode cX9_refuseUnknown 41 = .ok (.athrow, 1) := by decide +kernel
theorem dX9_refuseUnknown_42 : decode cX9_refuseUnknown 42 = .ok (.return_, 1) := by decide +kernel
theorem dX9_sign_0 : decode cX9_sign 0 = .ok (.aload_n 0, 1) := by decide +kernel
theorem dX9_sign_1 : decode cX9_sign 1 = .ok (.getfield 45, 3) := by decide +kernel
theorem dX9_sign_4 : decode cX9_sign 4 = .ok (.iload_n 1, 1) := by decide +kernel
theorem dX9_sign_5 : decode cX9_sign 5 = .ok (.iload_n 2, 1) := by decide +kernel
theorem dX9_sign_6 : decode cX9_sign 6 = .ok (.invokevirtual 187, 3) := by decide +kernel
theorem dX9_sign_9 : decode cX9_sign 9 = .ok (.iload_n 3, 1) := by decide +kernel
theorem dX9_sign_10 : decode cX9_sign 10 = .ok (.iload 4, 2) := by decide +kernel
theorem dX9_sign_12 : decode cX9_sign 12 = .ok (.iload 5, 2) := by decide +kernel
theorem dX9_sign_14 : decode cX9_sign 14 = .ok (.invokevirtual 201, 3) := by decide +kernel
theorem dX9_sign_17 : decode cX9_sign 17 = .ok (.ireturn, 1) := by decide +kernel
theorem dX9_shown_0 : decode cX9_shown 0 = .ok (.aload_n 0, 1) := by decide +kernel
theorem dX9_shown_1 : decode cX9_shown 1 = .ok (.getfield 22, 3) := by decide +kernel
theorem dX9_shown_4 : decode cX9_shown 4 = .ok (.aload_n 0, 1) := by decide +kernel
theorem dX9_shown_5 : decode cX9_shown 5 = .ok (.getfield 54, 3) := by decide +kernel
theorem dX9_shown_8 : decode cX9_shown 8 = .ok (.getfield 150, 3) := by decide +kernel
theorem dX9_shown_11 : decode cX9_shown 11 = .ok (.invokevirtual 205, 3) := by decide +kernel
theorem dX9_shown_14 : decode cX9_shown 14 = .ok (.istore_n 2, 1) := by decide +kernel
theorem dX9_shown_15 : decode cX9_shown 15 = .ok (.iload_n 2, 1) := by decide +kernel
theorem dX9_shown_16 : decode cX9_shown 16 = .ok (.iconst (-1), 1) := by decide +kernel
theorem dX9_shown_17 : decode cX9_shown 17 = .ok (.if_icmp .ne 5, 3) := by decide +kernel
theorem dX9_shown_20 : decode cX9_shown 20 = .ok (.iconst (-1), 1) := by decide +kernel
theorem dX9_shown_21 : decode cX9_shown 21 = .ok (.ireturn, 1) := by decide +kernel
theorem dX9_shown_22 : decode cX9_shown 22 = .ok (.iload_n 1, 1) := by decide +kernel
theorem dX9_shown_23 : decode cX9_shown 23 = .ok (.tableswitch 59 0 5 #[37, 39, 45, 45, 45, 45], 37) := by decide +kernel
theorem dX9_shown_60 : decode cX9_shown 60 = .ok (.iload_n 2, 1) := by decide +kernel
theorem dX9_shown_61 : decode cX9_shown 61 = .ok (.ireturn, 1) := by decide +kernel
theorem dX9_shown_62 : decode cX9_shown 62 = .ok (.aload_n 0, 1) := by decide +kernel
theorem dX9_shown_63 : decode cX9_shown 63 = .ok (.iload_n 2, 1) := by decide +kernel
theorem dX9_shown_64 : decode cX9_shown 64 = .ok (.invokevirtual 208, 3) := by decide +kernel
theorem dX9_shown_67 : decode cX9_shown 67 = .ok (.ireturn, 1) := by decide +kernel
theorem dX9_shown_68 : decode cX9_shown 68 = .ok (.aload_n 0, 1) := by decide +kernel
theorem dX9_shown_69 : decode cX9_shown 69 = .ok (.iload_n 2, 1) := by decide +kernel
theorem dX9_shown_70 : decode cX9_shown 70 = .ok (.iload_n 1, 1) := by decide +kernel
theorem dX9_shown_71 : decode cX9_shown 71 = .ok (.iconst 2, 1) := by decide +kernel
theorem dX9_shown_72 : decode cX9_shown 72 = .ok (.isub, 1) := by decide +kernel
theorem dX9_shown_73 : decode cX9_shown 73 = .ok (.aload_n 0, 1) := by decide +kernel
theorem dX9_shown_74 : decode cX9_shown 74 = .ok (.iload_n 2, 1) := by decide +kernel
theorem dX9_shown_75 : decode cX9_shown 75 = .ok (.invokevirtual 208, 3) := by decide +kernel
theorem dX9_shown_78 : decode cX9_shown 78 = .ok (.invokevirtual 211, 3) := by decide +kernel
theorem dX9_shown_81 : decode cX9_shown 81 = .ok (.ireturn, 1) := by decide +kernel
theorem dX9_shown_82 : decode cX9_shown 82 = .ok (.iconst (-1), 1) := by decide +kernel
theorem dX9_shown_83 : decode cX9_shown 83 = .ok (.ireturn, 1) := by decide +kernel
theorem dX9_now_0 : decode cX9_now 0 = .ok (.aload_n 0, 1) := by decide +kernel
theorem dX9_now_1 : decode cX9_now 1 = .ok (.getfield 22, 3) := by decide +kernel
theorem dX9_now_4 : decode cX9_now 4 = .ok (.aload_n 0, 1) := by decide +kernel
theorem dX9_now_5 : decode cX9_now 5 = .ok (.getfield 54, 3) := by decide +kernel
theorem dX9_now_8 : decode cX9_now 8 = .ok (.getfield 150, 3) := by decide +kernel
theorem dX9_now_11 : decode cX9_now 11 = .ok (.invokevirtual 205, 3) := by decide +kernel
theorem dX9_now_14 : decode cX9_now 14 = .ok (.istore 4, 2) := by decide +kernel
theorem dX9_now_16 : decode cX9_now 16 = .ok (.iload 4, 2) := by decide +kernel
theorem dX9_now_18 : decode cX9_now 18 = .ok (.iconst (-1), 1) := by decide +kernel
theorem dX9_now_19 : decode cX9_now 19 = .ok (.if_icmp .ne 5, 3) := by decide +kernel
theorem dX9_now_22 : decode cX9_now 22 = .ok (.iconst (-1), 1) := by decide +kernel
theorem dX9_now_23 : decode cX9_now 23 = .ok (.ireturn, 1) := by decide +kernel
theorem dX9_now_24 : decode cX9_now 24 = .ok (.aload_n 0, 1) := by decide +kernel
theorem dX9_now_25 : decode cX9_now 25 = .ok (.iload 4, 2) := by decide +kernel
theorem dX9_now_27 : decode cX9_now 27 = .ok (.iload_n 1, 1) := by decide +kernel
theorem dX9_now_28 : decode cX9_now 28 = .ok (.aload_n 0, 1) := by decide +kernel
theorem dX9_now_29 : decode cX9_now 29 = .ok (.iload 4, 2) := by decide +kernel
theorem dX9_now_31 : decode cX9_now 31 = .ok (.invokevirtual 208, 3) := by decide +kernel
theorem dX9_now_34 : decode cX9_now 34 = .ok (.invokevirtual 211, 3) := by decide +kernel
theorem dX9_now_37 : decode cX9_now 37 = .ok (.istore 5, 2) := by decide +kernel
theorem dX9_now_39 : decode cX9_now 39 = .ok (.aload_n 0, 1) := by decide +kernel
theorem dX9_now_40 : decode cX9_now 40 = .ok (.getfield 45, 3) := by decide +kernel
theorem dX9_now_43 : decode cX9_now 43 = .ok (.iload 4, 2) := by decide +kernel
theorem dX9_now_45 : decode cX9_now 45 = .ok (.iload_n 1, 1) := by decide +kernel
theorem dX9_now_46 : decode cX9_now 46 = .ok (.invokevirtual 187, 3) := by decide +kernel
theorem dX9_now_49 : decode cX9_now 49 = .ok (.iload 5, 2) := by decide +kernel
theorem dX9_now_51 : decode cX9_now 51 = .ok (.iload_n 2, 1) := by decide +kernel
theorem dX9_now_52 : decode cX9_now 52 = .ok (.iload_n 3, 1) := by decide +kernel
theorem dX9_now_53 : decode cX9_now 53 = .ok (.invokevirtual 201, 3) := by decide +kernel
theorem dX9_now_56 : decode cX9_now 56 = .ok (.ireturn, 1) := by decide +kernel
theorem dX9_count_0 : decode cX9_count 0 = .ok (.iload_n 1, 1) := by decide +kernel
theorem dX9_count_1 : decode cX9_count 1 = .ok (.tableswitch 133 0 8 #[51, 59, 67, 75, 83, 99, 107, 116, 125], 51) := by decide +kernel
theorem dX9_count_52 : decode cX9_count 52 = .ok (.aload_n 0, 1) := by decide +kernel
theorem dX9_count_53 : decode cX9_count 53 = .ok (.getfield 22, 3) := by decide +kernel
theorem dX9_count_56 : decode cX9_count 56 = .ok (.getfield 214, 3) := by decide +kernel
theorem dX9_count_59 : decode cX9_count 59 = .ok (.ireturn, 1) := by decide +kernel
theorem dX9_count_60 : decode cX9_count 60 = .ok (.aload_n 0, 1) := by decide +kernel
theorem dX9_count_61 : decode cX9_count 61 = .ok (.getfield 22, 3) := by decide +kernel
theorem dX9_count_64 : decode cX9_count 64 = .ok (.getfield 90, 3) := by decide +kernel
theorem dX9_count_67 : decode cX9_count 67 = .ok (.ireturn, 1) := by decide +kernel
theorem dX9_count_68 : decode cX9_count 68 = .ok (.aload_n 0, 1) := by decide +kernel
theorem dX9_count_69 : decode cX9_count 69 = .ok (.getfield 22, 3) := by decide +kernel
theorem dX9_count_72 : decode cX9_count 72 = .ok (.getfield 217, 3) := by decide +kernel
theorem dX9_count_75 : decode cX9_count 75 = .ok (.ireturn, 1) := by decide +kernel
theorem dX9_count_76 : decode cX9_count 76 = .ok (.aload_n 0, 1) := by decide +kernel
theorem dX9_count_77 : decode cX9_count 77 = .ok (.getfield 54, 3) := by decide +kernel
theorem dX9_count_80 : decode cX9_count 80 = .ok (.getfield 150, 3) := by decide +kernel
theorem dX9_count_83 : decode cX9_count 83 = .ok (.ireturn, 1) := by decide +kernel
theorem dX9_count_84 : decode cX9_count 84 = .ok (.aload_n 0, 1) := by decide +kernel
theorem dX9_count_85 : decode cX9_count 85 = .ok (.getfield 54, 3) := by decide +kernel
theorem dX9_count_88 : decode cX9_count 88 = .ok (.getfield 143, 3) := by decide +kernel
theorem dX9_count_91 : decode cX9_count 91 = .ok (.ifCond .eq 7, 3) := by decide +kernel
theorem dX9_count_94 : decode cX9_count 94 = .ok (.iconst 1, 1) := by decide +kernel
theorem dX9_count_95 : decode cX9_count 95 = .ok (.goto 4, 3) := by decide +kernel
theorem dX9_count_98 : decode cX9_count 98 = .ok (.iconst 0, 1) := by decide +kernel
theorem dX9_count_99 : decode cX9_count 99 = .ok (.ireturn, 1) := by decide +kernel
theorem dX9_count_100 : decode cX9_count 100 = .ok (.aload_n 0, 1) := by decide +kernel
theorem dX9_count_101 : decode cX9_count 101 = .ok (.getfield 54, 3) := by decide +kernel
theorem dX9_count_104 : decode cX9_count 104 = .ok (.getfield 220, 3) := by decide +kernel
theorem dX9_count_107 : decode cX9_count 107 = .ok (.ireturn, 1) := by decide +kernel
theorem dX9_count_108 : decode cX9_count 108 = .ok (.aload_n 0, 1) := by decide +kernel
theorem dX9_count_109 : decode cX9_count 109 = .ok (.getfield 22, 3) := by decide +kernel
theorem dX9_count_112 : decode cX9_count 112 = .ok (.iconst 0, 1) := by decide +kernel
theorem dX9_count_113 : decode cX9_count 113 = .ok (.invokevirtual 125, 3) := by decide +kernel
theorem dX9_count_116 : decode cX9_count 116 = .ok (.ireturn, 1) := by decide +kernel
theorem dX9_count_117 : decode cX9_count 117 = .ok (.aload_n 0, 1) := by decide +kernel
theorem dX9_count_118 : decode cX9_count 118 = .ok (.getfield 22, 3) := by decide +kernel
theorem dX9_count_121 : decode cX9_count 121 = .ok (.iconst 0, 1) := by decide +kernel
theorem dX9_count_122 : decode cX9_count 122 = .ok (.invokevirtual 223, 3) := by decide +kernel
theorem dX9_count_125 : decode cX9_count 125 = .ok (.ireturn, 1) := by decide +kernel
theorem dX9_count_126 : decode cX9_count 126 = .ok (.aload_n 0, 1) := by decide +kernel
theorem dX9_count_127 : decode cX9_count 127 = .ok (.getfield 22, 3) := by decide +kernel
theorem dX9_count_130 : decode cX9_count 130 = .ok (.invokevirtual 226, 3) := by decide +kernel
theorem dX9_count_133 : decode cX9_count 133 = .ok (.ireturn, 1) := by decide +kernel
theorem dX9_count_134 : decode cX9_count 134 = .ok (.iconst (-1), 1) := by decide +kernel
theorem dX9_count_135 : decode cX9_count 135 = .ok (.ireturn, 1) := by decide +kernel
theorem dX9_countedBarsOf_0 : decode cX9_countedBarsOf 0 = .ok (.aload_n 0, 1) := by decide +kernel
theorem dX9_countedBarsOf_1 : decode cX9_countedBarsOf 1 = .ok (.getfield 54, 3) := by decide +kernel
theorem dX9_countedBarsOf_4 : decode cX9_countedBarsOf 4 = .ok (.aload_n 0, 1) := by decide +kernel
theorem dX9_countedBarsOf_5 : decode cX9_countedBarsOf 5 = .ok (.getfield 22, 3) := by decide +kernel
theorem dX9_countedBarsOf_8 : decode cX9_countedBarsOf 8 = .ok (.iload_n 1, 1) := by decide +kernel
theorem dX9_countedBarsOf_9 : decode cX9_countedBarsOf 9 = .ok (.invokevirtual 163, 3) := by decide +kernel
theorem dX9_countedBarsOf_12 : decode cX9_countedBarsOf 12 = .ok (.aload_n 0, 1) := by decide +kernel
theorem dX9_countedBarsOf_13 : decode cX9_countedBarsOf 13 = .ok (.getfield 22, 3) := by decide +kernel
theorem dX9_countedBarsOf_16 : decode cX9_countedBarsOf 16 = .ok (.iload_n 1, 1) := by decide +kernel
theorem dX9_countedBarsOf_17 : decode cX9_countedBarsOf 17 = .ok (.invokevirtual 230, 3) := by decide +kernel
theorem dX9_countedBarsOf_20 : decode cX9_countedBarsOf 20 = .ok (.invokevirtual 233, 3) := by decide +kernel
theorem dX9_countedBarsOf_23 : decode cX9_countedBarsOf 23 = .ok (.ireturn, 1) := by decide +kernel
theorem dX9_shownStep_0 : decode cX9_shownStep 0 = .ok (.aload_n 0, 1) := by decide +kernel
theorem dX9_shownStep_1 : decode cX9_shownStep 1 = .ok (.getfield 54, 3) := by decide +kernel
theorem dX9_shownStep_4 : decode cX9_shownStep 4 = .ok (.aload_n 0, 1) := by decide +kernel
theorem dX9_shownStep_5 : decode cX9_shownStep 5 = .ok (.getfield 22, 3) := by decide +kernel
theorem dX9_shownStep_8 : decode cX9_shownStep 8 = .ok (.iload_n 1, 1) := by decide +kernel
theorem dX9_shownStep_9 : decode cX9_shownStep 9 = .ok (.invokevirtual 163, 3) := by decide +kernel
theorem dX9_shownStep_12 : decode cX9_shownStep 12 = .ok (.aload_n 0, 1) := by decide +kernel
theorem dX9_shownStep_13 : decode cX9_shownStep 13 = .ok (.getfield 54, 3) := by decide +kernel
theorem dX9_shownStep_16 : decode cX9_shownStep 16 = .ok (.getfield 150, 3) := by decide +kernel
theorem dX9_shownStep_19 : decode cX9_shownStep 19 = .ok (.invokevirtual 233, 3) := by decide +kernel
theorem dX9_shownStep_22 : decode cX9_shownStep 22 = .ok (.istore_n 2, 1) := by decide +kernel
theorem dX9_shownStep_23 : decode cX9_shownStep 23 = .ok (.aload_n 0, 1) := by decide +kernel
theorem dX9_shownStep_24 : decode cX9_shownStep 24 = .ok (.getfield 45, 3) := by decide +kernel
theorem dX9_shownStep_27 : decode cX9_shownStep 27 = .ok (.iload_n 1, 1) := by decide +kernel
theorem dX9_shownStep_28 : decode cX9_shownStep 28 = .ok (.iload_n 2, 1) := by decide +kernel
theorem dX9_shownStep_29 : decode cX9_shownStep 29 = .ok (.aload_n 0, 1) := by decide +kernel
theorem dX9_shownStep_30 : decode cX9_shownStep 30 = .ok (.iload_n 1, 1) := by decide +kernel
theorem dX9_shownStep_31 : decode cX9_shownStep 31 = .ok (.invokevirtual 169, 3) := by decide +kernel
theorem dX9_shownStep_34 : decode cX9_shownStep 34 = .ok (.invokevirtual 236, 3) := by decide +kernel
theorem dX9_shownStep_37 : decode cX9_shownStep 37 = .ok (.ireturn, 1) := by decide +kernel
theorem dX9_shownPage_0 : decode cX9_shownPage 0 = .ok (.aload_n 0, 1) := by decide +kernel
theorem dX9_shownPage_1 : decode cX9_shownPage 1 = .ok (.getfield 22, 3) := by decide +kernel
theorem dX9_shownPage_4 : decode cX9_shownPage 4 = .ok (.iload_n 2, 1) := by decide +kernel
theorem dX9_shownPage_5 : decode cX9_shownPage 5 = .ok (.invokevirtual 112, 3) := by decide +kernel
theorem dX9_shownPage_8 : decode cX9_shownPage 8 = .ok (.ifCond .eq 16, 3) := by decide +kernel
theorem dX9_shownPage_11 : decode cX9_shownPage 11 = .ok (.aload_n 0, 1) := by decide +kernel
theorem dX9_shownPage_12 : decode cX9_shownPage 12 = .ok (.getfield 45, 3) := by decide +kernel
theorem dX9_shownPage_15 : decode cX9_shownPage 15 = .ok (.iload_n 1, 1) := by decide +kernel
theorem dX9_shownPage_16 : decode cX9_shownPage 16 = .ok (.iload_n 2, 1) := by decide +kernel
theorem dX9_shownPage_17 : decode cX9_shownPage 17 = .ok (.iload_n 3, 1) := by decide +kernel
theorem dX9_shownPage_18 : decode cX9_shownPage 18 = .ok (.invokevirtual 239, 3) := by decide +kernel
theorem dX9_shownPage_21 : decode cX9_shownPage 21 = .ok (.goto 4, 3) := by decide +kernel
theorem dX9_shownPage_24 : decode cX9_shownPage 24 = .ok (.iconst (-1), 1) := by decide +kernel
theorem dX9_shownPage_25 : decode cX9_shownPage 25 = .ok (.ireturn, 1) := by decide +kernel
theorem dX9_share_0 : decode cX9_share 0 = .ok (.iload_n 2, 1) := by decide +kernel
theorem dX9_share_1 : decode cX9_share 1 = .ok (.iconst 1, 1) := by decide +kernel
theorem dX9_share_2 : decode cX9_share 2 = .ok (.if_icmp .ge 7, 3) := by decide +kernel
theorem dX9_share_5 : decode cX9_share 5 = .ok (.iconst 0, 1) := by decide +kernel
theorem dX9_share_6 : decode cX9_share 6 = .ok (.goto 8, 3) := by decide +kernel
theorem dX9_share_9 : decode cX9_share 9 = .ok (.iload_n 0, 1) := by decide +kernel
theorem dX9_share_10 : decode cX9_share 10 = .ok (.iload_n 1, 1) := by decide +kernel
theorem dX9_share_11 : decode cX9_share 11 = .ok (.imul, 1) := by decide +kernel
theorem dX9_share_12 : decode cX9_share 12 = .ok (.iload_n 2, 1) := by decide +kernel
theorem dX9_share_13 : decode cX9_share 13 = .ok (.idiv, 1) := by decide +kernel
theorem dX9_share_14 : decode cX9_share 14 = .ok (.ireturn, 1) := by decide +kernel
theorem dX10_init_0 : decode cX10_init 0 = .ok (.aload_n 0, 1) := by decide +kernel
theorem dX10_init_1 : decode cX10_init 1 = .ok (.invokespecial 1, 3) := by decide +kernel
theorem dX10_init_4 : decode cX10_init 4 = .ok (.aload_n 0, 1) := by decide +kernel
theorem dX10_init_5 : decode cX10_init 5 = .ok (.sipush 1500, 3) := by decide +kernel
theorem dX10_init_8 : decode cX10_init 8 = .ok (.newarray .int, 2) := by decide +kernel
theorem dX10_init_10 : decode cX10_init 10 = .ok (.putfield 7, 3) := by decide +kernel
theorem dX10_init_13 : decode cX10_init 13 = .ok (.aload_n 0, 1) := by decide +kernel
theorem dX10_init_14 : decode cX10_init 14 = .ok (.iconst 1, 1) := by decide +kernel
theorem dX10_init_15 : decode cX10_init 15 = .ok (.putfield 13, 3) := by decide +kernel
theorem dX10_init_18 : decode cX10_init 18 = .ok (.aload_n 0, 1) := by decide +kernel
theorem dX10_init_19 : decode cX10_init 19 = .ok (.iconst 4, 1) := by decide +kernel
theorem dX10_init_20 : decode cX10_init 20 = .ok (.newarray .int, 2) := by decide +kernel
theorem dX10_init_22 : decode cX10_init 22 = .ok (.dup, 1) := by decide +kernel
theorem dX10_init_23 : decode cX10_init 23 = .ok (.iconst 0, 1) := by decide +kernel
theorem dX10_init_24 : decode cX10_init 24 = .ok (.bipush 20, 2) := by decide +kernel
theorem dX10_init_26 : decode cX10_init 26 = .ok (.iastore, 1) := by decide +kernel
theorem dX10_init_27 : decode cX10_init 27 = .ok (.dup, 1) := by decide +kernel
theorem dX10_init_28 : decode cX10_init 28 = .ok (.iconst 1, 1) := by decide +kernel
theorem dX10_init_29 : decode cX10_init 29 = .ok (.bipush 20, 2) := by decide +kernel
theorem dX10_init_31 : decode cX10_init 31 = .ok (.iastore, 1) := by decide +kernel
theorem dX10_init_32 : decode cX10_init 32 = .ok (.dup, 1) := by decide +kernel
theorem dX10_init_33 : decode cX10_init 33 = .ok (.iconst 2, 1) := by decide +kernel
theorem dX10_init_34 : decode cX10_init 34 = .ok (.bipush 20, 2) := by decide +kernel
theorem dX10_init_36 : decode cX10_init 36 = .ok (.iastore, 1) := by decide +kernel
theorem dX10_init_37 : decode cX10_init 37 = .ok (.dup, 1) := by decide +kernel
theorem dX10_init_38 : decode cX10_init 38 = .ok (.iconst 3, 1) := by decide +kernel
theorem dX10_init_39 : decode cX10_init 39 = .ok (.bipush 20, 2) := by decide +kernel
theorem dX10_init_41 : decode cX10_init 41 = .ok (.iastore, 1) := by decide +kernel
theorem dX10_init_42 : decode cX10_init 42 = .ok (.putfield 17, 3) := by decide +kernel
theorem dX10_init_45 : decode cX10_init 45 = .ok (.aload_n 0, 1) := by decide +kernel
theorem dX10_init_46 : decode cX10_init 46 = .ok (.iconst 4, 1) := by decide +kernel
theorem dX10_init_47 : decode cX10_init 47 = .ok (.newarray .int, 2) := by decide +kernel
theorem dX10_init_49 : decode cX10_init 49 = .ok (.dup, 1) := by decide +kernel
theorem dX10_init_50 : decode cX10_init 50 = .ok (.iconst 0, 1) := by decide +kernel
theorem dX10_init_51 : decode cX10_init 51 = .ok (.iconst 4, 1) := by decide +kernel
theorem dX10_init_52 : decode cX10_init 52 = .ok (.iastore, 1) := by decide +kernel
theorem dX10_init_53 : decode cX10_init 53 = .ok (.dup, 1) := by decide +kernel
theorem dX10_init_54 : decode cX10_init 54 = .ok (.iconst 1, 1) := by decide +kernel
theorem dX10_init_55 : decode cX10_init 55 = .ok (.iconst 4, 1) := by decide +kernel
theorem dX10_init_56 : decode cX10_init 56 = .ok (.iastore, 1) := by decide +kernel
theorem dX10_init_57 : decode cX10_init 57 = .ok (.dup, 1) := by decide +kernel
theorem dX10_init_58 : decode cX10_init 58 = .ok (.iconst 2, 1) := by decide +kernel
theorem dX10_init_59 : decode cX10_init 59 = .ok (.iconst 4, 1) := by decide +kernel
theorem dX10_init_60 : decode cX10_init 60 = .ok (.iastore, 1) := by decide +kernel
theorem dX10_init_61 : decode cX10_init 61 = .ok (.dup, 1) := by decide +kernel
theorem dX10_init_62 : decode cX10_init 62 = .ok (.iconst 3, 1) := by decide +kernel
theorem dX10_init_63 : decode cX10_init 63 = .ok (.iconst 4, 1) := by decide +kernel
theorem dX10_init_64 : decode cX10_init 64 = .ok (.iastore, 1) := by decide +kernel
theorem dX10_init_65 : decode cX10_init 65 = .ok (.putfield 20, 3) := by decide +kernel
theorem dX10_init_68 : decode cX10_init 68 = .ok (.aload_n 0, 1) := by decide +kernel
theorem dX10_init_69 : decode cX10_init 69 = .ok (.iconst 4, 1) := by decide +kernel
theorem dX10_init_70 : decode cX10_init 70 = .ok (.putfield 23, 3) := by decide +kernel
theorem dX10_init_73 : decode cX10_init 73 = .ok (.aload_n 0, 1) := by decide +kernel
theorem dX10_init_74 : decode cX10_init 74 = .ok (.bipush 40, 2) := by decide +kernel
theorem dX10_init_76 : decode cX10_init 76 = .ok (.newarray .int, 2) := by decide +kernel
theorem dX10_init_78 : decode cX10_init 78 = .ok (.putfield 26, 3) := by decide +kernel
theorem dX10_init_81 : decode cX10_init 81 = .ok (.aload_n 0, 1) := by decide +kernel
theorem dX10_init_82 : decode cX10_init 82 = .ok (.bipush 40, 2) := by decide +kernel
theorem dX10_init_84 : decode cX10_init 84 = .ok (.newarray .int, 2) := by decide +kernel
theorem dX10_init_86 : decode cX10_init 86 = .ok (.putfield 29, 3) := by decide +kernel
theorem dX10_init_89 : decode cX10_init 89 = .ok (.aload_n 0, 1) := by decide +kernel
theorem dX10_init_90 : decode cX10_init 90 = .ok (.bipush 40, 2) := by decide +kernel
theorem dX10_init_92 : decode cX10_init 92 = .ok (.newarray .int, 2) := by decide +kernel
theorem dX10_init_94 : decode cX10_init 94 = .ok (.putfield 32, 3) := by decide +kernel
theorem dX10_init_97 : decode cX10_init 97 = .ok (.aload_n 0, 1) := by decide +kernel
theorem dX10_init_98 : decode cX10_init 98 = .ok (.bipush 8, 2) := by decide +kernel
theorem dX10_init_100 : decode cX10_init 100 = .ok (.newarray .int, 2) := by decide +kernel
theorem dX10_init_102 : decode cX10_init 102 = .ok (.putfield 35, 3) := by decide +kernel
theorem dX10_init_105 : decode cX10_init 105 = .ok (.aload_n 0, 1) := by decide +kernel
theorem dX10_init_106 : decode cX10_init 106 = .ok (.bipush 8, 2) := by decide +kernel
theorem dX10_init_108 : decode cX10_init 108 = .ok (.newarray .int, 2) := by decide +kernel
theorem dX10_init_110 : decode cX10_init 110 = .ok (.putfield 38, 3) := by decide +kernel
theorem dX10_init_113 : decode cX10_init 113 = .ok (.aload_n 0, 1) := by decide +kernel
theorem dX10_init_114 : decode cX10_init 114 = .ok (.ldc 41, 2) := by decide +kernel
theorem dX10_init_116 : decode cX10_init 116 = .ok (.newarray .int, 2) := by decide +kernel
theorem dX10_init_118 : decode cX10_init 118 = .ok (.putfield 42, 3) := by decide +kernel
theorem dX10_init_121 : decode cX10_init 121 = .ok (.aload_n 0, 1) := by decide +kernel
theorem dX10_init_122 : decode cX10_init 122 = .ok (.sipush 160, 3) := by decide +kernel
theorem dX10_init_125 : decode cX10_init 125 = .ok (.newarray .int, 2) := by decide +kernel
theorem dX10_init_127 : decode cX10_init 127 = .ok (.putfield 45, 3) := by decide +kernel
theorem dX10_init_130 : decode cX10_init 130 = .ok (.aload_n 0, 1) := by decide +kernel
theorem dX10_init_131 : decode cX10_init 131 = .ok (.sipush 160, 3) := by decide +kernel
theorem dX10_init_134 : decode cX10_init 134 = .ok (.newarray .boolean, 2) := by decide +kernel
theorem dX10_init_136 : decode cX10_init 136 = .ok (.putfield 48, 3) := by decide +kernel
theorem dX10_init_139 : decode cX10_init 139 = .ok (.aload_n 0, 1) := by decide +kernel
theorem dX10_init_140 : decode cX10_init 140 = .ok (.bipush 8, 2) := by decide +kernel
theorem dX10_init_142 : decode cX10_init 142 = .ok (.newarray .boolean, 2) := by decide +kernel
theorem dX10_init_144 : decode cX10_init 144 = .ok (.putfield 52, 3) := by decide +kernel
theorem dX10_init_147 : decode cX10_init 147 = .ok (.aload_n 0, 1) := by decide +kernel
theorem dX10_init_148 : decode cX10_init 148 = .ok (.sipush 160, 3) := by decide +kernel
theorem dX10_init_151 : decode cX10_init 151 = .ok (.newarray .boolean, 2) := by decide +kernel
theorem dX10_init_153 : decode cX10_init 153 = .ok (.putfield 55, 3) := by decide +kernel
theorem dX10_init_156 : decode cX10_init 156 = .ok (.aload_n 0, 1) := by decide +kernel
theorem dX10_init_157 : decode cX10_init 157 = .ok (.ldc 41, 2) := by decide +kernel
theorem dX10_init_159 : decode cX10_init 159 = .ok (.newarray .int, 2) := by decide +kernel
theorem dX10_init_161 : decode cX10_init 161 = .ok (.putfield 58, 3) := by decide +kernel
theorem dX10_init_164 : decode cX10_init 164 = .ok (.aload_n 0, 1) := by decide +kernel
theorem dX10_init_165 : decode cX10_init 165 = .ok (.sipush 160, 3) := by decide +kernel
theorem dX10_init_168 : decode cX10_init 168 = .ok (.newarray .int, 2) := by decide +kernel
theorem dX10_init_170 : decode cX10_init 170 = .ok (.putfield 61, 3) := by decide +kernel
theorem dX10_init_173 : decode cX10_init 173 = .ok (.aload_n 0, 1) := by decide +kernel
theorem dX10_init_174 : decode cX10_init 174 = .ok (.iconst 1, 1) := by decide +kernel
theorem dX10_init_175 : decode cX10_init 175 = .ok (.putfield 64, 3) := by decide +kernel
theorem dX10_init_178 : decode cX10_init 178 = .ok (.aload_n 0, 1) := by decide +kernel
theorem dX10_init_179 : decode cX10_init 179 = .ok (.sipush 1500, 3) := by decide +kernel
theorem dX10_init_182 : decode cX10_init 182 = .ok (.newarray .int, 2) := by decide +kernel
theorem dX10_init_184 : decode cX10_init 184 = .ok (.putfield 68, 3) := by decide +kernel
theorem dX10_init_187 : decode cX10_init 187 = .ok (.aload_n 0, 1) := by decide +kernel
theorem dX10_init_188 : decode cX10_init 188 = .ok (.sipush 760, 3) := by decide +kernel
theorem dX10_init_191 : decode cX10_init 191 = .ok (.newarray .int, 2) := by decide +kernel
theorem dX10_init_193 : decode cX10_init 193 = .ok (.putfield 71, 3) := by decide +kernel
theorem dX10_init_196 : decode cX10_init 196 = .ok (.aload_n 0, 1) := by decide +kernel
theorem dX10_init_197 : decode cX10_init 197 = .ok (.sipush 760, 3) := by decide +kernel
theorem dX10_init_200 : decode cX10_init 200 = .ok (.newarray .int, 2) := by decide +kernel
theorem dX10_init_202 : decode cX10_init 202 = .ok (.putfield 74, 3) := by decide +kernel
theorem dX10_init_205 : decode cX10_init 205 = .ok (.aload_n 0, 1) := by decide +kernel
theorem dX10_init_206 : decode cX10_init 206 = .ok (.sipush 1778, 3) := by decide +kernel
theorem dX10_init_209 : decode cX10_init 209 = .ok (.newarray .int, 2) := by decide +kernel
theorem dX10_init_211 : decode cX10_init 211 = .ok (.putfield 77, 3) := by decide +kernel
theorem dX10_init_214 : decode cX10_init 214 = .ok (.aload_n 0, 1) := by decide +kernel
theorem dX10_init_215 : decode cX10_init 215 = .ok (.bipush 12, 2) := by decide +kernel
theorem dX10_init_217 : decode cX10_init 217 = .ok (.newarray .int, 2) := by decide +kernel
theorem dX10_init_219 : decode cX10_init 219 = .ok (.putfield 80, 3) := by decide +kernel
theorem dX10_init_222 : decode cX10_init 222 = .ok (.aload_n 0, 1) := by decide +kernel
theorem dX10_init_223 : decode cX10_init 223 = .ok (.iconst (-1), 1) := by decide +kernel
theorem dX10_init_224 : decode cX10_init 224 = .ok (.putfield 83, 3) := by decide +kernel
theorem dX10_init_227 : decode cX10_init 227 = .ok (.aload_n 0, 1) := by decide +kernel
theorem dX10_init_228 : decode cX10_init 228 = .ok (.iconst 4, 1) := by decide +kernel
theorem dX10_init_229 : decode cX10_init 229 = .ok (.newarray .int, 2) := by decide +kernel
theorem dX10_init_231 : decode cX10_init 231 = .ok (.putfield 86, 3) := by decide +kernel
theorem dX10_init_234 : decode cX10_init 234 = .ok (.aload_n 0, 1) := by decide +kernel
theorem dX10_init_235 : decode cX10_init 235 = .ok (.iconst 4, 1) := by decide +kernel
theorem dX10_init_236 : decode cX10_init 236 = .ok (.newarray .int, 2) := by decide +kernel
theorem dX10_init_238 : decode cX10_init 238 = .ok (.putfield 89, 3) := by decide +kernel
theorem dX10_init_241 : decode cX10_init 241 = .ok (.aload_n 0, 1) := by decide +kernel
theorem dX10_init_242 : decode cX10_init 242 = .ok (.bipush 40, 2) := by decide +kernel
theorem dX10_init_244 : decode cX10_init 244 = .ok (.newarray .int, 2) := by decide +kernel
theorem dX10_init_246 : decode cX10_init 246 = .ok (.putfield 92, 3) := by decide +kernel
theorem dX10_init_249 : decode cX10_init 249 = .ok (.aload_n 0, 1) := by decide +kernel
theorem dX10_init_250 : decode cX10_init 250 = .ok (.bipush 40, 2) := by decide +kernel
theorem dX10_init_252 : decode cX10_init 252 = .ok (.newarray .int, 2) := by decide +kernel
theorem dX10_init_254 : decode cX10_init 254 = .ok (.putfield 95, 3) := by decide +kernel
theorem dX10_init_257 : decode cX10_init 257 = .ok (.aload_n 0, 1) := by decide +kernel
theorem dX10_init_258 : decode cX10_init 258 = .ok (.bipush 8, 2) := by decide +kernel
theorem dX10_init_260 : decode cX10_init 260 = .ok (.newarray .int, 2) := by decide +kernel
theorem dX10_init_262 : decode cX10_init 262 = .ok (.putfield 98, 3) := by decide +kernel
theorem dX10_init_265 : decode cX10_init 265 = .ok (.aload_n 0, 1) := by decide +kernel
theorem dX10_init_266 : decode cX10_init 266 = .ok (.bipush 8, 2) := by decide +kernel
theorem dX10_init_268 : decode cX10_init 268 = .ok (.newarray .int, 2) := by decide +kernel
theorem dX10_init_270 : decode cX10_init 270 = .ok (.putfield 101, 3) := by decide +kernel
theorem dX10_init_273 : decode cX10_init 273 = .ok (.aload_n 0, 1) := by decide +kernel
theorem dX10_init_274 : decode cX10_init 274 = .ok (.sipush 160, 3) := by decide +kernel
theorem dX10_init_277 : decode cX10_init 277 = .ok (.newarray .int, 2) := by decide +kernel
theorem dX10_init_279 : decode cX10_init 279 = .ok (.putfield 104, 3) := by decide +kernel
theorem dX10_init_282 : decode cX10_init 282 = .ok (.aload_n 0, 1) := by decide +kernel
theorem dX10_init_283 : decode cX10_init 283 = .ok (.sipush 160, 3) := by decide +kernel
theorem dX10_init_286 : decode cX10_init 286 = .ok (.newarray .int, 2) := by decide +kernel
theorem dX10_init_288 : decode cX10_init 288 = .ok (.putfield 107, 3) := by decide +kernel
theorem dX10_init_291 : decode cX10_init 291 = .ok (.aload_n 0, 1) := by decide +kernel
theorem dX10_init_292 : decode cX10_init 292 = .ok (.bipush 39, 2) := by decide +kernel
theorem dX10_init_294 : decode cX10_init 294 = .ok (.newarray .int, 2) := by decide +kernel
theorem dX10_init_296 : decode cX10_init 296 = .ok (.dup, 1) := by decide +kernel
theorem dX10_init_297 : decode cX10_init 297 = .ok (.iconst 0, 1) := by decide +kernel
theorem dX10_init_298 : decode cX10_init 298 = .ok (.bipush 116, 2) := by decide +kernel
theorem dX10_init_300 : decode cX10_init 300 = .ok (.iastore, 1) := by decide +kernel
theorem dX10_init_301 : decode cX10_init 301 = .ok (.dup, 1) := by decide +kernel
theorem dX10_init_302 : decode cX10_init 302 = .ok (.iconst 1, 1) := by decide +kernel
theorem dX10_init_303 : decode cX10_init 303 = .ok (.bipush 111, 2) := by decide +kernel
theorem dX10_init_305 : decode cX10_init 305 = .ok (.iastore, 1) := by decide +kernel
theorem dX10_init_306 : decode cX10_init 306 = .ok (.dup, 1) := by decide +kernel
theorem dX10_init_307 : decode cX10_init 307 = .ok (.iconst 2, 1) := by decide +kernel
theorem dX10_init_308 : decode cX10_init 308 = .ok (.bipush 110, 2) := by decide +kernel
theorem dX10_init_310 : decode cX10_init 310 = .ok (.iastore, 1) := by decide +kernel
theorem dX10_init_311 : decode cX10_init 311 = .ok (.dup, 1) := by decide +kernel
theorem dX10_init_312 : decode cX10_init 312 = .ok (.iconst 3, 1) := by decide +kernel
theorem dX10_init_313 : decode cX10_init 313 = .ok (.bipush 103, 2) := by decide +kernel
theorem dX10_init_315 : decode cX10_init 315 = .ok (.iastore, 1) := by decide +kernel
theorem dX10_init_316 : decode cX10_init 316 = .ok (.dup, 1) := by decide +kernel
theorem dX10_init_317 : decode cX10_init 317 = .ok (.iconst 4, 1) := by decide +kernel
theorem dX10_init_318 : decode cX10_init 318 = .ok (.bipush 117, 2) := by decide +kernel
theorem dX10_init_320 : decode cX10_init 320 = .ok (.iastore, 1) := by decide +kernel
theorem dX10_init_321 : decode cX10_init 321 = .ok (.dup, 1) := by decide +kernel
theorem dX10_init_322 : decode cX10_init 322 = .ok (.iconst 5, 1) := by decide +kernel
theorem dX10_init_323 : decode cX10_init 323 = .ok (.bipush 101, 2) := by decide +kernel
theorem dX10_init_325 : decode cX10_init 325 = .ok (.iastore, 1) := by decide +kernel
theorem dX10_init_326 : decode cX10_init 326 = .ok (.dup, 1) := by decide +kernel
theorem dX10_init_327 : decode cX10_init 327 = .ok (.bipush 6, 2) := by decide +kernel
theorem dX10_init_329 : decode cX10_init 329 = .ok (.bipush 115, 2) := by decide +kernel
theorem dX10_init_331 : decode cX10_init 331 = .ok (.iastore, 1) := by decide +kernel
theorem dX10_init_332 : decode cX10_init 332 = .ok (.dup, 1) := by decide +kernel
theorem dX10_init_333 : decode cX10_init 333 = .ok (.bipush 7, 2) := by decide +kernel
theorem dX10_init_335 : decode cX10_init 335 = .ok (.bipush 32, 2) := by decide +kernel
theorem dX10_init_337 : decode cX10_init 337 = .ok (.iastore, 1) := by decide +kernel
theorem dX10_init_338 : decode cX10_init 338 = .ok (.dup, 1) := by decide +kernel
theorem dX10_init_339 : decode cX10_init 339 = .ok (.bipush 8, 2) := by decide +kernel
theorem dX10_init_341 : decode cX10_init 341 = .ok (.bipush 119, 2) := by decide +kernel
theorem dX10_init_343 : decode cX10_init 343 = .ok (.iastore, 1) := by decide +kernel
theorem dX10_init_344 : decode cX10_init 344 = .ok (.dup, 1) := by decide +kernel
theorem dX10_init_345 : decode cX10_init 345 = .ok (.bipush 9, 2) := by decide +kernel
theorem dX10_init_347 : decode cX10_init 347 = .ok (.bipush 105, 2) := by decide +kernel
theorem dX10_init_349 : decode cX10_init 349 = .ok (.iastore, 1) := by decide +kernel
theorem dX10_init_350 : decode cX10_init 350 = .ok (.dup, 1) := by decide +kernel
theorem dX10_init_351 : decode cX10_init 351 = .ok (.bipush 10, 2) := by decide +kernel
theorem dX10_init_353 : decode cX10_init 353 = .ok (.bipush 100, 2) := by decide +kernel
theorem dX10_init_355 : decode cX10_init 355 = .ok (.iastore, 1) := by decide +kernel
theorem dX10_init_356 : decode cX10_init 356 = .ok (.dup, 1) := by decide +kernel
theorem dX10_init_357 : decode cX10_init 357 = .ok (.bipush 11, 2) := by decide +kernel
theorem dX10_init_359 : decode cX10_init 359 = .ok (.bipush 116, 2) := by decide +kernel
theorem dX10_init_361 : decode cX10_init 361 = .ok (.iastore, 1) := by decide +kernel
theorem dX10_init_362 : decode cX10_init 362 = .ok (.dup, 1) := by decide +kernel
theorem dX10_init_363 : decode cX10_init 363 = .ok (.bipush 12, 2) := by decide +kernel
theorem dX10_init_365 : decode cX10_init 365 = .ok (.bipush 104, 2) := by decide +kernel
theorem dX10_init_367 : decode cX10_init 367 = .ok (.iastore, 1) := by decide +kernel
theorem dX10_init_368 : decode cX10_init 368 = .ok (.dup, 1) := by decide +kernel
theorem dX10_init_369 : decode cX10_init 369 = .ok (.bipush 13, 2) := by decide +kernel
theorem dX10_init_371 : decode cX10_init 371 = .ok (.bipush 32, 2) := by decide +kernel
theorem dX10_init_373 : decode cX10_init 373 = .ok (.iastore, 1) := by decide +kernel
theorem dX10_init_374 : decode cX10_init 374 = .ok (.dup, 1) := by decide +kernel
theorem dX10_init_375 : decode cX10_init 375 = .ok (.bipush 14, 2) := by decide +kernel
theorem dX10_init_377 : decode cX10_init 377 = .ok (.bipush 115, 2) := by decide +kernel
theorem dX10_init_379 : decode cX10_init 379 = .ok (.iastore, 1) := by decide +kernel
theorem dX10_init_380 : decode cX10_init 380 = .ok (.dup, 1) := by decide +kernel
theorem dX10_init_381 : decode cX10_init 381 = .ok (.bipush 15, 2) := by decide +kernel
theorem dX10_init_383 : decode cX10_init 383 = .ok (.bipush 112, 2) := by decide +kernel
theorem dX10_init_385 : decode cX10_init 385 = .ok (.iastore, 1) := by decide +kernel
theorem dX10_init_386 : decode cX10_init 386 = .ok (.dup, 1) := by decide +kernel
theorem dX10_init_387 : decode cX10_init 387 = .ok (.bipush 16, 2) := by decide +kernel
theorem dX10_init_389 : decode cX10_init 389 = .ok (.bipush 101, 2) := by decide +kernel
theorem dX10_init_391 : decode cX10_init 391 = .ok (.iastore, 1) := by decide +kernel
theorem dX10_init_392 : decode cX10_init 392 = .ok (.dup, 1) := by decide +kernel
theorem dX10_init_393 : decode cX10_init 393 = .ok (.bipush 17, 2) := by decide +kernel
theorem dX10_init_395 : decode cX10_init 395 = .ok (.bipush 101, 2) := by decide +kernel
theorem dX10_init_397 : decode cX10_init 397 = .ok (.iastore, 1) := by decide +kernel
theorem dX10_init_398 : decode cX10_init 398 = .ok (.dup, 1) := by decide +kernel
theorem dX10_init_399 : decode cX10_init 399 = .ok (.bipush 18, 2) := by decide +kernel
theorem dX10_init_401 : decode cX10_init 401 = .ok (.bipush 100, 2) := by decide +kernel
theorem dX10_init_403 : decode cX10_init 403 = .ok (.iastore, 1) := by decide +kernel
theorem dX10_init_404 : decode cX10_init 404 = .ok (.dup, 1) := by decide +kernel
theorem dX10_init_405 : decode cX10_init 405 = .ok (.bipush 19, 2) := by decide +kernel
theorem dX10_init_407 : decode cX10_init 407 = .ok (.bipush 32, 2) := by decide +kernel
theorem dX10_init_409 : decode cX10_init 409 = .ok (.iastore, 1) := by decide +kernel
theorem dX10_init_410 : decode cX10_init 410 = .ok (.dup, 1) := by decide +kernel
theorem dX10_init_411 : decode cX10_init 411 = .ok (.bipush 20, 2) := by decide +kernel
theorem dX10_init_413 : decode cX10_init 413 = .ok (.bipush 98, 2) := by decide +kernel
theorem dX10_init_415 : decode cX10_init 415 = .ok (.iastore, 1) := by decide +kernel
theorem dX10_init_416 : decode cX10_init 416 = .ok (.dup, 1) := by decide +kernel
theorem dX10_init_417 : decode cX10_init 417 = .ok (.bipush 21, 2) := by decide +kernel
theorem dX10_init_419 : decode cX10_init 419 = .ok (.bipush 101, 2) := by decide +kernel
theorem dX10_init_421 : decode cX10_init 421 = .ok (.iastore, 1) := by decide +kernel
theorem dX10_init_422 : decode cX10_init 422 = .ok (.dup, 1) := by decide +kernel
theorem dX10_init_423 : decode cX10_init 423 = .ok (.bipush 22, 2) := by decide +kernel
theorem dX10_init_425 : decode cX10_init 425 = .ok (.bipush 97, 2) := by decide +kernel
theorem dX10_init_427 : decode cX10_init 427 = .ok (.iastore, 1) := by decide +kernel
theorem dX10_init_428 : decode cX10_init 428 = .ok (.dup, 1) := by decide +kernel
theorem dX10_init_429 : decode cX10_init 429 = .ok (.bipush 23, 2) := by decide +kernel
theorem dX10_init_431 : decode cX10_init 431 = .ok (.bipush 116, 2) := by decide +kernel
theorem dX10_init_433 : decode cX10_init 433 = .ok (.iastore, 1) := by decide +kernel
theorem dX10_init_434 : decode cX10_init 434 = .ok (.dup, 1) := by decide +kernel
theorem dX10_init_435 : decode cX10_init 435 = .ok (.bipush 24, 2) := by decide +kernel
theorem dX10_init_437 : decode cX10_init 437 = .ok (.bipush 115, 2) := by decide +kernel
theorem dX10_init_439 : decode cX10_init 439 = .ok (.iastore, 1) := by decide +kernel
theorem dX10_init_440 : decode cX10_init 440 = .ok (.dup, 1) := by decide +kernel
theorem dX10_init_441 : decode cX10_init 441 = .ok (.bipush 25, 2) := by decide +kernel
theorem dX10_init_443 : decode cX10_init 443 = .ok (.bipush 32, 2) := by decide +kernel
theorem dX10_init_445 : decode cX10_init 445 = .ok (.iastore, 1) := by decide +kernel
theorem dX10_init_446 : decode cX10_init 446 = .ok (.dup, 1) := by decide +kernel
theorem dX10_init_447 : decode cX10_init 447 = .ok (.bipush 26, 2) := by decide +kernel
theorem dX10_init_449 : decode cX10_init 449 = .ok (.bipush 97, 2) := by decide +kernel
theorem dX10_init_451 : decode cX10_init 451 = .ok (.iastore, 1) := by decide +kernel
theorem dX10_init_452 : decode cX10_init 452 = .ok (.dup, 1) := by decide +kernel
theorem dX10_init_453 : decode cX10_init 453 = .ok (.bipush 27, 2) := by decide +kernel
theorem dX10_init_455 : decode cX10_init 455 = .ok (.bipush 116, 2) := by decide +kernel
theorem dX10_init_457 : decode cX10_init 457 = .ok (.iastore, 1) := by decide +kernel
theorem dX10_init_458 : decode cX10_init 458 = .ok (.dup, 1) := by decide +kernel
theorem dX10_init_459 : decode cX10_init 459 = .ok (.bipush 28, 2) := by decide +kernel
theorem dX10_init_461 : decode cX10_init 461 = .ok (.bipush 32, 2) := by decide +kernel
theorem dX10_init_463 : decode cX10_init 463 = .ok (.iastore, 1) := by decide +kernel
theorem dX10_init_464 : decode cX10_init 464 = .ok (.dup, 1) := by decide +kernel
theorem dX10_init_465 : decode cX10_init 465 = .ok (.bipush 29, 2) := by decide +kernel
theorem dX10_init_467 : decode cX10_init 467 = .ok (.bipush 98, 2) := by decide +kernel
theorem dX10_init_469 : decode cX10_init 469 = .ok (.iastore, 1) := by decide +kernel
theorem dX10_init_470 : decode cX10_init 470 = .ok (.dup, 1) := by decide +kernel
theorem dX10_init_471 : decode cX10_init 471 = .ok (.bipush 30, 2) := by decide +kernel
theorem dX10_init_473 : decode cX10_init 473 = .ok (.bipush 108, 2) := by decide +kernel
theorem dX10_init_475 : decode cX10_init 475 = .ok (.iastore, 1) := by decide +kernel
theorem dX10_init_476 : decode cX10_init 476 = .ok (.dup, 1) := by decide +kernel
theorem dX10_init_477 : decode cX10_init 477 = .ok (.bipush 31, 2) := by decide +kernel
theorem dX10_init_479 : decode cX10_init 479 = .ok (.bipush 97, 2) := by decide +kernel
theorem dX10_init_481 : decode cX10_init 481 = .ok (.iastore, 1) := by decide +kernel
theorem dX10_init_482 : decode cX10_init 482 = .ok (.dup, 1) := by decide +kernel
theorem dX10_init_483 : decode cX10_init 483 = .ok (.bipush 32, 2) := by decide +kernel
theorem dX10_init_485 : decode cX10_init 485 = .ok (.bipush 110, 2) := by decide +kernel
theorem dX10_init_487 : decode cX10_init 487 = .ok (.iastore, 1) := by decide +kernel
theorem dX10_init_488 : decode cX10_init 488 = .ok (.dup, 1) := by decide +kernel
theorem dX10_init_489 : decode cX10_init 489 = .ok (.bipush 33, 2) := by decide +kernel
theorem dX10_init_491 : decode cX10_init 491 = .ok (.bipush 107, 2) := by decide +kernel
theorem dX10_init_493 : decode cX10_init 493 = .ok (.iastore, 1) := by decide +kernel
theorem dX10_init_494 : decode cX10_init 494 = .ok (.dup, 1) := by decide +kernel
theorem dX10_init_495 : decode cX10_init 495 = .ok (.bipush 34, 2) := by decide +kernel
theorem dX10_init_497 : decode cX10_init 497 = .ok (.bipush 32, 2) := by decide +kernel
theorem dX10_init_499 : decode cX10_init 499 = .ok (.iastore, 1) := by decide +kernel
theorem dX10_init_500 : decode cX10_init 500 = .ok (.dup, 1) := by decide +kernel
theorem dX10_init_501 : decode cX10_init 501 = .ok (.bipush 35, 2) := by decide +kernel
theorem dX10_init_503 : decode cX10_init 503 = .ok (.bipush 99, 2) := by decide +kernel
theorem dX10_init_505 : decode cX10_init 505 = .ok (.iastore, 1) := by decide +kernel
theorem dX10_init_506 : decode cX10_init 506 = .ok (.dup, 1) := by decide +kernel
theorem dX10_init_507 : decode cX10_init 507 = .ok (.bipush 36, 2) := by decide +kernel
theorem dX10_init_509 : decode cX10_init 509 = .ok (.bipush 117, 2) := by decide +kernel
theorem dX10_init_511 : decode cX10_init 511 = .ok (.iastore, 1) := by decide +kernel
theorem dX10_init_512 : decode cX10_init 512 = .ok (.dup, 1) := by decide +kernel
theorem dX10_init_513 : decode cX10_init 513 = .ok (.bipush 37, 2) := by decide +kernel
theorem dX10_init_515 : decode cX10_init 515 = .ok (.bipush 116, 2) := by decide +kernel
theorem dX10_init_517 : decode cX10_init 517 = .ok (.iastore, 1) := by decide +kernel
theorem dX10_init_518 : decode cX10_init 518 = .ok (.dup, 1) := by decide +kernel
theorem dX10_init_519 : decode cX10_init 519 = .ok (.bipush 38, 2) := by decide +kernel
theorem dX10_init_521 : decode cX10_init 521 = .ok (.bipush 32, 2) := by decide +kernel
theorem dX10_init_523 : decode cX10_init 523 = .ok (.iastore, 1) := by decide +kernel
theorem dX10_init_524 : decode cX10_init 524 = .ok (.putfield 110, 3) := by decide +kernel
theorem dX10_init_527 : decode cX10_init 527 = .ok (.return_, 1) := by decide +kernel
theorem dX10_thrown_0 : decode cX10_thrown 0 = .ok (.aload_n 0, 1) := by decide +kernel
theorem dX10_thrown_1 : decode cX10_thrown 1 = .ok (.getfield 113, 3) := by decide +kernel
theorem dX10_thrown_4 : decode cX10_thrown 4 = .ok (.ireturn, 1) := by decide +kernel
theorem dX10_feed_0 : decode cX10_feed 0 = .ok (.aload_n 0, 1) := by decide +kernel
theorem dX10_feed_1 : decode cX10_feed 1 = .ok (.iconst 0, 1) := by decide +kernel
theorem dX10_feed_2 : decode cX10_feed 2 = .ok (.putfield 113, 3) := by decide +kernel
theorem dX10_feed_5 : decode cX10_feed 5 = .ok (.aload_n 0, 1) := by decide +kernel
theorem dX10_feed_6 : decode cX10_feed 6 = .ok (.getfield 116, 3) := by decide +kernel
end
section
theorem dX10_feed_9 : decode cX10_feed 9 = .ok (.bipush 20, 2) := by decide +kernel
theorem dX10_feed_11 : decode cX10_feed 11 = .ok (.iadd, 1) := by decide +kernel
theorem dX10_feed_12 : decode cX10_feed 12 = .ok (.sipush 1500, 3) := by decide +kernel
theorem dX10_feed_15 : decode cX10_feed 15 = .ok (.if_icmp .le 5, 3) := by decide +kernel
theorem dX10_feed_18 : decode cX10_feed 18 = .ok (.iconst (-1), 1) := by decide +kernel
theorem dX10_feed_19 : decode cX10_feed 19 = .ok (.ireturn, 1) := by decide +kernel
theorem dX10_feed_20 : decode cX10_feed 20 = .ok (.iconst 0, 1) := by decide +kernel
theorem dX10_feed_21 : decode cX10_feed 21 = .ok (.istore 6, 2) := by decide +kernel
theorem dX10_feed_23 : decode cX10_feed 23 = .ok (.iload 6, 2) := by decide +kernel
theorem dX10_feed_25 : decode cX10_feed 25 = .ok (.bipush 20, 2) := by decide +kernel
theorem dX10_feed_27 : decode cX10_feed 27 = .ok (.if_icmp .ge 86, 3) := by decide +kernel
theorem dX10_feed_30 : decode cX10_feed 30 = .ok (.iload 6, 2) := by decide +kernel
theorem dX10_feed_32 : decode cX10_feed 32 = .ok (.iconst 4, 1) := by decide +kernel
theorem dX10_feed_33 : decode cX10_feed 33 = .ok (.if_icmp .ge 7, 3) := by decide +kernel
theorem dX10_feed_36 : decode cX10_feed 36 = .ok (.iload_n 1, 1) := by decide +kernel
theorem dX10_feed_37 : decode cX10_feed 37 = .ok (.goto 39, 3) := by decide +kernel
theorem dX10_feed_40 : decode cX10_feed 40 = .ok (.iload 6, 2) := by decide +kernel
theorem dX10_feed_42 : decode cX10_feed 42 = .ok (.bipush 8, 2) := by decide +kernel
theorem dX10_feed_44 : decode cX10_feed 44 = .ok (.if_icmp .ge 7, 3) := by decide +kernel
theorem dX10_feed_47 : decode cX10_feed 47 = .ok (.iload_n 2, 1) := by decide +kernel
theorem dX10_feed_48 : decode cX10_feed 48 = .ok (.goto 28, 3) := by decide +kernel
theorem dX10_feed_51 : decode cX10_feed 51 = .ok (.iload 6, 2) := by decide +kernel
theorem dX10_feed_53 : decode cX10_feed 53 = .ok (.bipush 12, 2) := by decide +kernel
theorem dX10_feed_55 : decode cX10_feed 55 = .ok (.if_icmp .ge 7, 3) := by decide +kernel
theorem dX10_feed_58 : decode cX10_feed 58 = .ok (.iload_n 3, 1) := by decide +kernel
theorem dX10_feed_59 : decode cX10_feed 59 = .ok (.goto 17, 3) := by decide +kernel
theorem dX10_feed_62 : decode cX10_feed 62 = .ok (.iload 6, 2) := by decide +kernel
theorem dX10_feed_64 : decode cX10_feed 64 = .ok (.bipush 16, 2) := by decide +kernel
theorem dX10_feed_66 : decode cX10_feed 66 = .ok (.if_icmp .ge 8, 3) := by decide +kernel
theorem dX10_feed_69 : decode cX10_feed 69 = .ok (.iload 4, 2) := by decide +kernel
theorem dX10_feed_71 : decode cX10_feed 71 = .ok (.goto 5, 3) := by decide +kernel
theorem dX10_feed_74 : decode cX10_feed 74 = .ok (.iload 5, 2) := by decide +kernel
theorem dX10_feed_76 : decode cX10_feed 76 = .ok (.istore 7, 2) := by decide +kernel
theorem dX10_feed_78 : decode cX10_feed 78 = .ok (.aload_n 0, 1) := by decide +kernel
theorem dX10_feed_79 : decode cX10_feed 79 = .ok (.getfield 7, 3) := by decide +kernel
theorem dX10_feed_82 : decode cX10_feed 82 = .ok (.aload_n 0, 1) := by decide +kernel
theorem dX10_feed_83 : decode cX10_feed 83 = .ok (.getfield 116, 3) := by decide +kernel
theorem dX10_feed_86 : decode cX10_feed 86 = .ok (.iload 6, 2) := by decide +kernel
theorem dX10_feed_88 : decode cX10_feed 88 = .ok (.iadd, 1) := by decide +kernel
theorem dX10_feed_89 : decode cX10_feed 89 = .ok (.iload 7, 2) := by decide +kernel
theorem dX10_feed_91 : decode cX10_feed 91 = .ok (.bipush 24, 2) := by decide +kernel
theorem dX10_feed_93 : decode cX10_feed 93 = .ok (.bipush 8, 2) := by decide +kernel
theorem dX10_feed_95 : decode cX10_feed 95 = .ok (.iload 6, 2) := by decide +kernel
theorem dX10_feed_97 : decode cX10_feed 97 = .ok (.iconst 4, 1) := by decide +kernel
theorem dX10_feed_98 : decode cX10_feed 98 = .ok (.irem, 1) := by decide +kernel
theorem dX10_feed_99 : decode cX10_feed 99 = .ok (.imul, 1) := by decide +kernel
theorem dX10_feed_100 : decode cX10_feed 100 = .ok (.isub, 1) := by decide +kernel
theorem dX10_feed_101 : decode cX10_feed 101 = .ok (.ishr, 1) := by decide +kernel
theorem dX10_feed_102 : decode cX10_feed 102 = .ok (.sipush 255, 3) := by decide +kernel
theorem dX10_feed_105 : decode cX10_feed 105 = .ok (.iand, 1) := by decide +kernel
theorem dX10_feed_106 : decode cX10_feed 106 = .ok (.iastore, 1) := by decide +kernel
theorem dX10_feed_107 : decode cX10_feed 107 = .ok (.iinc 6 1, 3) := by decide +kernel
theorem dX10_feed_110 : decode cX10_feed 110 = .ok (.goto (-87), 3) := by decide +kernel
theorem dX10_feed_113 : decode cX10_feed 113 = .ok (.aload_n 0, 1) := by decide +kernel
theorem dX10_feed_114 : decode cX10_feed 114 = .ok (.dup, 1) := by decide +kernel
theorem dX10_feed_115 : decode cX10_feed 115 = .ok (.getfield 116, 3) := by decide +kernel
theorem dX10_feed_118 : decode cX10_feed 118 = .ok (.bipush 20, 2) := by decide +kernel
theorem dX10_feed_120 : decode cX10_feed 120 = .ok (.iadd, 1) := by decide +kernel
theorem dX10_feed_121 : decode cX10_feed 121 = .ok (.putfield 116, 3) := by decide +kernel
theorem dX10_feed_124 : decode cX10_feed 124 = .ok (.aload_n 0, 1) := by decide +kernel
theorem dX10_feed_125 : decode cX10_feed 125 = .ok (.getfield 116, 3) := by decide +kernel
theorem dX10_feed_128 : decode cX10_feed 128 = .ok (.ireturn, 1) := by decide +kernel
theorem dX10_cutWords_0 : decode cX10_cutWords 0 = .ok (.aload_n 0, 1) := by decide +kernel
theorem dX10_cutWords_1 : decode cX10_cutWords 1 = .ok (.iconst 0, 1) := by decide +kernel
theorem dX10_cutWords_2 : decode cX10_cutWords 2 = .ok (.putfield 119, 3) := by decide +kernel
theorem dX10_cutWords_5 : decode cX10_cutWords 5 = .ok (.iconst 0, 1) := by decide +kernel
theorem dX10_cutWords_6 : decode cX10_cutWords 6 = .ok (.istore_n 2, 1) := by decide +kernel
theorem dX10_cutWords_7 : decode cX10_cutWords 7 = .ok (.iload_n 2, 1) := by decide +kernel
theorem dX10_cutWords_8 : decode cX10_cutWords 8 = .ok (.iload_n 1, 1) := by decide +kernel
theorem dX10_cutWords_9 : decode cX10_cutWords 9 = .ok (.if_icmp .ge 94, 3) := by decide +kernel
theorem dX10_cutWords_12 : decode cX10_cutWords 12 = .ok (.aload_n 0, 1) := by decide +kernel
theorem dX10_cutWords_13 : decode cX10_cutWords 13 = .ok (.getfield 68, 3) := by decide +kernel
theorem dX10_cutWords_16 : decode cX10_cutWords 16 = .ok (.iload_n 2, 1) := by decide +kernel
theorem dX10_cutWords_17 : decode cX10_cutWords 17 = .ok (.iaload, 1) := by decide +kernel
theorem dX10_cutWords_18 : decode cX10_cutWords 18 = .ok (.bipush 32, 2) := by decide +kernel
theorem dX10_cutWords_20 : decode cX10_cutWords 20 = .ok (.if_icmp .eq 77, 3) := by decide +kernel
theorem dX10_cutWords_23 : decode cX10_cutWords 23 = .ok (.iload_n 2, 1) := by decide +kernel
theorem dX10_cutWords_24 : decode cX10_cutWords 24 = .ok (.ifCond .le 19, 3) := by decide +kernel
theorem dX10_cutWords_27 : decode cX10_cutWords 27 = .ok (.aload_n 0, 1) := by decide +kernel
theorem dX10_cutWords_28 : decode cX10_cutWords 28 = .ok (.getfield 68, 3) := by decide +kernel
theorem dX10_cutWords_31 : decode cX10_cutWords 31 = .ok (.iload_n 2, 1) := by decide +kernel
theorem dX10_cutWords_32 : decode cX10_cutWords 32 = .ok (.iconst 1, 1) := by decide +kernel
theorem dX10_cutWords_33 : decode cX10_cutWords 33 = .ok (.isub, 1) := by decide +kernel
theorem dX10_cutWords_34 : decode cX10_cutWords 34 = .ok (.iaload, 1) := by decide +kernel
theorem dX10_cutWords_35 : decode cX10_cutWords 35 = .ok (.bipush 32, 2) := by decide +kernel
theorem dX10_cutWords_37 : decode cX10_cutWords 37 = .ok (.if_icmp .eq 6, 3) := by decide +kernel
theorem dX10_cutWords_40 : decode cX10_cutWords 40 = .ok (.goto 57, 3) := by decide +kernel
theorem dX10_cutWords_43 : decode cX10_cutWords 43 = .ok (.aload_n 0, 1) := by decide +kernel
theorem dX10_cutWords_44 : decode cX10_cutWords 44 = .ok (.getfield 71, 3) := by decide +kernel
theorem dX10_cutWords_47 : decode cX10_cutWords 47 = .ok (.aload_n 0, 1) := by decide +kernel
theorem dX10_cutWords_48 : decode cX10_cutWords 48 = .ok (.getfield 119, 3) := by decide +kernel
theorem dX10_cutWords_51 : decode cX10_cutWords 51 = .ok (.iload_n 2, 1) := by decide +kernel
theorem dX10_cutWords_52 : decode cX10_cutWords 52 = .ok (.iastore, 1) := by decide +kernel
theorem dX10_cutWords_53 : decode cX10_cutWords 53 = .ok (.iload_n 2, 1) := by decide +kernel
theorem dX10_cutWords_54 : decode cX10_cutWords 54 = .ok (.istore_n 3, 1) := by decide +kernel
theorem dX10_cutWords_55 : decode cX10_cutWords 55 = .ok (.iload_n 3, 1) := by decide +kernel
theorem dX10_cutWords_56 : decode cX10_cutWords 56 = .ok (.iload_n 1, 1) := by decide +kernel
theorem dX10_cutWords_57 : decode cX10_cutWords 57 = .ok (.if_icmp .ge 20, 3) := by decide +kernel
theorem dX10_cutWords_60 : decode cX10_cutWords 60 = .ok (.aload_n 0, 1) := by decide +kernel
theorem dX10_cutWords_61 : decode cX10_cutWords 61 = .ok (.getfield 68, 3) := by decide +kernel
theorem dX10_cutWords_64 : decode cX10_cutWords 64 = .ok (.iload_n 3, 1) := by decide +kernel
theorem dX10_cutWords_65 : decode cX10_cutWords 65 = .ok (.iaload, 1) := by decide +kernel
theorem dX10_cutWords_66 : decode cX10_cutWords 66 = .ok (.bipush 32, 2) := by decide +kernel
theorem dX10_cutWords_68 : decode cX10_cutWords 68 = .ok (.if_icmp .eq 9, 3) := by decide +kernel
theorem dX10_cutWords_71 : decode cX10_cutWords 71 = .ok (.iinc 3 1, 3) := by decide +kernel
theorem dX10_cutWords_74 : decode cX10_cutWords 74 = .ok (.goto (-19), 3) := by decide +kernel
theorem dX10_cutWords_77 : decode cX10_cutWords 77 = .ok (.aload_n 0, 1) := by decide +kernel
theorem dX10_cutWords_78 : decode cX10_cutWords 78 = .ok (.getfield 74, 3) := by decide +kernel
theorem dX10_cutWords_81 : decode cX10_cutWords 81 = .ok (.aload_n 0, 1) := by decide +kernel
theorem dX10_cutWords_82 : decode cX10_cutWords 82 = .ok (.getfield 119, 3) := by decide +kernel
theorem dX10_cutWords_85 : decode cX10_cutWords 85 = .ok (.iload_n 3, 1) := by decide +kernel
theorem dX10_cutWords_86 : decode cX10_cutWords 86 = .ok (.iastore, 1) := by decide +kernel
theorem dX10_cutWords_87 : decode cX10_cutWords 87 = .ok (.aload_n 0, 1) := by decide +kernel
theorem dX10_cutWords_88 : decode cX10_cutWords 88 = .ok (.dup, 1) := by decide +kernel
theorem dX10_cutWords_89 : decode cX10_cutWords 89 = .ok (.getfield 119, 3) := by decide +kernel
theorem dX10_cutWords_92 : decode cX10_cutWords 92 = .ok (.iconst 1, 1) := by decide +kernel
theorem dX10_cutWords_93 : decode cX10_cutWords 93 = .ok (.iadd, 1) := by decide +kernel
theorem dX10_cutWords_94 : decode cX10_cutWords 94 = .ok (.putfield 119, 3) := by decide +kernel
theorem dX10_cutWords_97 : decode cX10_cutWords 97 = .ok (.iinc 2 1, 3) := by decide +kernel
theorem dX10_cutWords_100 : decode cX10_cutWords 100 = .ok (.goto (-93), 3) := by decide +kernel
theorem dX10_cutWords_103 : decode cX10_cutWords 103 = .ok (.return_, 1) := by decide +kernel
theorem dX10_rowLength_0 : decode cX10_rowLength 0 = .ok (.aload_n 0, 1) := by decide +kernel
theorem dX10_rowLength_1 : decode cX10_rowLength 1 = .ok (.getfield 74, 3) := by decide +kernel
theorem dX10_rowLength_4 : decode cX10_rowLength 4 = .ok (.iload_n 1, 1) := by decide +kernel
theorem dX10_rowLength_5 : decode cX10_rowLength 5 = .ok (.iload_n 2, 1) := by decide +kernel
theorem dX10_rowLength_6 : decode cX10_rowLength 6 = .ok (.iadd, 1) := by decide +kernel
theorem dX10_rowLength_7 : decode cX10_rowLength 7 = .ok (.iconst 1, 1) := by decide +kernel
theorem dX10_rowLength_8 : decode cX10_rowLength 8 = .ok (.isub, 1) := by decide +kernel
theorem dX10_rowLength_9 : decode cX10_rowLength 9 = .ok (.iaload, 1) := by decide +kernel
theorem dX10_rowLength_10 : decode cX10_rowLength 10 = .ok (.aload_n 0, 1) := by decide +kernel
theorem dX10_rowLength_11 : decode cX10_rowLength 11 = .ok (.getfield 71, 3) := by decide +kernel
theorem dX10_rowLength_14 : decode cX10_rowLength 14 = .ok (.iload_n 1, 1) := by decide +kernel
theorem dX10_rowLength_15 : decode cX10_rowLength 15 = .ok (.iaload, 1) := by decide +kernel
theorem dX10_rowLength_16 : decode cX10_rowLength 16 = .ok (.isub, 1) := by decide +kernel
theorem dX10_rowLength_17 : decode cX10_rowLength 17 = .ok (.ireturn, 1) := by decide +kernel
theorem dX10_fits_0 : decode cX10_fits 0 = .ok (.iconst 0, 1) := by decide +kernel
theorem dX10_fits_1 : decode cX10_fits 1 = .ok (.istore_n 3, 1) := by decide +kernel
theorem dX10_fits_2 : decode cX10_fits 2 = .ok (.iload_n 1, 1) := by decide +kernel
theorem dX10_fits_3 : decode cX10_fits 3 = .ok (.iload_n 3, 1) := by decide +kernel
theorem dX10_fits_4 : decode cX10_fits 4 = .ok (.iadd, 1) := by decide +kernel
theorem dX10_fits_5 : decode cX10_fits 5 = .ok (.aload_n 0, 1) := by decide +kernel
theorem dX10_fits_6 : decode cX10_fits 6 = .ok (.getfield 119, 3) := by decide +kernel
theorem dX10_fits_9 : decode cX10_fits 9 = .ok (.if_icmp .ge 21, 3) := by decide +kernel
theorem dX10_fits_12 : decode cX10_fits 12 = .ok (.aload_n 0, 1) := by decide +kernel
theorem dX10_fits_13 : decode cX10_fits 13 = .ok (.iload_n 1, 1) := by decide +kernel
theorem dX10_fits_14 : decode cX10_fits 14 = .ok (.iload_n 3, 1) := by decide +kernel
theorem dX10_fits_15 : decode cX10_fits 15 = .ok (.iconst 1, 1) := by decide +kernel
theorem dX10_fits_16 : decode cX10_fits 16 = .ok (.iadd, 1) := by decide +kernel
theorem dX10_fits_17 : decode cX10_fits 17 = .ok (.invokevirtual 122, 3) := by decide +kernel
theorem dX10_fits_20 : decode cX10_fits 20 = .ok (.iload_n 2, 1) := by decide +kernel
theorem dX10_fits_21 : decode cX10_fits 21 = .ok (.if_icmp .gt 9, 3) := by decide +kernel
theorem dX10_fits_24 : decode cX10_fits 24 = .ok (.iinc 3 1, 3) := by decide +kernel
theorem dX10_fits_27 : decode cX10_fits 27 = .ok (.goto (-25), 3) := by decide +kernel
theorem dX10_fits_30 : decode cX10_fits 30 = .ok (.iload_n 3, 1) := by decide +kernel
theorem dX10_fits_31 : decode cX10_fits 31 = .ok (.ireturn, 1) := by decide +kernel
theorem dX10_lay_0 : decode cX10_lay 0 = .ok (.aload_n 0, 1) := by decide +kernel
theorem dX10_lay_1 : decode cX10_lay 1 = .ok (.iload_n 1, 1) := by decide +kernel
theorem dX10_lay_2 : decode cX10_lay 2 = .ok (.invokevirtual 126, 3) := by decide +kernel
theorem dX10_lay_5 : decode cX10_lay 5 = .ok (.iconst 0, 1) := by decide +kernel
theorem dX10_lay_6 : decode cX10_lay 6 = .ok (.istore_n 3, 1) := by decide +kernel
theorem dX10_lay_7 : decode cX10_lay 7 = .ok (.iconst 0, 1) := by decide +kernel
theorem dX10_lay_8 : decode cX10_lay 8 = .ok (.istore 4, 2) := by decide +kernel
theorem dX10_lay_10 : decode cX10_lay 10 = .ok (.iload 4, 2) := by decide +kernel
theorem dX10_lay_12 : decode cX10_lay 12 = .ok (.aload_n 0, 1) := by decide +kernel
theorem dX10_lay_13 : decode cX10_lay 13 = .ok (.getfield 119, 3) := by decide +kernel
theorem dX10_lay_16 : decode cX10_lay 16 = .ok (.if_icmp .ge 38, 3) := by decide +kernel
theorem dX10_lay_19 : decode cX10_lay 19 = .ok (.iload_n 3, 1) := by decide +kernel
theorem dX10_lay_20 : decode cX10_lay 20 = .ok (.bipush 13, 2) := by decide +kernel
theorem dX10_lay_22 : decode cX10_lay 22 = .ok (.if_icmp .ge 32, 3) := by decide +kernel
theorem dX10_lay_25 : decode cX10_lay 25 = .ok (.aload_n 0, 1) := by decide +kernel
theorem dX10_lay_26 : decode cX10_lay 26 = .ok (.iload 4, 2) := by decide +kernel
theorem dX10_lay_28 : decode cX10_lay 28 = .ok (.iload_n 2, 1) := by decide +kernel
theorem dX10_lay_29 : decode cX10_lay 29 = .ok (.invokevirtual 130, 3) := by decide +kernel
theorem dX10_lay_32 : decode cX10_lay 32 = .ok (.istore 5, 2) := by decide +kernel
theorem dX10_lay_34 : decode cX10_lay 34 = .ok (.iload 5, 2) := by decide +kernel
theorem dX10_lay_36 : decode cX10_lay 36 = .ok (.ifCond .ne 5, 3) := by decide +kernel
theorem dX10_lay_39 : decode cX10_lay 39 = .ok (.iconst 0, 1) := by decide +kernel
theorem dX10_lay_40 : decode cX10_lay 40 = .ok (.ireturn, 1) := by decide +kernel
theorem dX10_lay_41 : decode cX10_lay 41 = .ok (.iload 4, 2) := by decide +kernel
theorem dX10_lay_43 : decode cX10_lay 43 = .ok (.iload 5, 2) := by decide +kernel
theorem dX10_lay_45 : decode cX10_lay 45 = .ok (.iadd, 1) := by decide +kernel
theorem dX10_lay_46 : decode cX10_lay 46 = .ok (.istore 4, 2) := by decide +kernel
theorem dX10_lay_48 : decode cX10_lay 48 = .ok (.iinc 3 1, 3) := by decide +kernel
theorem dX10_lay_51 : decode cX10_lay 51 = .ok (.goto (-41), 3) := by decide +kernel
theorem dX10_lay_54 : decode cX10_lay 54 = .ok (.iload 4, 2) := by decide +kernel
theorem dX10_lay_56 : decode cX10_lay 56 = .ok (.istore 5, 2) := by decide +kernel
theorem dX10_lay_58 : decode cX10_lay 58 = .ok (.iload 5, 2) := by decide +kernel
theorem dX10_lay_60 : decode cX10_lay 60 = .ok (.aload_n 0, 1) := by decide +kernel
theorem dX10_lay_61 : decode cX10_lay 61 = .ok (.getfield 119, 3) := by decide +kernel
theorem dX10_lay_64 : decode cX10_lay 64 = .ok (.if_icmp .ge 22, 3) := by decide +kernel
theorem dX10_lay_67 : decode cX10_lay 67 = .ok (.aload_n 0, 1) := by decide +kernel
theorem dX10_lay_68 : decode cX10_lay 68 = .ok (.iload 5, 2) := by decide +kernel
theorem dX10_lay_70 : decode cX10_lay 70 = .ok (.iconst 1, 1) := by decide +kernel
theorem dX10_lay_71 : decode cX10_lay 71 = .ok (.invokevirtual 122, 3) := by decide +kernel
theorem dX10_lay_74 : decode cX10_lay 74 = .ok (.iload_n 2, 1) := by decide +kernel
theorem dX10_lay_75 : decode cX10_lay 75 = .ok (.if_icmp .le 5, 3) := by decide +kernel
theorem dX10_lay_78 : decode cX10_lay 78 = .ok (.iconst 0, 1) := by decide +kernel
theorem dX10_lay_79 : decode cX10_lay 79 = .ok (.ireturn, 1) := by decide +kernel
theorem dX10_lay_80 : decode cX10_lay 80 = .ok (.iinc 5 1, 3) := by decide +kernel
theorem dX10_lay_83 : decode cX10_lay 83 = .ok (.goto (-25), 3) := by decide +kernel
theorem dX10_lay_86 : decode cX10_lay 86 = .ok (.iload_n 3, 1) := by decide +kernel
theorem dX10_lay_87 : decode cX10_lay 87 = .ok (.bipush 12, 2) := by decide +kernel
theorem dX10_lay_89 : decode cX10_lay 89 = .ok (.if_icmp .le 5, 3) := by decide +kernel
theorem dX10_lay_92 : decode cX10_lay 92 = .ok (.iconst 0, 1) := by decide +kernel
theorem dX10_lay_93 : decode cX10_lay 93 = .ok (.ireturn, 1) := by decide +kernel
theorem dX10_lay_94 : decode cX10_lay 94 = .ok (.aload_n 0, 1) := by decide +kernel
theorem dX10_lay_95 : decode cX10_lay 95 = .ok (.iload_n 3, 1) := by decide +kernel
theorem dX10_lay_96 : decode cX10_lay 96 = .ok (.iconst 1, 1) := by decide +kernel
theorem dX10_lay_97 : decode cX10_lay 97 = .ok (.iadd, 1) := by decide +kernel
theorem dX10_lay_98 : decode cX10_lay 98 = .ok (.iconst 2, 1) := by decide +kernel
theorem dX10_lay_99 : decode cX10_lay 99 = .ok (.idiv, 1) := by decide +kernel
theorem dX10_lay_100 : decode cX10_lay 100 = .ok (.putfield 133, 3) := by decide +kernel
theorem dX10_lay_103 : decode cX10_lay 103 = .ok (.iconst 0, 1) := by decide +kernel
theorem dX10_lay_104 : decode cX10_lay 104 = .ok (.istore 5, 2) := by decide +kernel
theorem dX10_lay_106 : decode cX10_lay 106 = .ok (.iload 5, 2) := by decide +kernel
theorem dX10_lay_108 : decode cX10_lay 108 = .ok (.aload_n 0, 1) := by decide +kernel
theorem dX10_lay_109 : decode cX10_lay 109 = .ok (.getfield 133, 3) := by decide +kernel
theorem dX10_lay_112 : decode cX10_lay 112 = .ok (.if_icmp .gt 72, 3) := by decide +kernel
theorem dX10_lay_115 : decode cX10_lay 115 = .ok (.aload_n 0, 1) := by decide +kernel
theorem dX10_lay_116 : decode cX10_lay 116 = .ok (.getfield 119, 3) := by decide +kernel
theorem dX10_lay_119 : decode cX10_lay 119 = .ok (.istore 6, 2) := by decide +kernel
theorem dX10_lay_121 : decode cX10_lay 121 = .ok (.iload 6, 2) := by decide +kernel
theorem dX10_lay_123 : decode cX10_lay 123 = .ok (.ifCond .lt 55, 3) := by decide +kernel
theorem dX10_lay_126 : decode cX10_lay 126 = .ok (.aload_n 0, 1) := by decide +kernel
theorem dX10_lay_127 : decode cX10_lay 127 = .ok (.getfield 77, 3) := by decide +kernel
theorem dX10_lay_130 : decode cX10_lay 130 = .ok (.sipush 254, 3) := by decide +kernel
theorem dX10_lay_133 : decode cX10_lay 133 = .ok (.iload 5, 2) := by decide +kernel
theorem dX10_lay_135 : decode cX10_lay 135 = .ok (.imul, 1) := by decide +kernel
theorem dX10_lay_136 : decode cX10_lay 136 = .ok (.iload 6, 2) := by decide +kernel
theorem dX10_lay_138 : decode cX10_lay 138 = .ok (.iadd, 1) := by decide +kernel
theorem dX10_lay_139 : decode cX10_lay 139 = .ok (.iload 5, 2) := by decide +kernel
theorem dX10_lay_141 : decode cX10_lay 141 = .ok (.ifCond .ne 21, 3) := by decide +kernel
theorem dX10_lay_144 : decode cX10_lay 144 = .ok (.iload 6, 2) := by decide +kernel
theorem dX10_lay_146 : decode cX10_lay 146 = .ok (.aload_n 0, 1) := by decide +kernel
theorem dX10_lay_147 : decode cX10_lay 147 = .ok (.getfield 119, 3) := by decide +kernel
theorem dX10_lay_150 : decode cX10_lay 150 = .ok (.if_icmp .ne 7, 3) := by decide +kernel
theorem dX10_lay_153 : decode cX10_lay 153 = .ok (.iconst 0, 1) := by decide +kernel
theorem dX10_lay_154 : decode cX10_lay 154 = .ok (.goto 17, 3) := by decide +kernel
theorem dX10_lay_157 : decode cX10_lay 157 = .ok (.ldc 136, 2) := by decide +kernel
theorem dX10_lay_159 : decode cX10_lay 159 = .ok (.goto 12, 3) := by decide +kernel
theorem dX10_lay_162 : decode cX10_lay 162 = .ok (.aload_n 0, 1) := by decide +kernel
theorem dX10_lay_163 : decode cX10_lay 163 = .ok (.iload 5, 2) := by decide +kernel
theorem dX10_lay_165 : decode cX10_lay 165 = .ok (.iload 6, 2) := by decide +kernel
theorem dX10_lay_167 : decode cX10_lay 167 = .ok (.iload_n 2, 1) := by decide +kernel
theorem dX10_lay_168 : decode cX10_lay 168 = .ok (.invokevirtual 137, 3) := by decide +kernel
theorem dX10_lay_171 : decode cX10_lay 171 = .ok (.iastore, 1) := by decide +kernel
theorem dX10_lay_172 : decode cX10_lay 172 = .ok (.iinc 6 (-1), 3) := by decide +kernel
theorem dX10_lay_175 : decode cX10_lay 175 = .ok (.goto (-54), 3) := by decide +kernel
theorem dX10_lay_178 : decode cX10_lay 178 = .ok (.iinc 5 1, 3) := by decide +kernel
theorem dX10_lay_181 : decode cX10_lay 181 = .ok (.goto (-75), 3) := by decide +kernel
theorem dX10_lay_184 : decode cX10_lay 184 = .ok (.aload_n 0, 1) := by decide +kernel
theorem dX10_lay_185 : decode cX10_lay 185 = .ok (.aload_n 0, 1) := by decide +kernel
theorem dX10_lay_186 : decode cX10_lay 186 = .ok (.getfield 77, 3) := by decide +kernel
theorem dX10_lay_189 : decode cX10_lay 189 = .ok (.sipush 254, 3) := by decide +kernel
theorem dX10_lay_192 : decode cX10_lay 192 = .ok (.aload_n 0, 1) := by decide +kernel
theorem dX10_lay_193 : decode cX10_lay 193 = .ok (.getfield 133, 3) := by decide +kernel
theorem dX10_lay_196 : decode cX10_lay 196 = .ok (.imul, 1) := by decide +kernel
theorem dX10_lay_197 : decode cX10_lay 197 = .ok (.iaload, 1) := by decide +kernel
theorem dX10_lay_198 : decode cX10_lay 198 = .ok (.putfield 141, 3) := by decide +kernel
theorem dX10_lay_201 : decode cX10_lay 201 = .ok (.iconst 0, 1) := by decide +kernel
theorem dX10_lay_202 : decode cX10_lay 202 = .ok (.istore 4, 2) := by decide +kernel
theorem dX10_lay_204 : decode cX10_lay 204 = .ok (.aload_n 0, 1) := by decide +kernel
theorem dX10_lay_205 : decode cX10_lay 205 = .ok (.getfield 133, 3) := by decide +kernel
theorem dX10_lay_208 : decode cX10_lay 208 = .ok (.istore 5, 2) := by decide +kernel
theorem dX10_lay_210 : decode cX10_lay 210 = .ok (.iload 5, 2) := by decide +kernel
theorem dX10_lay_212 : decode cX10_lay 212 = .ok (.ifCond .le 204, 3) := by decide +kernel
theorem dX10_lay_215 : decode cX10_lay 215 = .ok (.iconst 2, 1) := by decide +kernel
theorem dX10_lay_216 : decode cX10_lay 216 = .ok (.aload_n 0, 1) := by decide +kernel
theorem dX10_lay_217 : decode cX10_lay 217 = .ok (.getfield 133, 3) := by decide +kernel
theorem dX10_lay_220 : decode cX10_lay 220 = .ok (.iload 5, 2) := by decide +kernel
theorem dX10_lay_222 : decode cX10_lay 222 = .ok (.isub, 1) := by decide +kernel
theorem dX10_lay_223 : decode cX10_lay 223 = .ok (.imul, 1) := by decide +kernel
theorem dX10_lay_224 : decode cX10_lay 224 = .ok (.istore 6, 2) := by decide +kernel
theorem dX10_lay_226 : decode cX10_lay 226 = .ok (.iconst 0, 1) := by decide +kernel
theorem dX10_lay_227 : decode cX10_lay 227 = .ok (.istore 7, 2) := by decide +kernel
theorem dX10_lay_229 : decode cX10_lay 229 = .ok (.aload_n 0, 1) := by decide +kernel
theorem dX10_lay_230 : decode cX10_lay 230 = .ok (.iload 4, 2) := by decide +kernel
theorem dX10_lay_232 : decode cX10_lay 232 = .ok (.iload_n 2, 1) := by decide +kernel
theorem dX10_lay_233 : decode cX10_lay 233 = .ok (.invokevirtual 130, 3) := by decide +kernel
theorem dX10_lay_236 : decode cX10_lay 236 = .ok (.istore 8, 2) := by decide +kernel
theorem dX10_lay_238 : decode cX10_lay 238 = .ok (.iload 8, 2) := by decide +kernel
theorem dX10_lay_240 : decode cX10_lay 240 = .ok (.ifCond .le 148, 3) := by decide +kernel
theorem dX10_lay_243 : decode cX10_lay 243 = .ok (.iload 7, 2) := by decide +kernel
theorem dX10_lay_245 : decode cX10_lay 245 = .ok (.ifCond .ne 143, 3) := by decide +kernel
theorem dX10_lay_248 : decode cX10_lay 248 = .ok (.iload 4, 2) := by decide +kernel
theorem dX10_lay_250 : decode cX10_lay 250 = .ok (.iload 8, 2) := by decide +kernel
theorem dX10_lay_252 : decode cX10_lay 252 = .ok (.iadd, 1) := by decide +kernel
theorem dX10_lay_253 : decode cX10_lay 253 = .ok (.aload_n 0, 1) := by decide +kernel
theorem dX10_lay_254 : decode cX10_lay 254 = .ok (.getfield 119, 3) := by decide +kernel
theorem dX10_lay_257 : decode cX10_lay 257 = .ok (.if_icmp .ge 16, 3) := by decide +kernel
theorem dX10_lay_260 : decode cX10_lay 260 = .ok (.aload_n 0, 1) := by decide +kernel
theorem dX10_lay_261 : decode cX10_lay 261 = .ok (.iload 4, 2) := by decide +kernel
theorem dX10_lay_263 : decode cX10_lay 263 = .ok (.iload 8, 2) := by decide +kernel
theorem dX10_lay_265 : decode cX10_lay 265 = .ok (.iadd, 1) := by decide +kernel
theorem dX10_lay_266 : decode cX10_lay 266 = .ok (.iload_n 2, 1) := by decide +kernel
theorem dX10_lay_267 : decode cX10_lay 267 = .ok (.invokevirtual 130, 3) := by decide +kernel
theorem dX10_lay_270 : decode cX10_lay 270 = .ok (.goto 4, 3) := by decide +kernel
theorem dX10_lay_273 : decode cX10_lay 273 = .ok (.iconst 0, 1) := by decide +kernel
theorem dX10_lay_274 : decode cX10_lay 274 = .ok (.istore 9, 2) := by decide +kernel
theorem dX10_lay_276 : decode cX10_lay 276 = .ok (.iload 9, 2) := by decide +kernel
theorem dX10_lay_278 : decode cX10_lay 278 = .ok (.ifCond .lt 104, 3) := by decide +kernel
theorem dX10_lay_281 : decode cX10_lay 281 = .ok (.iload 7, 2) := by decide +kernel
theorem dX10_lay_283 : decode cX10_lay 283 = .ok (.ifCond .ne 99, 3) := by decide +kernel
theorem dX10_lay_286 : decode cX10_lay 286 = .ok (.aload_n 0, 1) := by decide +kernel
theorem dX10_lay_287 : decode cX10_lay 287 = .ok (.getfield 77, 3) := by decide +kernel
theorem dX10_lay_290 : decode cX10_lay 290 = .ok (.sipush 254, 3) := by decide +kernel
theorem dX10_lay_293 : decode cX10_lay 293 = .ok (.iload 5, 2) := by decide +kernel
theorem dX10_lay_295 : decode cX10_lay 295 = .ok (.imul, 1) := by decide +kernel
theorem dX10_lay_296 : decode cX10_lay 296 = .ok (.sipush 254, 3) := by decide +kernel
theorem dX10_lay_299 : decode cX10_lay 299 = .ok (.isub, 1) := by decide +kernel
theorem dX10_lay_300 : decode cX10_lay 300 = .ok (.iload 4, 2) := by decide +kernel
theorem dX10_lay_302 : decode cX10_lay 302 = .ok (.iadd, 1) := by decide +kernel
theorem dX10_lay_303 : decode cX10_lay 303 = .ok (.iload 8, 2) := by decide +kernel
theorem dX10_lay_305 : decode cX10_lay 305 = .ok (.iadd, 1) := by decide +kernel
theorem dX10_lay_306 : decode cX10_lay 306 = .ok (.iload 9, 2) := by decide +kernel
theorem dX10_lay_308 : decode cX10_lay 308 = .ok (.iadd, 1) := by decide +kernel
theorem dX10_lay_309 : decode cX10_lay 309 = .ok (.iaload, 1) := by decide +kernel
theorem dX10_lay_310 : decode cX10_lay 310 = .ok (.aload_n 0, 1) := by decide +kernel
theorem dX10_lay_311 : decode cX10_lay 311 = .ok (.iload 4, 2) := by decide +kernel
theorem dX10_lay_313 : decode cX10_lay 313 = .ok (.iload 8, 2) := by decide +kernel
theorem dX10_lay_315 : decode cX10_lay 315 = .ok (.iload_n 2, 1) := by decide +kernel
theorem dX10_lay_316 : decode cX10_lay 316 = .ok (.invokevirtual 144, 3) := by decide +kernel
theorem dX10_lay_319 : decode cX10_lay 319 = .ok (.iadd, 1) := by decide +kernel
theorem dX10_lay_320 : decode cX10_lay 320 = .ok (.aload_n 0, 1) := by decide +kernel
theorem dX10_lay_321 : decode cX10_lay 321 = .ok (.iload 4, 2) := by decide +kernel
theorem dX10_lay_323 : decode cX10_lay 323 = .ok (.iload 8, 2) := by decide +kernel
theorem dX10_lay_325 : decode cX10_lay 325 = .ok (.iadd, 1) := by decide +kernel
theorem dX10_lay_326 : decode cX10_lay 326 = .ok (.iload 9, 2) := by decide +kernel
theorem dX10_lay_328 : decode cX10_lay 328 = .ok (.iload_n 2, 1) := by decide +kernel
theorem dX10_lay_329 : decode cX10_lay 329 = .ok (.invokevirtual 144, 3) := by decide +kernel
theorem dX10_lay_332 : decode cX10_lay 332 = .ok (.iadd, 1) := by decide +kernel
theorem dX10_lay_333 : decode cX10_lay 333 = .ok (.aload_n 0, 1) := by decide +kernel
theorem dX10_lay_334 : decode cX10_lay 334 = .ok (.getfield 77, 3) := by decide +kernel
theorem dX10_lay_337 : decode cX10_lay 337 = .ok (.sipush 254, 3) := by decide +kernel
theorem dX10_lay_340 : decode cX10_lay 340 = .ok (.iload 5, 2) := by decide +kernel
theorem dX10_lay_342 : decode cX10_lay 342 = .ok (.imul, 1) := by decide +kernel
theorem dX10_lay_343 : decode cX10_lay 343 = .ok (.iload 4, 2) := by decide +kernel
theorem dX10_lay_345 : decode cX10_lay 345 = .ok (.iadd, 1) := by decide +kernel
theorem dX10_lay_346 : decode cX10_lay 346 = .ok (.iaload, 1) := by decide +kernel
theorem dX10_lay_347 : decode cX10_lay 347 = .ok (.if_icmp .eq 6, 3) := by decide +kernel
theorem dX10_lay_350 : decode cX10_lay 350 = .ok (.goto 26, 3) := by decide +kernel
theorem dX10_lay_353 : decode cX10_lay 353 = .ok (.iconst 1, 1) := by decide +kernel
theorem dX10_lay_354 : decode cX10_lay 354 = .ok (.istore 7, 2) := by decide +kernel
theorem dX10_lay_356 : decode cX10_lay 356 = .ok (.aload_n 0, 1) := by decide +kernel
theorem dX10_lay_357 : decode cX10_lay 357 = .ok (.getfield 80, 3) := by decide +kernel
theorem dX10_lay_360 : decode cX10_lay 360 = .ok (.iload 6, 2) := by decide +kernel
theorem dX10_lay_362 : decode cX10_lay 362 = .ok (.iload 8, 2) := by decide +kernel
theorem dX10_lay_364 : decode cX10_lay 364 = .ok (.iastore, 1) := by decide +kernel
theorem dX10_lay_365 : decode cX10_lay 365 = .ok (.aload_n 0, 1) := by decide +kernel
theorem dX10_lay_366 : decode cX10_lay 366 = .ok (.getfield 80, 3) := by decide +kernel
theorem dX10_lay_369 : decode cX10_lay 369 = .ok (.iload 6, 2) := by decide +kernel
theorem dX10_lay_371 : decode cX10_lay 371 = .ok (.iconst 1, 1) := by decide +kernel
theorem dX10_lay_372 : decode cX10_lay 372 = .ok (.iadd, 1) := by decide +kernel
theorem dX10_lay_373 : decode cX10_lay 373 = .ok (.iload 9, 2) := by decide +kernel
theorem dX10_lay_375 : decode cX10_lay 375 = .ok (.iastore, 1) := by decide +kernel
theorem dX10_lay_376 : decode cX10_lay 376 = .ok (.iinc 9 (-1), 3) := by decide +kernel
theorem dX10_lay_379 : decode cX10_lay 379 = .ok (.goto (-103), 3) := by decide +kernel
theorem dX10_lay_382 : decode cX10_lay 382 = .ok (.iinc 8 (-1), 3) := by decide +kernel
theorem dX10_lay_385 : decode cX10_lay 385 = .ok (.goto (-147), 3) := by decide +kernel
theorem dX10_lay_388 : decode cX10_lay 388 = .ok (.iload 4, 2) := by decide +kernel
theorem dX10_lay_390 : decode cX10_lay 390 = .ok (.aload_n 0, 1) := by decide +kernel
theorem dX10_lay_391 : decode cX10_lay 391 = .ok (.getfield 80, 3) := by decide +kernel
theorem dX10_lay_394 : decode cX10_lay 394 = .ok (.iload 6, 2) := by decide +kernel
theorem dX10_lay_396 : decode cX10_lay 396 = .ok (.iaload, 1) := by decide +kernel
theorem dX10_lay_397 : decode cX10_lay 397 = .ok (.aload_n 0, 1) := by decide +kernel
theorem dX10_lay_398 : decode cX10_lay 398 = .ok (.getfield 80, 3) := by decide +kernel
theorem dX10_lay_401 : decode cX10_lay 401 = .ok (.iload 6, 2) := by decide +kernel
theorem dX10_lay_403 : decode cX10_lay 403 = .ok (.iconst 1, 1) := by decide +kernel
theorem dX10_lay_404 : decode cX10_lay 404 = .ok (.iadd, 1) := by decide +kernel
theorem dX10_lay_405 : decode cX10_lay 405 = .ok (.iaload, 1) := by decide +kernel
theorem dX10_lay_406 : decode cX10_lay 406 = .ok (.iadd, 1) := by decide +kernel
theorem dX10_lay_407 : decode cX10_lay 407 = .ok (.iadd, 1) := by decide +kernel
theorem dX10_lay_408 : decode cX10_lay 408 = .ok (.istore 4, 2) := by decide +kernel
theorem dX10_lay_410 : decode cX10_lay 410 = .ok (.iinc 5 (-1), 3) := by decide +kernel
theorem dX10_lay_413 : decode cX10_lay 413 = .ok (.goto (-203), 3) := by decide +kernel
theorem dX10_lay_416 : decode cX10_lay 416 = .ok (.iconst 1, 1) := by decide +kernel
theorem dX10_lay_417 : decode cX10_lay 417 = .ok (.ireturn, 1) := by decide +kernel
theorem dX10_paid_0 : decode cX10_paid 0 = .ok (.iload_n 2, 1) := by decide +kernel
theorem dX10_paid_1 : decode cX10_paid 1 = .ok (.ifCond .ne 5, 3) := by decide +kernel
theorem dX10_paid_4 : decode cX10_paid 4 = .ok (.iconst 0, 1) := by decide +kernel
theorem dX10_paid_5 : decode cX10_paid 5 = .ok (.ireturn, 1) := by decide +kernel
theorem dX10_paid_6 : decode cX10_paid 6 = .ok (.iload_n 3, 1) := by decide +kernel
theorem dX10_paid_7 : decode cX10_paid 7 = .ok (.aload_n 0, 1) := by decide +kernel
theorem dX10_paid_8 : decode cX10_paid 8 = .ok (.iload_n 1, 1) := by decide +kernel
theorem dX10_paid_9 : decode cX10_paid 9 = .ok (.iload_n 2, 1) := by decide +kernel
theorem dX10_paid_10 : decode cX10_paid 10 = .ok (.invokevirtual 122, 3) := by decide +kernel
theorem dX10_paid_13 : decode cX10_paid 13 = .ok (.isub, 1) := by decide +kernel
theorem dX10_paid_14 : decode cX10_paid 14 = .ok (.istore 4, 2) := by decide +kernel
theorem dX10_paid_16 : decode cX10_paid 16 = .ok (.iload 4, 2) := by decide +kernel
theorem dX10_paid_18 : decode cX10_paid 18 = .ok (.iload 4, 2) := by decide +kernel
theorem dX10_paid_20 : decode cX10_paid 20 = .ok (.imul, 1) := by decide +kernel
theorem dX10_paid_21 : decode cX10_paid 21 = .ok (.ireturn, 1) := by decide +kernel
theorem dX10_best_0 : decode cX10_best 0 = .ok (.ldc 136, 2) := by decide +kernel
theorem dX10_best_2 : decode cX10_best 2 = .ok (.istore 4, 2) := by decide +kernel
theorem dX10_best_4 : decode cX10_best 4 = .ok (.iload_n 2, 1) := by decide +kernel
theorem dX10_best_5 : decode cX10_best 5 = .ok (.aload_n 0, 1) := by decide +kernel
theorem dX10_best_6 : decode cX10_best 6 = .ok (.getfield 119, 3) := by decide +kernel
theorem dX10_best_9 : decode cX10_best 9 = .ok (.if_icmp .ne 6, 3) := by decide +kernel
theorem dX10_best_12 : decode cX10_best 12 = .ok (.iload 4, 2) := by decide +kernel
theorem dX10_best_14 : decode cX10_best 14 = .ok (.ireturn, 1) := by decide +kernel
theorem dX10_best_15 : decode cX10_best 15 = .ok (.aload_n 0, 1) := by decide +kernel
theorem dX10_best_16 : decode cX10_best 16 = .ok (.iload_n 2, 1) := by decide +kernel
theorem dX10_best_17 : decode cX10_best 17 = .ok (.iload_n 3, 1) := by decide +kernel
theorem dX10_best_18 : decode cX10_best 18 = .ok (.invokevirtual 130, 3) := by decide +kernel
theorem dX10_best_21 : decode cX10_best 21 = .ok (.istore 5, 2) := by decide +kernel
theorem dX10_best_23 : decode cX10_best 23 = .ok (.iconst 1, 1) := by decide +kernel
theorem dX10_best_24 : decode cX10_best 24 = .ok (.istore 6, 2) := by decide +kernel
theorem dX10_best_26 : decode cX10_best 26 = .ok (.iload 6, 2) := by decide +kernel
theorem dX10_best_28 : decode cX10_best 28 = .ok (.iload 5, 2) := by decide +kernel
theorem dX10_best_30 : decode cX10_best 30 = .ok (.if_icmp .gt 128, 3) := by decide +kernel
theorem dX10_best_33 : decode cX10_best 33 = .ok (.iload_n 2, 1) := by decide +kernel
theorem dX10_best_34 : decode cX10_best 34 = .ok (.iload 6, 2) := by decide +kernel
theorem dX10_best_36 : decode cX10_best 36 = .ok (.iadd, 1) := by decide +kernel
theorem dX10_best_37 : decode cX10_best 37 = .ok (.aload_n 0, 1) := by decide +kernel
theorem dX10_best_38 : decode cX10_best 38 = .ok (.getfield 119, 3) := by decide +kernel
theorem dX10_best_41 : decode cX10_best 41 = .ok (.if_icmp .ge 15, 3) := by decide +kernel
theorem dX10_best_44 : decode cX10_best 44 = .ok (.aload_n 0, 1) := by decide +kernel
theorem dX10_best_45 : decode cX10_best 45 = .ok (.iload_n 2, 1) := by decide +kernel
theorem dX10_best_46 : decode cX10_best 46 = .ok (.iload 6, 2) := by decide +kernel
theorem dX10_best_48 : decode cX10_best 48 = .ok (.iadd, 1) := by decide +kernel
theorem dX10_best_49 : decode cX10_best 49 = .ok (.iload_n 3, 1) := by decide +kernel
theorem dX10_best_50 : decode cX10_best 50 = .ok (.invokevirtual 130, 3) := by decide +kernel
theorem dX10_best_53 : decode cX10_best 53 = .ok (.goto 4, 3) := by decide +kernel
theorem dX10_best_56 : decode cX10_best 56 = .ok (.iconst 0, 1) := by decide +kernel
theorem dX10_best_57 : decode cX10_best 57 = .ok (.istore 7, 2) := by decide +kernel
theorem dX10_best_59 : decode cX10_best 59 = .ok (.iconst 0, 1) := by decide +kernel
theorem dX10_best_60 : decode cX10_best 60 = .ok (.istore 8, 2) := by decide +kernel
theorem dX10_best_62 : decode cX10_best 62 = .ok (.iload 8, 2) := by decide +kernel
theorem dX10_best_64 : decode cX10_best 64 = .ok (.iload 7, 2) := by decide +kernel
theorem dX10_best_66 : decode cX10_best 66 = .ok (.if_icmp .gt 86, 3) := by decide +kernel
theorem dX10_best_69 : decode cX10_best 69 = .ok (.aload_n 0, 1) := by decide +kernel
theorem dX10_best_70 : decode cX10_best 70 = .ok (.getfield 77, 3) := by decide +kernel
theorem dX10_best_73 : decode cX10_best 73 = .ok (.sipush 254, 3) := by decide +kernel
theorem dX10_best_76 : decode cX10_best 76 = .ok (.iload_n 1, 1) := by decide +kernel
theorem dX10_best_77 : decode cX10_best 77 = .ok (.imul, 1) := by decide +kernel
theorem dX10_best_78 : decode cX10_best 78 = .ok (.sipush 254, 3) := by decide +kernel
theorem dX10_best_81 : decode cX10_best 81 = .ok (.isub, 1) := by decide +kernel
theorem dX10_best_82 : decode cX10_best 82 = .ok (.iload_n 2, 1) := by decide +kernel
theorem dX10_best_83 : decode cX10_best 83 = .ok (.iadd, 1) := by decide +kernel
theorem dX10_best_84 : decode cX10_best 84 = .ok (.iload 6, 2) := by decide +kernel
theorem dX10_best_86 : decode cX10_best 86 = .ok (.iadd, 1) := by decide +kernel
theorem dX10_best_87 : decode cX10_best 87 = .ok (.iload 8, 2) := by decide +kernel
theorem dX10_best_89 : decode cX10_best 89 = .ok (.iadd, 1) := by decide +kernel
theorem dX10_best_90 : decode cX10_best 90 = .ok (.iaload, 1) := by decide +kernel
theorem dX10_best_91 : decode cX10_best 91 = .ok (.istore 9, 2) := by decide +kernel
theorem dX10_best_93 : decode cX10_best 93 = .ok (.iload 9, 2) := by decide +kernel
theorem dX10_best_95 : decode cX10_best 95 = .ok (.ldc 136, 2) := by decide +kernel
theorem dX10_best_97 : decode cX10_best 97 = .ok (.if_icmp .lt 8, 3) := by decide +kernel
theorem dX10_best_100 : decode cX10_best 100 = .ok (.ldc 136, 2) := by decide +kernel
theorem dX10_best_102 : decode cX10_best 102 = .ok (.goto 26, 3) := by decide +kernel
theorem dX10_best_105 : decode cX10_best 105 = .ok (.iload 9, 2) := by decide +kernel
theorem dX10_best_107 : decode cX10_best 107 = .ok (.aload_n 0, 1) := by decide +kernel
theorem dX10_best_108 : decode cX10_best 108 = .ok (.iload_n 2, 1) := by decide +kernel
theorem dX10_best_109 : decode cX10_best 109 = .ok (.iload 6, 2) := by decide +kernel
theorem dX10_best_111 : decode cX10_best 111 = .ok (.iload_n 3, 1) := by decide +kernel
theorem dX10_best_112 : decode cX10_best 112 = .ok (.invokevirtual 144, 3) := by decide +kernel
theorem dX10_best_115 : decode cX10_best 115 = .ok (.iadd, 1) := by decide +kernel
theorem dX10_best_116 : decode cX10_best 116 = .ok (.aload_n 0, 1) := by decide +kernel
theorem dX10_best_117 : decode cX10_best 117 = .ok (.iload_n 2, 1) := by decide +kernel
theorem dX10_best_118 : decode cX10_best 118 = .ok (.iload 6, 2) := by decide +kernel
theorem dX10_best_120 : decode cX10_best 120 = .ok (.iadd, 1) := by decide +kernel
theorem dX10_best_121 : decode cX10_best 121 = .ok (.iload 8, 2) := by decide +kernel
theorem dX10_best_123 : decode cX10_best 123 = .ok (.iload_n 3, 1) := by decide +kernel
theorem dX10_best_124 : decode cX10_best 124 = .ok (.invokevirtual 144, 3) := by decide +kernel
theorem dX10_best_127 : decode cX10_best 127 = .ok (.iadd, 1) := by decide +kernel
theorem dX10_best_128 : decode cX10_best 128 = .ok (.istore 9, 2) := by decide +kernel
theorem dX10_best_130 : decode cX10_best 130 = .ok (.iload 9, 2) := by decide +kernel
theorem dX10_best_132 : decode cX10_best 132 = .ok (.iload 4, 2) := by decide +kernel
theorem dX10_best_134 : decode cX10_best 134 = .ok (.if_icmp .ge 8, 3) := by decide +kernel
theorem dX10_best_137 : decode cX10_best 137 = .ok (.iload 9, 2) := by decide +kernel
theorem dX10_best_139 : decode cX10_best 139 = .ok (.goto 5, 3) := by decide +kernel
theorem dX10_best_142 : decode cX10_best 142 = .ok (.iload 4, 2) := by decide +kernel
theorem dX10_best_144 : decode cX10_best 144 = .ok (.istore 4, 2) := by decide +kernel
theorem dX10_best_146 : decode cX10_best 146 = .ok (.iinc 8 1, 3) := by decide +kernel
theorem dX10_best_149 : decode cX10_best 149 = .ok (.goto (-87), 3) := by decide +kernel
theorem dX10_best_152 : decode cX10_best 152 = .ok (.iinc 6 1, 3) := by decide +kernel
theorem dX10_best_155 : decode cX10_best 155 = .ok (.goto (-129), 3) := by decide +kernel
theorem dX10_best_158 : decode cX10_best 158 = .ok (.iload 4, 2) := by decide +kernel
theorem dX10_best_160 : decode cX10_best 160 = .ok (.ireturn, 1) := by decide +kernel
theorem dX10_layTongue_0 : decode cX10_layTongue 0 = .ok (.iconst 4, 1) := by decide +kernel
theorem dX10_layTongue_1 : decode cX10_layTongue 1 = .ok (.iload_n 1, 1) := by decide +kernel
theorem dX10_layTongue_2 : decode cX10_layTongue 2 = .ok (.imul, 1) := by decide +kernel
theorem dX10_layTongue_3 : decode cX10_layTongue 3 = .ok (.iload_n 2, 1) := by decide +kernel
theorem dX10_layTongue_4 : decode cX10_layTongue 4 = .ok (.iadd, 1) := by decide +kernel
theorem dX10_layTongue_5 : decode cX10_layTongue 5 = .ok (.istore_n 3, 1) := by decide +kernel
theorem dX10_layTongue_6 : decode cX10_layTongue 6 = .ok (.aload_n 0, 1) := by decide +kernel
theorem dX10_layTongue_7 : decode cX10_layTongue 7 = .ok (.getfield 55, 3) := by decide +kernel
theorem dX10_layTongue_10 : decode cX10_layTongue 10 = .ok (.iload_n 3, 1) := by decide +kernel
theorem dX10_layTongue_11 : decode cX10_layTongue 11 = .ok (.baload, 1) := by decide +kernel
theorem dX10_layTongue_12 : decode cX10_layTongue 12 = .ok (.ifCond .eq 50, 3) := by decide +kernel
theorem dX10_layTongue_15 : decode cX10_layTongue 15 = .ok (.aload_n 0, 1) := by decide +kernel
theorem dX10_layTongue_16 : decode cX10_layTongue 16 = .ok (.getfield 61, 3) := by decide +kernel
theorem dX10_layTongue_19 : decode cX10_layTongue 19 = .ok (.iload_n 3, 1) := by decide +kernel
theorem dX10_layTongue_20 : decode cX10_layTongue 20 = .ok (.iaload, 1) := by decide +kernel
theorem dX10_layTongue_21 : decode cX10_layTongue 21 = .ok (.istore 4, 2) := by decide +kernel
theorem dX10_layTongue_23 : decode cX10_layTongue 23 = .ok (.iconst 0, 1) := by decide +kernel
theorem dX10_layTongue_24 : decode cX10_layTongue 24 = .ok (.istore 5, 2) := by decide +kernel
theorem dX10_layTongue_26 : decode cX10_layTongue 26 = .ok (.iload 5, 2) := by decide +kernel
theorem dX10_layTongue_28 : decode cX10_layTongue 28 = .ok (.iload 4, 2) := by decide +kernel
theorem dX10_layTongue_30 : decode cX10_layTongue 30 = .ok (.if_icmp .ge 29, 3) := by decide +kernel
theorem dX10_layTongue_33 : decode cX10_layTongue 33 = .ok (.aload_n 0, 1) := by decide +kernel
theorem dX10_layTongue_34 : decode cX10_layTongue 34 = .ok (.getfield 68, 3) := by decide +kernel
theorem dX10_layTongue_37 : decode cX10_layTongue 37 = .ok (.iload 5, 2) := by decide +kernel
theorem dX10_layTongue_39 : decode cX10_layTongue 39 = .ok (.aload_n 0, 1) := by decide +kernel
theorem dX10_layTongue_40 : decode cX10_layTongue 40 = .ok (.getfield 58, 3) := by decide +kernel
theorem dX10_layTongue_43 : decode cX10_layTongue 43 = .ok (.sipush 500, 3) := by decide +kernel
theorem dX10_layTongue_46 : decode cX10_layTongue 46 = .ok (.iload_n 3, 1) := by decide +kernel
theorem dX10_layTongue_47 : decode cX10_layTongue 47 = .ok (.imul, 1) := by decide +kernel
theorem dX10_layTongue_48 : decode cX10_layTongue 48 = .ok (.iload 5, 2) := by decide +kernel
theorem dX10_layTongue_50 : decode cX10_layTongue 50 = .ok (.iadd, 1) := by decide +kernel
theorem dX10_layTongue_51 : decode cX10_layTongue 51 = .ok (.iaload, 1) := by decide +kernel
theorem dX10_layTongue_52 : decode cX10_layTongue 52 = .ok (.iastore, 1) := by decide +kernel
theorem dX10_layTongue_53 : decode cX10_layTongue 53 = .ok (.iinc 5 1, 3) := by decide +kernel
theorem dX10_layTongue_56 : decode cX10_layTongue 56 = .ok (.goto (-30), 3) := by decide +kernel
theorem dX10_layTongue_59 : decode cX10_layTongue 59 = .ok (.goto 67, 3) := by decide +kernel
theorem dX10_layTongue_62 : decode cX10_layTongue 62 = .ok (.aload_n 0, 1) := by decide +kernel
theorem dX10_layTongue_63 : decode cX10_layTongue 63 = .ok (.getfield 48, 3) := by decide +kernel
theorem dX10_layTongue_66 : decode cX10_layTongue 66 = .ok (.iload_n 3, 1) := by decide +kernel
theorem dX10_layTongue_67 : decode cX10_layTongue 67 = .ok (.baload, 1) := by decide +kernel
theorem dX10_layTongue_68 : decode cX10_layTongue 68 = .ok (.ifCond .eq 7, 3) := by decide +kernel
theorem dX10_layTongue_71 : decode cX10_layTongue 71 = .ok (.iload_n 3, 1) := by decide +kernel
theorem dX10_layTongue_72 : decode cX10_layTongue 72 = .ok (.goto 6, 3) := by decide +kernel
theorem dX10_layTongue_75 : decode cX10_layTongue 75 = .ok (.iconst 4, 1) := by decide +kernel
theorem dX10_layTongue_76 : decode cX10_layTongue 76 = .ok (.iload_n 1, 1) := by decide +kernel
theorem dX10_layTongue_77 : decode cX10_layTongue 77 = .ok (.imul, 1) := by decide +kernel
theorem dX10_layTongue_78 : decode cX10_layTongue 78 = .ok (.istore 5, 2) := by decide +kernel
theorem dX10_layTongue_80 : decode cX10_layTongue 80 = .ok (.aload_n 0, 1) := by decide +kernel
theorem dX10_layTongue_81 : decode cX10_layTongue 81 = .ok (.getfield 45, 3) := by decide +kernel
theorem dX10_layTongue_84 : decode cX10_layTongue 84 = .ok (.iload 5, 2) := by decide +kernel
theorem dX10_layTongue_86 : decode cX10_layTongue 86 = .ok (.iaload, 1) := by decide +kernel
theorem dX10_layTongue_87 : decode cX10_layTongue 87 = .ok (.istore 4, 2) := by decide +kernel
theorem dX10_layTongue_89 : decode cX10_layTongue 89 = .ok (.iconst 0, 1) := by decide +kernel
theorem dX10_layTongue_90 : decode cX10_layTongue 90 = .ok (.istore 6, 2) := by decide +kernel
theorem dX10_layTongue_92 : decode cX10_layTongue 92 = .ok (.iload 6, 2) := by decide +kernel
theorem dX10_layTongue_94 : decode cX10_layTongue 94 = .ok (.iload 4, 2) := by decide +kernel
theorem dX10_layTongue_96 : decode cX10_layTongue 96 = .ok (.if_icmp .ge 30, 3) := by decide +kernel
theorem dX10_layTongue_99 : decode cX10_layTongue 99 = .ok (.aload_n 0, 1) := by decide +kernel
theorem dX10_layTongue_100 : decode cX10_layTongue 100 = .ok (.getfield 68, 3) := by decide +kernel
theorem dX10_layTongue_103 : decode cX10_layTongue 103 = .ok (.iload 6, 2) := by decide +kernel
theorem dX10_layTongue_105 : decode cX10_layTongue 105 = .ok (.aload_n 0, 1) := by decide +kernel
theorem dX10_layTongue_106 : decode cX10_layTongue 106 = .ok (.getfield 42, 3) := by decide +kernel
theorem dX10_layTongue_109 : decode cX10_layTongue 109 = .ok (.sipush 500, 3) := by decide +kernel
theorem dX10_layTongue_112 : decode cX10_layTongue 112 = .ok (.iload 5, 2) := by decide +kernel
theorem dX10_layTongue_114 : decode cX10_layTongue 114 = .ok (.imul, 1) := by decide +kernel
theorem dX10_layTongue_115 : decode cX10_layTongue 115 = .ok (.iload 6, 2) := by decide +kernel
theorem dX10_layTongue_117 : decode cX10_layTongue 117 = .ok (.iadd, 1) := by decide +kernel
theorem dX10_layTongue_118 : decode cX10_layTongue 118 = .ok (.iaload, 1) := by decide +kernel
theorem dX10_layTongue_119 : decode cX10_layTongue 119 = .ok (.iastore, 1) := by decide +kernel
theorem dX10_layTongue_120 : decode cX10_layTongue 120 = .ok (.iinc 6 1, 3) := by decide +kernel
theorem dX10_layTongue_123 : decode cX10_layTongue 123 = .ok (.goto (-31), 3) := by decide +kernel
theorem dX10_layTongue_126 : decode cX10_layTongue 126 = .ok (.aload_n 0, 1) := by decide +kernel
theorem dX10_layTongue_127 : decode cX10_layTongue 127 = .ok (.iload 4, 2) := by decide +kernel
theorem dX10_layTongue_129 : decode cX10_layTongue 129 = .ok (.aload_n 0, 1) := by decide +kernel
theorem dX10_layTongue_130 : decode cX10_layTongue 130 = .ok (.getfield 17, 3) := by decide +kernel
theorem dX10_layTongue_133 : decode cX10_layTongue 133 = .ok (.iload_n 2, 1) := by decide +kernel
theorem dX10_layTongue_134 : decode cX10_layTongue 134 = .ok (.iaload, 1) := by decide +kernel
theorem dX10_layTongue_135 : decode cX10_layTongue 135 = .ok (.invokevirtual 147, 3) := by decide +kernel
theorem dX10_layTongue_138 : decode cX10_layTongue 138 = .ok (.istore 5, 2) := by decide +kernel
theorem dX10_layTongue_140 : decode cX10_layTongue 140 = .ok (.return_, 1) := by decide +kernel
theorem dX10_wrong_0 : decode cX10_wrong 0 = .ok (.aload_n 0, 1) := by decide +kernel
theorem dX10_wrong_1 : decode cX10_wrong 1 = .ok (.iload_n 1, 1) := by decide +kernel
theorem dX10_wrong_2 : decode cX10_wrong 2 = .ok (.putfield 151, 3) := by decide +kernel
theorem dX10_wrong_5 : decode cX10_wrong 5 = .ok (.aload_n 0, 1) := by decide +kernel
theorem dX10_wrong_6 : decode cX10_wrong 6 = .ok (.iload_n 2, 1) := by decide +kernel
theorem dX10_wrong_7 : decode cX10_wrong 7 = .ok (.putfield 83, 3) := by decide +kernel
theorem dX10_wrong_10 : decode cX10_wrong 10 = .ok (.iconst 0, 1) := by decide +kernel
theorem dX10_wrong_11 : decode cX10_wrong 11 = .ok (.ireturn, 1) := by decide +kernel
theorem dX10_wordAt_0 : decode cX10_wordAt 0 = .ok (.iconst 1, 1) := by decide +kernel
theorem dX10_wordAt_1 : decode cX10_wordAt 1 = .ok (.istore_n 3, 1) := by decide +kernel
theorem dX10_wordAt_2 : decode cX10_wordAt 2 = .ok (.iconst 0, 1) := by decide +kernel
theorem dX10_wordAt_3 : decode cX10_wordAt 3 = .ok (.istore 4, 2) := by decide +kernel
theorem dX10_wordAt_5 : decode cX10_wordAt 5 = .ok (.iload 4, 2) := by decide +kernel
theorem dX10_wordAt_7 : decode cX10_wordAt 7 = .ok (.aload_n 0, 1) := by decide +kernel
theorem dX10_wordAt_8 : decode cX10_wordAt 8 = .ok (.getfield 110, 3) := by decide +kernel
theorem dX10_wordAt_11 : decode cX10_wordAt 11 = .ok (.arraylength, 1) := by decide +kernel
theorem dX10_wordAt_12 : decode cX10_wordAt 12 = .ok (.if_icmp .ge 114, 3) := by decide +kernel
theorem dX10_wordAt_15 : decode cX10_wordAt 15 = .ok (.iconst 0, 1) := by decide +kernel
theorem dX10_wordAt_16 : decode cX10_wordAt 16 = .ok (.istore 5, 2) := by decide +kernel
theorem dX10_wordAt_18 : decode cX10_wordAt 18 = .ok (.aload_n 0, 1) := by decide +kernel
theorem dX10_wordAt_19 : decode cX10_wordAt 19 = .ok (.getfield 110, 3) := by decide +kernel
theorem dX10_wordAt_22 : decode cX10_wordAt 22 = .ok (.iload 4, 2) := by decide +kernel
theorem dX10_wordAt_24 : decode cX10_wordAt 24 = .ok (.iload 5, 2) := by decide +kernel
theorem dX10_wordAt_26 : decode cX10_wordAt 26 = .ok (.iadd, 1) := by decide +kernel
theorem dX10_wordAt_27 : decode cX10_wordAt 27 = .ok (.iaload, 1) := by decide +kernel
theorem dX10_wordAt_28 : decode cX10_wordAt 28 = .ok (.bipush 32, 2) := by decide +kernel
theorem dX10_wordAt_30 : decode cX10_wordAt 30 = .ok (.if_icmp .eq 9, 3) := by decide +kernel
theorem dX10_wordAt_33 : decode cX10_wordAt 33 = .ok (.iinc 5 1, 3) := by decide +kernel
theorem dX10_wordAt_36 : decode cX10_wordAt 36 = .ok (.goto (-18), 3) := by decide +kernel
theorem dX10_wordAt_39 : decode cX10_wordAt 39 = .ok (.iload 5, 2) := by decide +kernel
theorem dX10_wordAt_41 : decode cX10_wordAt 41 = .ok (.iload_n 2, 1) := by decide +kernel
theorem dX10_wordAt_42 : decode cX10_wordAt 42 = .ok (.iload_n 1, 1) := by decide +kernel
theorem dX10_wordAt_43 : decode cX10_wordAt 43 = .ok (.isub, 1) := by decide +kernel
theorem dX10_wordAt_44 : decode cX10_wordAt 44 = .ok (.if_icmp .ne 7, 3) := by decide +kernel
theorem dX10_wordAt_47 : decode cX10_wordAt 47 = .ok (.iconst 1, 1) := by decide +kernel
theorem dX10_wordAt_48 : decode cX10_wordAt 48 = .ok (.goto 4, 3) := by decide +kernel
theorem dX10_wordAt_51 : decode cX10_wordAt 51 = .ok (.iconst 0, 1) := by decide +kernel
theorem dX10_wordAt_52 : decode cX10_wordAt 52 = .ok (.istore 6, 2) := by decide +kernel
theorem dX10_wordAt_54 : decode cX10_wordAt 54 = .ok (.iconst 0, 1) := by decide +kernel
theorem dX10_wordAt_55 : decode cX10_wordAt 55 = .ok (.istore 7, 2) := by decide +kernel
theorem dX10_wordAt_57 : decode cX10_wordAt 57 = .ok (.iload 7, 2) := by decide +kernel
theorem dX10_wordAt_59 : decode cX10_wordAt 59 = .ok (.iload 5, 2) := by decide +kernel
theorem dX10_wordAt_61 : decode cX10_wordAt 61 = .ok (.if_icmp .ge 43, 3) := by decide +kernel
theorem dX10_wordAt_64 : decode cX10_wordAt 64 = .ok (.iload 6, 2) := by decide +kernel
theorem dX10_wordAt_66 : decode cX10_wordAt 66 = .ok (.ifCond .eq 38, 3) := by decide +kernel
theorem dX10_wordAt_69 : decode cX10_wordAt 69 = .ok (.aload_n 0, 1) := by decide +kernel
theorem dX10_wordAt_70 : decode cX10_wordAt 70 = .ok (.getfield 110, 3) := by decide +kernel
theorem dX10_wordAt_73 : decode cX10_wordAt 73 = .ok (.iload 4, 2) := by decide +kernel
theorem dX10_wordAt_75 : decode cX10_wordAt 75 = .ok (.iload 7, 2) := by decide +kernel
theorem dX10_wordAt_77 : decode cX10_wordAt 77 = .ok (.iadd, 1) := by decide +kernel
theorem dX10_wordAt_78 : decode cX10_wordAt 78 = .ok (.iaload, 1) := by decide +kernel
theorem dX10_wordAt_79 : decode cX10_wordAt 79 = .ok (.aload_n 0, 1) := by decide +kernel
theorem dX10_wordAt_80 : decode cX10_wordAt 80 = .ok (.getfield 7, 3) := by decide +kernel
theorem dX10_wordAt_83 : decode cX10_wordAt 83 = .ok (.iload_n 1, 1) := by decide +kernel
theorem dX10_wordAt_84 : decode cX10_wordAt 84 = .ok (.iload 7, 2) := by decide +kernel
theorem dX10_wordAt_86 : decode cX10_wordAt 86 = .ok (.iadd, 1) := by decide +kernel
theorem dX10_wordAt_87 : decode cX10_wordAt 87 = .ok (.iaload, 1) := by decide +kernel
theorem dX10_wordAt_88 : decode cX10_wordAt 88 = .ok (.if_icmp .ne 7, 3) := by decide +kernel
theorem dX10_wordAt_91 : decode cX10_wordAt 91 = .ok (.iconst 1, 1) := by decide +kernel
theorem dX10_wordAt_92 : decode cX10_wordAt 92 = .ok (.goto 4, 3) := by decide +kernel
theorem dX10_wordAt_95 : decode cX10_wordAt 95 = .ok (.iconst 0, 1) := by decide +kernel
theorem dX10_wordAt_96 : decode cX10_wordAt 96 = .ok (.istore 6, 2) := by decide +kernel
theorem dX10_wordAt_98 : decode cX10_wordAt 98 = .ok (.iinc 7 1, 3) := by decide +kernel
theorem dX10_wordAt_101 : decode cX10_wordAt 101 = .ok (.goto (-44), 3) := by decide +kernel
theorem dX10_wordAt_104 : decode cX10_wordAt 104 = .ok (.iload 6, 2) := by decide +kernel
theorem dX10_wordAt_106 : decode cX10_wordAt 106 = .ok (.ifCond .eq 5, 3) := by decide +kernel
theorem dX10_wordAt_109 : decode cX10_wordAt 109 = .ok (.iload_n 3, 1) := by decide +kernel
theorem dX10_wordAt_110 : decode cX10_wordAt 110 = .ok (.ireturn, 1) := by decide +kernel
theorem dX10_wordAt_111 : decode cX10_wordAt 111 = .ok (.iload 4, 2) := by decide +kernel
theorem dX10_wordAt_113 : decode cX10_wordAt 113 = .ok (.iload 5, 2) := by decide +kernel
theorem dX10_wordAt_115 : decode cX10_wordAt 115 = .ok (.iconst 1, 1) := by decide +kernel
theorem dX10_wordAt_116 : decode cX10_wordAt 116 = .ok (.iadd, 1) := by decide +kernel
theorem dX10_wordAt_117 : decode cX10_wordAt 117 = .ok (.iadd, 1) := by decide +kernel
theorem dX10_wordAt_118 : decode cX10_wordAt 118 = .ok (.istore 4, 2) := by decide +kernel
theorem dX10_wordAt_120 : decode cX10_wordAt 120 = .ok (.iinc 3 1, 3) := by decide +kernel
theorem dX10_wordAt_123 : decode cX10_wordAt 123 = .ok (.goto (-118), 3) := by decide +kernel
theorem dX10_wordAt_126 : decode cX10_wordAt 126 = .ok (.iconst (-1), 1) := by decide +kernel
theorem dX10_wordAt_127 : decode cX10_wordAt 127 = .ok (.ireturn, 1) := by decide +kernel
theorem dX10_isSmall_0 : decode cX10_isSmall 0 = .ok (.iload_n 1, 1) := by decide +kernel
theorem dX10_isSmall_1 : decode cX10_isSmall 1 = .ok (.aload_n 0, 1) := by decide +kernel
theorem dX10_isSmall_2 : decode cX10_isSmall 2 = .ok (.getfield 154, 3) := by decide +kernel
theorem dX10_isSmall_5 : decode cX10_isSmall 5 = .ok (.if_icmp .ge 29, 3) := by decide +kernel
theorem dX10_isSmall_8 : decode cX10_isSmall 8 = .ok (.aload_n 0, 1) := by decide +kernel
theorem dX10_isSmall_9 : decode cX10_isSmall 9 = .ok (.getfield 7, 3) := by decide +kernel
theorem dX10_isSmall_12 : decode cX10_isSmall 12 = .ok (.iload_n 1, 1) := by decide +kernel
theorem dX10_isSmall_13 : decode cX10_isSmall 13 = .ok (.iaload, 1) := by decide +kernel
theorem dX10_isSmall_14 : decode cX10_isSmall 14 = .ok (.bipush 97, 2) := by decide +kernel
theorem dX10_isSmall_16 : decode cX10_isSmall 16 = .ok (.if_icmp .lt 18, 3) := by decide +kernel
theorem dX10_isSmall_19 : decode cX10_isSmall 19 = .ok (.aload_n 0, 1) := by decide +kernel
theorem dX10_isSmall_20 : decode cX10_isSmall 20 = .ok (.getfield 7, 3) := by decide +kernel
theorem dX10_isSmall_23 : decode cX10_isSmall 23 = .ok (.iload_n 1, 1) := by decide +kernel
theorem dX10_isSmall_24 : decode cX10_isSmall 24 = .ok (.iaload, 1) := by decide +kernel
theorem dX10_isSmall_25 : decode cX10_isSmall 25 = .ok (.bipush 122, 2) := by decide +kernel
theorem dX10_isSmall_27 : decode cX10_isSmall 27 = .ok (.if_icmp .gt 7, 3) := by decide +kernel
theorem dX10_isSmall_30 : decode cX10_isSmall 30 = .ok (.iconst 1, 1) := by decide +kernel
theorem dX10_isSmall_31 : decode cX10_isSmall 31 = .ok (.goto 4, 3) := by decide +kernel
theorem dX10_isSmall_34 : decode cX10_isSmall 34 = .ok (.iconst 0, 1) := by decide +kernel
theorem dX10_isSmall_35 : decode cX10_isSmall 35 = .ok (.ireturn, 1) := by decide +kernel
theorem dX10_isDigit_0 : decode cX10_isDigit 0 = .ok (.iload_n 1, 1) := by decide +kernel
theorem dX10_isDigit_1 : decode cX10_isDigit 1 = .ok (.aload_n 0, 1) := by decide +kernel
theorem dX10_isDigit_2 : decode cX10_isDigit 2 = .ok (.getfield 154, 3) := by decide +kernel
theorem dX10_isDigit_5 : decode cX10_isDigit 5 = .ok (.if_icmp .ge 29, 3) := by decide +kernel
theorem dX10_isDigit_8 : decode cX10_isDigit 8 = .ok (.aload_n 0, 1) := by decide +kernel
theorem dX10_isDigit_9 : decode cX10_isDigit 9 = .ok (.getfield 7, 3) := by decide +kernel
theorem dX10_isDigit_12 : decode cX10_isDigit 12 = .ok (.iload_n 1, 1) := by decide +kernel
theorem dX10_isDigit_13 : decode cX10_isDigit 13 = .ok (.iaload, 1) := by decide +kernel
theorem dX10_isDigit_14 : decode cX10_isDigit 14 = .ok (.bipush 48, 2) := by decide +kernel
theorem dX10_isDigit_16 : decode cX10_isDigit 16 = .ok (.if_icmp .lt 18, 3) := by decide +kernel
theorem dX10_isDigit_19 : decode cX10_isDigit 19 = .ok (.aload_n 0, 1) := by decide +kernel
theorem dX10_isDigit_20 : decode cX10_isDigit 20 = .ok (.getfield 7, 3) := by decide +kernel
theorem dX10_isDigit_23 : decode cX10_isDigit 23 = .ok (.iload_n 1, 1) := by decide +kernel
theorem dX10_isDigit_24 : decode cX10_isDigit 24 = .ok (.iaload, 1) := by decide +kernel
theorem dX10_isDigit_25 : decode cX10_isDigit 25 = .ok (.bipush 57, 2) := by decide +kernel
theorem dX10_isDigit_27 : decode cX10_isDigit 27 = .ok (.if_icmp .gt 7, 3) := by decide +kernel
theorem dX10_isDigit_30 : decode cX10_isDigit 30 = .ok (.iconst 1, 1) := by decide +kernel
theorem dX10_isDigit_31 : decode cX10_isDigit 31 = .ok (.goto 4, 3) := by decide +kernel
theorem dX10_isDigit_34 : decode cX10_isDigit 34 = .ok (.iconst 0, 1) := by decide +kernel
theorem dX10_isDigit_35 : decode cX10_isDigit 35 = .ok (.ireturn, 1) := by decide +kernel
theorem dX10_take_0 : decode cX10_take 0 = .ok (.aload_n 0, 1) := by decide +kernel
theorem dX10_take_1 : decode cX10_take 1 = .ok (.getfield 157, 3) := by decide +kernel
theorem dX10_take_4 : decode cX10_take 4 = .ok (.aload_n 0, 1) := by decide +kernel
theorem dX10_take_5 : decode cX10_take 5 = .ok (.getfield 154, 3) := by decide +kernel
theorem dX10_take_8 : decode cX10_take 8 = .ok (.if_icmp .ge 44, 3) := by decide +kernel
theorem dX10_take_11 : decode cX10_take 11 = .ok (.aload_n 0, 1) := by decide +kernel
theorem dX10_take_12 : decode cX10_take 12 = .ok (.getfield 7, 3) := by decide +kernel
theorem dX10_take_15 : decode cX10_take 15 = .ok (.aload_n 0, 1) := by decide +kernel
theorem dX10_take_16 : decode cX10_take 16 = .ok (.getfield 157, 3) := by decide +kernel
theorem dX10_take_19 : decode cX10_take 19 = .ok (.iaload, 1) := by decide +kernel
theorem dX10_take_20 : decode cX10_take 20 = .ok (.bipush 10, 2) := by decide +kernel
theorem dX10_take_22 : decode cX10_take 22 = .ok (.if_icmp .eq 17, 3) := by decide +kernel
theorem dX10_take_25 : decode cX10_take 25 = .ok (.aload_n 0, 1) := by decide +kernel
theorem dX10_take_26 : decode cX10_take 26 = .ok (.getfield 7, 3) := by decide +kernel
theorem dX10_take_29 : decode cX10_take 29 = .ok (.aload_n 0, 1) := by decide +kernel
theorem dX10_take_30 : decode cX10_take 30 = .ok (.getfield 157, 3) := by decide +kernel
theorem dX10_take_33 : decode cX10_take 33 = .ok (.iaload, 1) := by decide +kernel
theorem dX10_take_34 : decode cX10_take 34 = .ok (.bipush 32, 2) := by decide +kernel
theorem dX10_take_36 : decode cX10_take 36 = .ok (.if_icmp .ne 16, 3) := by decide +kernel
theorem dX10_take_39 : decode cX10_take 39 = .ok (.aload_n 0, 1) := by decide +kernel
theorem dX10_take_40 : decode cX10_take 40 = .ok (.dup, 1) := by decide +kernel
theorem dX10_take_41 : decode cX10_take 41 = .ok (.getfield 157, 3) := by decide +kernel
theorem dX10_take_44 : decode cX10_take 44 = .ok (.iconst 1, 1) := by decide +kernel
theorem dX10_take_45 : decode cX10_take 45 = .ok (.iadd, 1) := by decide +kernel
theorem dX10_take_46 : decode cX10_take 46 = .ok (.putfield 157, 3) := by decide +kernel
theorem dX10_take_49 : decode cX10_take 49 = .ok (.goto (-49), 3) := by decide +kernel
theorem dX10_take_52 : decode cX10_take 52 = .ok (.aload_n 0, 1) := by decide +kernel
theorem dX10_take_53 : decode cX10_take 53 = .ok (.aload_n 0, 1) := by decide +kernel
theorem dX10_take_54 : decode cX10_take 54 = .ok (.getfield 157, 3) := by decide +kernel
theorem dX10_take_57 : decode cX10_take 57 = .ok (.putfield 160, 3) := by decide +kernel
theorem dX10_take_60 : decode cX10_take 60 = .ok (.aload_n 0, 1) := by decide +kernel
theorem dX10_take_61 : decode cX10_take 61 = .ok (.getfield 157, 3) := by decide +kernel
theorem dX10_take_64 : decode cX10_take 64 = .ok (.aload_n 0, 1) := by decide +kernel
theorem dX10_take_65 : decode cX10_take 65 = .ok (.getfield 154, 3) := by decide +kernel
theorem dX10_take_68 : decode cX10_take 68 = .ok (.if_icmp .ne 11, 3) := by decide +kernel
theorem dX10_take_71 : decode cX10_take 71 = .ok (.aload_n 0, 1) := by decide +kernel
theorem dX10_take_72 : decode cX10_take 72 = .ok (.iconst 0, 1) := by decide +kernel
theorem dX10_take_73 : decode cX10_take 73 = .ok (.putfield 163, 3) := by decide +kernel
theorem dX10_take_76 : decode cX10_take 76 = .ok (.goto 229, 3) := by decide +kernel
theorem dX10_take_79 : decode cX10_take 79 = .ok (.aload_n 0, 1) := by decide +kernel
theorem dX10_take_80 : decode cX10_take 80 = .ok (.aload_n 0, 1) := by decide +kernel
theorem dX10_take_81 : decode cX10_take 81 = .ok (.getfield 157, 3) := by decide +kernel
theorem dX10_take_84 : decode cX10_take 84 = .ok (.invokevirtual 166, 3) := by decide +kernel
theorem dX10_take_87 : decode cX10_take 87 = .ok (.ifCond .eq 63, 3) := by decide +kernel
theorem dX10_take_90 : decode cX10_take 90 = .ok (.aload_n 0, 1) := by decide +kernel
theorem dX10_take_91 : decode cX10_take 91 = .ok (.aload_n 0, 1) := by decide +kernel
theorem dX10_take_92 : decode cX10_take 92 = .ok (.getfield 157, 3) := by decide +kernel
theorem dX10_take_95 : decode cX10_take 95 = .ok (.invokevirtual 166, 3) := by decide +kernel
theorem dX10_take_98 : decode cX10_take 98 = .ok (.ifCond .eq 16, 3) := by decide +kernel
theorem dX10_take_101 : decode cX10_take 101 = .ok (.aload_n 0, 1) := by decide +kernel
theorem dX10_take_102 : decode cX10_take 102 = .ok (.dup, 1) := by decide +kernel
theorem dX10_take_103 : decode cX10_take 103 = .ok (.getfield 157, 3) := by decide +kernel
theorem dX10_take_106 : decode cX10_take 106 = .ok (.iconst 1, 1) := by decide +kernel
theorem dX10_take_107 : decode cX10_take 107 = .ok (.iadd, 1) := by decide +kernel
theorem dX10_take_108 : decode cX10_take 108 = .ok (.putfield 157, 3) := by decide +kernel
theorem dX10_take_111 : decode cX10_take 111 = .ok (.goto (-21), 3) := by decide +kernel
theorem dX10_take_114 : decode cX10_take 114 = .ok (.aload_n 0, 1) := by decide +kernel
theorem dX10_take_115 : decode cX10_take 115 = .ok (.aload_n 0, 1) := by decide +kernel
theorem dX10_take_116 : decode cX10_take 116 = .ok (.aload_n 0, 1) := by decide +kernel
theorem dX10_take_117 : decode cX10_take 117 = .ok (.getfield 160, 3) := by decide +kernel
theorem dX10_take_120 : decode cX10_take 120 = .ok (.aload_n 0, 1) := by decide +kernel
theorem dX10_take_121 : decode cX10_take 121 = .ok (.getfield 157, 3) := by decide +kernel
theorem dX10_take_124 : decode cX10_take 124 = .ok (.invokevirtual 170, 3) := by decide +kernel
theorem dX10_take_127 : decode cX10_take 127 = .ok (.putfield 173, 3) := by decide +kernel
theorem dX10_take_130 : decode cX10_take 130 = .ok (.aload_n 0, 1) := by decide +kernel
theorem dX10_take_131 : decode cX10_take 131 = .ok (.aload_n 0, 1) := by decide +kernel
theorem dX10_take_132 : decode cX10_take 132 = .ok (.getfield 173, 3) := by decide +kernel
theorem dX10_take_135 : decode cX10_take 135 = .ok (.ifCond .ge 8, 3) := by decide +kernel
theorem dX10_take_138 : decode cX10_take 138 = .ok (.bipush 6, 2) := by decide +kernel
theorem dX10_take_140 : decode cX10_take 140 = .ok (.goto 4, 3) := by decide +kernel
theorem dX10_take_143 : decode cX10_take 143 = .ok (.iconst 1, 1) := by decide +kernel
theorem dX10_take_144 : decode cX10_take 144 = .ok (.putfield 163, 3) := by decide +kernel
theorem dX10_take_147 : decode cX10_take 147 = .ok (.goto 158, 3) := by decide +kernel
theorem dX10_take_150 : decode cX10_take 150 = .ok (.aload_n 0, 1) := by decide +kernel
theorem dX10_take_151 : decode cX10_take 151 = .ok (.aload_n 0, 1) := by decide +kernel
theorem dX10_take_152 : decode cX10_take 152 = .ok (.getfield 157, 3) := by decide +kernel
theorem dX10_take_155 : decode cX10_take 155 = .ok (.invokevirtual 176, 3) := by decide +kernel
theorem dX10_take_158 : decode cX10_take 158 = .ok (.ifCond .eq 77, 3) := by decide +kernel
theorem dX10_take_161 : decode cX10_take 161 = .ok (.aload_n 0, 1) := by decide +kernel
theorem dX10_take_162 : decode cX10_take 162 = .ok (.iconst 3, 1) := by decide +kernel
theorem dX10_take_163 : decode cX10_take 163 = .ok (.putfield 163, 3) := by decide +kernel
theorem dX10_take_166 : decode cX10_take 166 = .ok (.aload_n 0, 1) := by decide +kernel
theorem dX10_take_167 : decode cX10_take 167 = .ok (.iconst 0, 1) := by decide +kernel
theorem dX10_take_168 : decode cX10_take 168 = .ok (.putfield 173, 3) := by decide +kernel
theorem dX10_take_171 : decode cX10_take 171 = .ok (.aload_n 0, 1) := by decide +kernel
theorem dX10_take_172 : decode cX10_take 172 = .ok (.aload_n 0, 1) := by decide +kernel
theorem dX10_take_173 : decode cX10_take 173 = .ok (.getfield 157, 3) := by decide +kernel
theorem dX10_take_176 : decode cX10_take 176 = .ok (.invokevirtual 176, 3) := by decide +kernel
theorem dX10_take_179 : decode cX10_take 179 = .ok (.ifCond .eq 126, 3) := by decide +kernel
theorem dX10_take_182 : decode cX10_take 182 = .ok (.aload_n 0, 1) := by decide +kernel
theorem dX10_take_183 : decode cX10_take 183 = .ok (.aload_n 0, 1) := by decide +kernel
theorem dX10_take_184 : decode cX10_take 184 = .ok (.getfield 173, 3) := by decide +kernel
theorem dX10_take_187 : decode cX10_take 187 = .ok (.ldc 179, 2) := by decide +kernel
theorem dX10_take_189 : decode cX10_take 189 = .ok (.if_icmp .le 10, 3) := by decide +kernel
theorem dX10_take_192 : decode cX10_take 192 = .ok (.aload_n 0, 1) := by decide +kernel
theorem dX10_take_193 : decode cX10_take 193 = .ok (.getfield 173, 3) := by decide +kernel
theorem dX10_take_196 : decode cX10_take 196 = .ok (.goto 23, 3) := by decide +kernel
theorem dX10_take_199 : decode cX10_take 199 = .ok (.bipush 10, 2) := by decide +kernel
theorem dX10_take_201 : decode cX10_take 201 = .ok (.aload_n 0, 1) := by decide +kernel
theorem dX10_take_202 : decode cX10_take 202 = .ok (.getfield 173, 3) := by decide +kernel
theorem dX10_take_205 : decode cX10_take 205 = .ok (.imul, 1) := by decide +kernel
theorem dX10_take_206 : decode cX10_take 206 = .ok (.aload_n 0, 1) := by decide +kernel
theorem dX10_take_207 : decode cX10_take 207 = .ok (.getfield 7, 3) := by decide +kernel
theorem dX10_take_210 : decode cX10_take 210 = .ok (.aload_n 0, 1) := by decide +kernel
theorem dX10_take_211 : decode cX10_take 211 = .ok (.getfield 157, 3) := by decide +kernel
theorem dX10_take_214 : decode cX10_take 214 = .ok (.iaload, 1) := by decide +kernel
theorem dX10_take_215 : decode cX10_take 215 = .ok (.iadd, 1) := by decide +kernel
theorem dX10_take_216 : decode cX10_take 216 = .ok (.bipush 48, 2) := by decide +kernel
theorem dX10_take_218 : decode cX10_take 218 = .ok (.isub, 1) := by decide +kernel
theorem dX10_take_219 : decode cX10_take 219 = .ok (.putfield 173, 3) := by decide +kernel
theorem dX10_take_222 : decode cX10_take 222 = .ok (.aload_n 0, 1) := by decide +kernel
theorem dX10_take_223 : decode cX10_take 223 = .ok (.dup, 1) := by decide +kernel
theorem dX10_take_224 : decode cX10_take 224 = .ok (.getfield 157, 3) := by decide +kernel
theorem dX10_take_227 : decode cX10_take 227 = .ok (.iconst 1, 1) := by decide +kernel
theorem dX10_take_228 : decode cX10_take 228 = .ok (.iadd, 1) := by decide +kernel
theorem dX10_take_229 : decode cX10_take 229 = .ok (.putfield 157, 3) := by decide +kernel
theorem dX10_take_232 : decode cX10_take 232 = .ok (.goto (-61), 3) := by decide +kernel
theorem dX10_take_235 : decode cX10_take 235 = .ok (.aload_n 0, 1) := by decide +kernel
theorem dX10_take_236 : decode cX10_take 236 = .ok (.getfield 7, 3) := by decide +kernel
theorem dX10_take_239 : decode cX10_take 239 = .ok (.aload_n 0, 1) := by decide +kernel
theorem dX10_take_240 : decode cX10_take 240 = .ok (.getfield 157, 3) := by decide +kernel
theorem dX10_take_243 : decode cX10_take 243 = .ok (.iaload, 1) := by decide +kernel
theorem dX10_take_244 : decode cX10_take 244 = .ok (.istore_n 1, 1) := by decide +kernel
theorem dX10_take_245 : decode cX10_take 245 = .ok (.aload_n 0, 1) := by decide +kernel
theorem dX10_take_246 : decode cX10_take 246 = .ok (.dup, 1) := by decide +kernel
theorem dX10_take_247 : decode cX10_take 247 = .ok (.getfield 157, 3) := by decide +kernel
theorem dX10_take_250 : decode cX10_take 250 = .ok (.iconst 1, 1) := by decide +kernel
theorem dX10_take_251 : decode cX10_take 251 = .ok (.iadd, 1) := by decide +kernel
theorem dX10_take_252 : decode cX10_take 252 = .ok (.putfield 157, 3) := by decide +kernel
theorem dX10_take_255 : decode cX10_take 255 = .ok (.aload_n 0, 1) := by decide +kernel
theorem dX10_take_256 : decode cX10_take 256 = .ok (.iload_n 1, 1) := by decide +kernel
theorem dX10_take_257 : decode cX10_take 257 = .ok (.bipush 65, 2) := by decide +kernel
theorem dX10_take_259 : decode cX10_take 259 = .ok (.isub, 1) := by decide +kernel
theorem dX10_take_260 : decode cX10_take 260 = .ok (.putfield 173, 3) := by decide +kernel
theorem dX10_take_263 : decode cX10_take 263 = .ok (.aload_n 0, 1) := by decide +kernel
theorem dX10_take_264 : decode cX10_take 264 = .ok (.iload_n 1, 1) := by decide +kernel
theorem dX10_take_265 : decode cX10_take 265 = .ok (.bipush 65, 2) := by decide +kernel
theorem dX10_take_267 : decode cX10_take 267 = .ok (.if_icmp .lt 13, 3) := by decide +kernel
theorem dX10_take_270 : decode cX10_take 270 = .ok (.iload_n 1, 1) := by decide +kernel
theorem dX10_take_271 : decode cX10_take 271 = .ok (.bipush 72, 2) := by decide +kernel
theorem dX10_take_273 : decode cX10_take 273 = .ok (.if_icmp .gt 7, 3) := by decide +kernel
theorem dX10_take_276 : decode cX10_take 276 = .ok (.iconst 2, 1) := by decide +kernel
theorem dX10_take_277 : decode cX10_take 277 = .ok (.goto 15, 3) := by decide +kernel
theorem dX10_take_280 : decode cX10_take 280 = .ok (.iload_n 1, 1) := by decide +kernel
theorem dX10_take_281 : decode cX10_take 281 = .ok (.bipush 59, 2) := by decide +kernel
theorem dX10_take_283 : decode cX10_take 283 = .ok (.if_icmp .ne 7, 3) := by decide +kernel
theorem dX10_take_286 : decode cX10_take 286 = .ok (.iconst 5, 1) := by decide +kernel
theorem dX10_take_287 : decode cX10_take 287 = .ok (.goto 5, 3) := by decide +kernel
theorem dX10_take_290 : decode cX10_take 290 = .ok (.bipush 6, 2) := by decide +kernel
theorem dX10_take_292 : decode cX10_take 292 = .ok (.putfield 163, 3) := by decide +kernel
theorem dX10_take_295 : decode cX10_take 295 = .ok (.iload_n 1, 1) := by decide +kernel
theorem dX10_take_296 : decode cX10_take 296 = .ok (.bipush 34, 2) := by decide +kernel
theorem dX10_take_298 : decode cX10_take 298 = .ok (.if_icmp .ne 7, 3) := by decide +kernel
theorem dX10_take_301 : decode cX10_take 301 = .ok (.aload_n 0, 1) := by decide +kernel
theorem dX10_take_302 : decode cX10_take 302 = .ok (.invokevirtual 180, 3) := by decide +kernel
theorem dX10_take_305 : decode cX10_take 305 = .ok (.return_, 1) := by decide +kernel
theorem dX10_string_0 : decode cX10_string 0 = .ok (.aload_n 0, 1) := by decide +kernel
theorem dX10_string_1 : decode cX10_string 1 = .ok (.getfield 157, 3) := by decide +kernel
theorem dX10_string_4 : decode cX10_string 4 = .ok (.aload_n 0, 1) := by decide +kernel
theorem dX10_string_5 : decode cX10_string 5 = .ok (.getfield 154, 3) := by decide +kernel
theorem dX10_string_8 : decode cX10_string 8 = .ok (.if_icmp .ge 58, 3) := by decide +kernel
theorem dX10_string_11 : decode cX10_string 11 = .ok (.aload_n 0, 1) := by decide +kernel
theorem dX10_string_12 : decode cX10_string 12 = .ok (.getfield 7, 3) := by decide +kernel
theorem dX10_string_15 : decode cX10_string 15 = .ok (.aload_n 0, 1) := by decide +kernel
theorem dX10_string_16 : decode cX10_string 16 = .ok (.getfield 157, 3) := by decide +kernel
theorem dX10_string_19 : decode cX10_string 19 = .ok (.iaload, 1) := by decide +kernel
theorem dX10_string_20 : decode cX10_string 20 = .ok (.bipush 32, 2) := by decide +kernel
theorem dX10_string_22 : decode cX10_string 22 = .ok (.if_icmp .lt 44, 3) := by decide +kernel
theorem dX10_string_25 : decode cX10_string 25 = .ok (.aload_n 0, 1) := by decide +kernel
theorem dX10_string_26 : decode cX10_string 26 = .ok (.getfield 7, 3) := by decide +kernel
theorem dX10_string_29 : decode cX10_string 29 = .ok (.aload_n 0, 1) := by decide +kernel
theorem dX10_string_30 : decode cX10_string 30 = .ok (.getfield 157, 3) := by decide +kernel
theorem dX10_string_33 : decode cX10_string 33 = .ok (.iaload, 1) := by decide +kernel
theorem dX10_string_34 : decode cX10_string 34 = .ok (.bipush 126, 2) := by decide +kernel
theorem dX10_string_36 : decode cX10_string 36 = .ok (.if_icmp .gt 30, 3) := by decide +kernel
theorem dX10_string_39 : decode cX10_string 39 = .ok (.aload_n 0, 1) := by decide +kernel
theorem dX10_string_40 : decode cX10_string 40 = .ok (.getfield 7, 3) := by decide +kernel
theorem dX10_string_43 : decode cX10_string 43 = .ok (.aload_n 0, 1) := by decide +kernel
theorem dX10_string_44 : decode cX10_string 44 = .ok (.getfield 157, 3) := by decide +kernel
theorem dX10_string_47 : decode cX10_string 47 = .ok (.iaload, 1) := by decide +kernel
theorem dX10_string_48 : decode cX10_string 48 = .ok (.bipush 34, 2) := by decide +kernel
theorem dX10_string_50 : decode cX10_string 50 = .ok (.if_icmp .eq 16, 3) := by decide +kernel
theorem dX10_string_53 : decode cX10_string 53 = .ok (.aload_n 0, 1) := by decide +kernel
theorem dX10_string_54 : decode cX10_string 54 = .ok (.dup, 1) := by decide +kernel
theorem dX10_string_55 : decode cX10_string 55 = .ok (.getfield 157, 3) := by decide +kernel
theorem dX10_string_58 : decode cX10_string 58 = .ok (.iconst 1, 1) := by decide +kernel
theorem dX10_string_59 : decode cX10_string 59 = .ok (.iadd, 1) := by decide +kernel
theorem dX10_string_60 : decode cX10_string 60 = .ok (.putfield 157, 3) := by decide +kernel
theorem dX10_string_63 : decode cX10_string 63 = .ok (.goto (-63), 3) := by decide +kernel
theorem dX10_string_66 : decode cX10_string 66 = .ok (.aload_n 0, 1) := by decide +kernel
theorem dX10_string_67 : decode cX10_string 67 = .ok (.aload_n 0, 1) := by decide +kernel
theorem dX10_string_68 : decode cX10_string 68 = .ok (.getfield 157, 3) := by decide +kernel
theorem dX10_string_71 : decode cX10_string 71 = .ok (.aload_n 0, 1) := by decide +kernel
theorem dX10_string_72 : decode cX10_string 72 = .ok (.getfield 154, 3) := by decide +kernel
theorem dX10_string_75 : decode cX10_string 75 = .ok (.if_icmp .ge 21, 3) := by decide +kernel
theorem dX10_string_78 : decode cX10_string 78 = .ok (.aload_n 0, 1) := by decide +kernel
theorem dX10_string_79 : decode cX10_string 79 = .ok (.getfield 7, 3) := by decide +kernel
theorem dX10_string_82 : decode cX10_string 82 = .ok (.aload_n 0, 1) := by decide +kernel
theorem dX10_string_83 : decode cX10_string 83 = .ok (.getfield 157, 3) := by decide +kernel
theorem dX10_string_86 : decode cX10_string 86 = .ok (.iaload, 1) := by decide +kernel
theorem dX10_string_87 : decode cX10_string 87 = .ok (.bipush 34, 2) := by decide +kernel
theorem dX10_string_89 : decode cX10_string 89 = .ok (.if_icmp .ne 7, 3) := by decide +kernel
theorem dX10_string_92 : decode cX10_string 92 = .ok (.iconst 4, 1) := by decide +kernel
theorem dX10_string_93 : decode cX10_string 93 = .ok (.goto 5, 3) := by decide +kernel
theorem dX10_string_96 : decode cX10_string 96 = .ok (.bipush 6, 2) := by decide +kernel
theorem dX10_string_98 : decode cX10_string 98 = .ok (.putfield 163, 3) := by decide +kernel
theorem dX10_string_101 : decode cX10_string 101 = .ok (.aload_n 0, 1) := by decide +kernel
theorem dX10_string_102 : decode cX10_string 102 = .ok (.dup, 1) := by decide +kernel
theorem dX10_string_103 : decode cX10_string 103 = .ok (.getfield 157, 3) := by decide +kernel
theorem dX10_string_106 : decode cX10_string 106 = .ok (.iconst 1, 1) := by decide +kernel
theorem dX10_string_107 : decode cX10_string 107 = .ok (.iadd, 1) := by decide +kernel
theorem dX10_string_108 : decode cX10_string 108 = .ok (.putfield 157, 3) := by decide +kernel
theorem dX10_string_111 : decode cX10_string 111 = .ok (.return_, 1) := by decide +kernel
theorem dX10_number_0 : decode cX10_number 0 = .ok (.aload_n 0, 1) := by decide +kernel
theorem dX10_number_1 : decode cX10_number 1 = .ok (.getfield 163, 3) := by decide +kernel
theorem dX10_number_4 : decode cX10_number 4 = .ok (.iconst 3, 1) := by decide +kernel
theorem dX10_number_5 : decode cX10_number 5 = .ok (.if_icmp .eq 13, 3) := by decide +kernel
theorem dX10_number_8 : decode cX10_number 8 = .ok (.aload_n 0, 1) := by decide +kernel
theorem dX10_number_9 : decode cX10_number 9 = .ok (.iconst 1, 1) := by decide +kernel
theorem dX10_number_10 : decode cX10_number 10 = .ok (.aload_n 0, 1) := by decide +kernel
theorem dX10_number_11 : decode cX10_number 11 = .ok (.getfield 160, 3) := by decide +kernel
theorem dX10_number_14 : decode cX10_number 14 = .ok (.invokevirtual 183, 3) := by decide +kernel
theorem dX10_number_17 : decode cX10_number 17 = .ok (.ireturn, 1) := by decide +kernel
theorem dX10_number_18 : decode cX10_number 18 = .ok (.aload_n 0, 1) := by decide +kernel
theorem dX10_number_19 : decode cX10_number 19 = .ok (.getfield 173, 3) := by decide +kernel
theorem dX10_number_22 : decode cX10_number 22 = .ok (.iload_n 1, 1) := by decide +kernel
theorem dX10_number_23 : decode cX10_number 23 = .ok (.if_icmp .lt 11, 3) := by decide +kernel
theorem dX10_number_26 : decode cX10_number 26 = .ok (.aload_n 0, 1) := by decide +kernel
theorem dX10_number_27 : decode cX10_number 27 = .ok (.getfield 173, 3) := by decide +kernel
theorem dX10_number_30 : decode cX10_number 30 = .ok (.iload_n 2, 1) := by decide +kernel
theorem dX10_number_31 : decode cX10_number 31 = .ok (.if_icmp .le 13, 3) := by decide +kernel
theorem dX10_number_34 : decode cX10_number 34 = .ok (.aload_n 0, 1) := by decide +kernel
theorem dX10_number_35 : decode cX10_number 35 = .ok (.iconst 2, 1) := by decide +kernel
theorem dX10_number_36 : decode cX10_number 36 = .ok (.aload_n 0, 1) := by decide +kernel
theorem dX10_number_37 : decode cX10_number 37 = .ok (.getfield 160, 3) := by decide +kernel
theorem dX10_number_40 : decode cX10_number 40 = .ok (.invokevirtual 183, 3) := by decide +kernel
theorem dX10_number_43 : decode cX10_number 43 = .ok (.ireturn, 1) := by decide +kernel
theorem dX10_number_44 : decode cX10_number 44 = .ok (.aload_n 0, 1) := by decide +kernel
theorem dX10_number_45 : decode cX10_number 45 = .ok (.aload_n 0, 1) := by decide +kernel
theorem dX10_number_46 : decode cX10_number 46 = .ok (.getfield 173, 3) := by decide +kernel
theorem dX10_number_49 : decode cX10_number 49 = .ok (.putfield 186, 3) := by decide +kernel
theorem dX10_number_52 : decode cX10_number 52 = .ok (.aload_n 0, 1) := by decide +kernel
theorem dX10_number_53 : decode cX10_number 53 = .ok (.invokevirtual 189, 3) := by decide +kernel
theorem dX10_number_56 : decode cX10_number 56 = .ok (.iconst 1, 1) := by decide +kernel
theorem dX10_number_57 : decode cX10_number 57 = .ok (.ireturn, 1) := by decide +kernel
theorem dX10_semi_0 : decode cX10_semi 0 = .ok (.aload_n 0, 1) := by decide +kernel
theorem dX10_semi_1 : decode cX10_semi 1 = .ok (.getfield 163, 3) := by decide +kernel
theorem dX10_semi_4 : decode cX10_semi 4 = .ok (.iconst 5, 1) := by decide +kernel
theorem dX10_semi_5 : decode cX10_semi 5 = .ok (.if_icmp .eq 13, 3) := by decide +kernel
theorem dX10_semi_8 : decode cX10_semi 8 = .ok (.aload_n 0, 1) := by decide +kernel
theorem dX10_semi_9 : decode cX10_semi 9 = .ok (.iconst 1, 1) := by decide +kernel
theorem dX10_semi_10 : decode cX10_semi 10 = .ok (.aload_n 0, 1) := by decide +kernel
theorem dX10_semi_11 : decode cX10_semi 11 = .ok (.getfield 160, 3) := by decide +kernel
theorem dX10_semi_14 : decode cX10_semi 14 = .ok (.invokevirtual 183, 3) := by decide +kernel
theorem dX10_semi_17 : decode cX10_semi 17 = .ok (.ireturn, 1) := by decide +kernel
theorem dX10_semi_18 : decode cX10_semi 18 = .ok (.aload_n 0, 1) := by decide +kernel
theorem dX10_semi_19 : decode cX10_semi 19 = .ok (.invokevirtual 189, 3) := by decide +kernel
theorem dX10_semi_22 : decode cX10_semi 22 = .ok (.iconst 1, 1) := by decide +kernel
theorem dX10_semi_23 : decode cX10_semi 23 = .ok (.ireturn, 1) := by decide +kernel
theorem dX10_areWords_0 : decode cX10_areWords 0 = .ok (.iload_n 1, 1) := by decide +kernel
theorem dX10_areWords_1 : decode cX10_areWords 1 = .ok (.istore_n 3, 1) := by decide +kernel
theorem dX10_areWords_2 : decode cX10_areWords 2 = .ok (.iload_n 3, 1) := by decide +kernel
theorem dX10_areWords_3 : decode cX10_areWords 3 = .ok (.iload_n 1, 1) := by decide +kernel
theorem dX10_areWords_4 : decode cX10_areWords 4 = .ok (.iload_n 2, 1) := by decide +kernel
theorem dX10_areWords_5 : decode cX10_areWords 5 = .ok (.iadd, 1) := by decide +kernel
theorem dX10_areWords_6 : decode cX10_areWords 6 = .ok (.if_icmp .ge 52, 3) := by decide +kernel
theorem dX10_areWords_9 : decode cX10_areWords 9 = .ok (.aload_n 0, 1) := by decide +kernel
theorem dX10_areWords_10 : decode cX10_areWords 10 = .ok (.getfield 7, 3) := by decide +kernel
theorem dX10_areWords_13 : decode cX10_areWords 13 = .ok (.iload_n 3, 1) := by decide +kernel
theorem dX10_areWords_14 : decode cX10_areWords 14 = .ok (.iaload, 1) := by decide +kernel
theorem dX10_areWords_15 : decode cX10_areWords 15 = .ok (.bipush 32, 2) := by decide +kernel
theorem dX10_areWords_17 : decode cX10_areWords 17 = .ok (.if_icmp .eq 6, 3) := by decide +kernel
theorem dX10_areWords_20 : decode cX10_areWords 20 = .ok (.goto 32, 3) := by decide +kernel
theorem dX10_areWords_23 : decode cX10_areWords 23 = .ok (.iload_n 3, 1) := by decide +kernel
theorem dX10_areWords_24 : decode cX10_areWords 24 = .ok (.iload_n 1, 1) := by decide +kernel
theorem dX10_areWords_25 : decode cX10_areWords 25 = .ok (.if_icmp .eq 25, 3) := by decide +kernel
theorem dX10_areWords_28 : decode cX10_areWords 28 = .ok (.iload_n 3, 1) := by decide +kernel
theorem dX10_areWords_29 : decode cX10_areWords 29 = .ok (.iload_n 1, 1) := by decide +kernel
theorem dX10_areWords_30 : decode cX10_areWords 30 = .ok (.iload_n 2, 1) := by decide +kernel
theorem dX10_areWords_31 : decode cX10_areWords 31 = .ok (.iadd, 1) := by decide +kernel
theorem dX10_areWords_32 : decode cX10_areWords 32 = .ok (.iconst 1, 1) := by decide +kernel
theorem dX10_areWords_33 : decode cX10_areWords 33 = .ok (.isub, 1) := by decide +kernel
theorem dX10_areWords_34 : decode cX10_areWords 34 = .ok (.if_icmp .eq 16, 3) := by decide +kernel
theorem dX10_areWords_37 : decode cX10_areWords 37 = .ok (.aload_n 0, 1) := by decide +kernel
theorem dX10_areWords_38 : decode cX10_areWords 38 = .ok (.getfield 7, 3) := by decide +kernel
theorem dX10_areWords_41 : decode cX10_areWords 41 = .ok (.iload_n 3, 1) := by decide +kernel
theorem dX10_areWords_42 : decode cX10_areWords 42 = .ok (.iconst 1, 1) := by decide +kernel
theorem dX10_areWords_43 : decode cX10_areWords 43 = .ok (.iadd, 1) := by decide +kernel
theorem dX10_areWords_44 : decode cX10_areWords 44 = .ok (.iaload, 1) := by decide +kernel
theorem dX10_areWords_45 : decode cX10_areWords 45 = .ok (.bipush 32, 2) := by decide +kernel
theorem dX10_areWords_47 : decode cX10_areWords 47 = .ok (.if_icmp .ne 5, 3) := by decide +kernel
theorem dX10_areWords_50 : decode cX10_areWords 50 = .ok (.iconst 0, 1) := by decide +kernel
theorem dX10_areWords_51 : decode cX10_areWords 51 = .ok (.ireturn, 1) := by decide +kernel
theorem dX10_areWords_52 : decode cX10_areWords 52 = .ok (.iinc 3 1, 3) := by decide +kernel
theorem dX10_areWords_55 : decode cX10_areWords 55 = .ok (.goto (-53), 3) := by decide +kernel
theorem dX10_areWords_58 : decode cX10_areWords 58 = .ok (.iconst 1, 1) := by decide +kernel
theorem dX10_areWords_59 : decode cX10_areWords 59 = .ok (.ireturn, 1) := by decide +kernel
theorem dX10_setting_0 : decode cX10_setting 0 = .ok (.aload_n 0, 1) := by decide +kernel
theorem dX10_setting_1 : decode cX10_setting 1 = .ok (.getfield 160, 3) := by decide +kernel
theorem dX10_setting_4 : decode cX10_setting 4 = .ok (.istore_n 1, 1) := by decide +kernel
theorem dX10_setting_5 : decode cX10_setting 5 = .ok (.aload_n 0, 1) := by decide +kernel
theorem dX10_setting_6 : decode cX10_setting 6 = .ok (.getfield 173, 3) := by decide +kernel
theorem dX10_setting_9 : decode cX10_setting 9 = .ok (.istore_n 2, 1) := by decide +kernel
theorem dX10_setting_10 : decode cX10_setting 10 = .ok (.aload_n 0, 1) := by decide +kernel
theorem dX10_setting_11 : decode cX10_setting 11 = .ok (.invokevirtual 189, 3) := by decide +kernel
theorem dX10_setting_14 : decode cX10_setting 14 = .ok (.iload_n 2, 1) := by decide +kernel
theorem dX10_setting_15 : decode cX10_setting 15 = .ok (.iconst 4, 1) := by decide +kernel
theorem dX10_setting_16 : decode cX10_setting 16 = .ok (.if_icmp .ne 42, 3) := by decide +kernel
theorem dX10_setting_19 : decode cX10_setting 19 = .ok (.aload_n 0, 1) := by decide +kernel
theorem dX10_setting_20 : decode cX10_setting 20 = .ok (.getfield 192, 3) := by decide +kernel
theorem dX10_setting_23 : decode cX10_setting 23 = .ok (.ifCond .le 10, 3) := by decide +kernel
theorem dX10_setting_26 : decode cX10_setting 26 = .ok (.aload_n 0, 1) := by decide +kernel
theorem dX10_setting_27 : decode cX10_setting 27 = .ok (.iconst 3, 1) := by decide +kernel
theorem dX10_setting_28 : decode cX10_setting 28 = .ok (.iload_n 1, 1) := by decide +kernel
theorem dX10_setting_29 : decode cX10_setting 29 = .ok (.invokevirtual 183, 3) := by decide +kernel
theorem dX10_setting_32 : decode cX10_setting 32 = .ok (.ireturn, 1) := by decide +kernel
theorem dX10_setting_33 : decode cX10_setting 33 = .ok (.aload_n 0, 1) := by decide +kernel
theorem dX10_setting_34 : decode cX10_setting 34 = .ok (.iconst 1, 1) := by decide +kernel
theorem dX10_setting_35 : decode cX10_setting 35 = .ok (.bipush 8, 2) := by decide +kernel
theorem dX10_setting_37 : decode cX10_setting 37 = .ok (.invokevirtual 195, 3) := by decide +kernel
theorem dX10_setting_40 : decode cX10_setting 40 = .ok (.ifCond .ne 5, 3) := by decide +kernel
theorem dX10_setting_43 : decode cX10_setting 43 = .ok (.iconst 0, 1) := by decide +kernel
theorem dX10_setting_44 : decode cX10_setting 44 = .ok (.ireturn, 1) := by decide +kernel
theorem dX10_setting_45 : decode cX10_setting 45 = .ok (.aload_n 0, 1) := by decide +kernel
theorem dX10_setting_46 : decode cX10_setting 46 = .ok (.aload_n 0, 1) := by decide +kernel
theorem dX10_setting_47 : decode cX10_setting 47 = .ok (.getfield 186, 3) := by decide +kernel
theorem dX10_setting_50 : decode cX10_setting 50 = .ok (.putfield 192, 3) := by decide +kernel
theorem dX10_setting_53 : decode cX10_setting 53 = .ok (.aload_n 0, 1) := by decide +kernel
theorem dX10_setting_54 : decode cX10_setting 54 = .ok (.invokevirtual 198, 3) := by decide +kernel
theorem dX10_setting_57 : decode cX10_setting 57 = .ok (.ireturn, 1) := by decide +kernel
theorem dX10_setting_58 : decode cX10_setting 58 = .ok (.aload_n 0, 1) := by decide +kernel
theorem dX10_setting_59 : decode cX10_setting 59 = .ok (.iconst 0, 1) := by decide +kernel
theorem dX10_setting_60 : decode cX10_setting 60 = .ok (.aload_n 0, 1) := by decide +kernel
theorem dX10_setting_61 : decode cX10_setting 61 = .ok (.getfield 202, 3) := by decide +kernel
theorem dX10_setting_64 : decode cX10_setting 64 = .ok (.iconst 1, 1) := by decide +kernel
theorem dX10_setting_65 : decode cX10_setting 65 = .ok (.isub, 1) := by decide +kernel
theorem dX10_setting_66 : decode cX10_setting 66 = .ok (.invokevirtual 195, 3) := by decide +kernel
theorem dX10_setting_69 : decode cX10_setting 69 = .ok (.ifCond .ne 5, 3) := by decide +kernel
theorem dX10_setting_72 : decode cX10_setting 72 = .ok (.iconst 0, 1) := by decide +kernel
theorem dX10_setting_73 : decode cX10_setting 73 = .ok (.ireturn, 1) := by decide +kernel
theorem dX10_setting_74 : decode cX10_setting 74 = .ok (.aload_n 0, 1) := by decide +kernel
theorem dX10_setting_75 : decode cX10_setting 75 = .ok (.getfield 186, 3) := by decide +kernel
theorem dX10_setting_78 : decode cX10_setting 78 = .ok (.istore_n 3, 1) := by decide +kernel
theorem dX10_setting_79 : decode cX10_setting 79 = .ok (.iload_n 2, 1) := by decide +kernel
theorem dX10_setting_80 : decode cX10_setting 80 = .ok (.iconst 2, 1) := by decide +kernel
theorem dX10_setting_81 : decode cX10_setting 81 = .ok (.if_icmp .ne 12, 3) := by decide +kernel
theorem dX10_setting_84 : decode cX10_setting 84 = .ok (.aload_n 0, 1) := by decide +kernel
theorem dX10_setting_85 : decode cX10_setting 85 = .ok (.getfield 86, 3) := by decide +kernel
theorem dX10_setting_88 : decode cX10_setting 88 = .ok (.iload_n 3, 1) := by decide +kernel
theorem dX10_setting_89 : decode cX10_setting 89 = .ok (.iaload, 1) := by decide +kernel
theorem dX10_setting_90 : decode cX10_setting 90 = .ok (.goto 9, 3) := by decide +kernel
theorem dX10_setting_93 : decode cX10_setting 93 = .ok (.aload_n 0, 1) := by decide +kernel
theorem dX10_setting_94 : decode cX10_setting 94 = .ok (.getfield 89, 3) := by decide +kernel
theorem dX10_setting_97 : decode cX10_setting 97 = .ok (.iload_n 3, 1) := by decide +kernel
theorem dX10_setting_98 : decode cX10_setting 98 = .ok (.iaload, 1) := by decide +kernel
theorem dX10_setting_99 : decode cX10_setting 99 = .ok (.ifCond .le 10, 3) := by decide +kernel
theorem dX10_setting_102 : decode cX10_setting 102 = .ok (.aload_n 0, 1) := by decide +kernel
theorem dX10_setting_103 : decode cX10_setting 103 = .ok (.iconst 3, 1) := by decide +kernel
theorem dX10_setting_104 : decode cX10_setting 104 = .ok (.iload_n 1, 1) := by decide +kernel
theorem dX10_setting_105 : decode cX10_setting 105 = .ok (.invokevirtual 183, 3) := by decide +kernel
theorem dX10_setting_108 : decode cX10_setting 108 = .ok (.ireturn, 1) := by decide +kernel
theorem dX10_setting_109 : decode cX10_setting 109 = .ok (.aload_n 0, 1) := by decide +kernel
theorem dX10_setting_110 : decode cX10_setting 110 = .ok (.iload_n 2, 1) := by decide +kernel
theorem dX10_setting_111 : decode cX10_setting 111 = .ok (.iconst 2, 1) := by decide +kernel
theorem dX10_setting_112 : decode cX10_setting 112 = .ok (.if_icmp .ne 7, 3) := by decide +kernel
theorem dX10_setting_115 : decode cX10_setting 115 = .ok (.iconst 4, 1) := by decide +kernel
theorem dX10_setting_116 : decode cX10_setting 116 = .ok (.goto 4, 3) := by decide +kernel
theorem dX10_setting_119 : decode cX10_setting 119 = .ok (.iconst 1, 1) := by decide +kernel
theorem dX10_setting_120 : decode cX10_setting 120 = .ok (.iload_n 2, 1) := by decide +kernel
theorem dX10_setting_121 : decode cX10_setting 121 = .ok (.iconst 2, 1) := by decide +kernel
theorem dX10_setting_122 : decode cX10_setting 122 = .ok (.if_icmp .ne 8, 3) := by decide +kernel
theorem dX10_setting_125 : decode cX10_setting 125 = .ok (.bipush 40, 2) := by decide +kernel
theorem dX10_setting_127 : decode cX10_setting 127 = .ok (.goto 5, 3) := by decide +kernel
theorem dX10_setting_130 : decode cX10_setting 130 = .ok (.bipush 20, 2) := by decide +kernel
theorem dX10_setting_132 : decode cX10_setting 132 = .ok (.invokevirtual 195, 3) := by decide +kernel
theorem dX10_setting_135 : decode cX10_setting 135 = .ok (.ifCond .ne 5, 3) := by decide +kernel
theorem dX10_setting_138 : decode cX10_setting 138 = .ok (.iconst 0, 1) := by decide +kernel
theorem dX10_setting_139 : decode cX10_setting 139 = .ok (.ireturn, 1) := by decide +kernel
theorem dX10_setting_140 : decode cX10_setting 140 = .ok (.iload_n 2, 1) := by decide +kernel
theorem dX10_setting_141 : decode cX10_setting 141 = .ok (.iconst 2, 1) := by decide +kernel
theorem dX10_setting_142 : decode cX10_setting 142 = .ok (.if_icmp .ne 16, 3) := by decide +kernel
theorem dX10_setting_145 : decode cX10_setting 145 = .ok (.aload_n 0, 1) := by decide +kernel
theorem dX10_setting_146 : decode cX10_setting 146 = .ok (.getfield 86, 3) := by decide +kernel
theorem dX10_setting_149 : decode cX10_setting 149 = .ok (.iload_n 3, 1) := by decide +kernel
theorem dX10_setting_150 : decode cX10_setting 150 = .ok (.aload_n 0, 1) := by decide +kernel
theorem dX10_setting_151 : decode cX10_setting 151 = .ok (.getfield 186, 3) := by decide +kernel
theorem dX10_setting_154 : decode cX10_setting 154 = .ok (.iastore, 1) := by decide +kernel
theorem dX10_setting_155 : decode cX10_setting 155 = .ok (.goto 13, 3) := by decide +kernel
theorem dX10_setting_158 : decode cX10_setting 158 = .ok (.aload_n 0, 1) := by decide +kernel
theorem dX10_setting_159 : decode cX10_setting 159 = .ok (.getfield 89, 3) := by decide +kernel
theorem dX10_setting_162 : decode cX10_setting 162 = .ok (.iload_n 3, 1) := by decide +kernel
theorem dX10_setting_163 : decode cX10_setting 163 = .ok (.aload_n 0, 1) := by decide +kernel
theorem dX10_setting_164 : decode cX10_setting 164 = .ok (.getfield 186, 3) := by decide +kernel
theorem dX10_setting_167 : decode cX10_setting 167 = .ok (.iastore, 1) := by decide +kernel
theorem dX10_setting_168 : decode cX10_setting 168 = .ok (.aload_n 0, 1) := by decide +kernel
theorem dX10_setting_169 : decode cX10_setting 169 = .ok (.invokevirtual 198, 3) := by decide +kernel
theorem dX10_setting_172 : decode cX10_setting 172 = .ok (.ireturn, 1) := by decide +kernel
theorem dX10_bar_0 : decode cX10_bar 0 = .ok (.aload_n 0, 1) := by decide +kernel
theorem dX10_bar_1 : decode cX10_bar 1 = .ok (.getfield 160, 3) := by decide +kernel
theorem dX10_bar_4 : decode cX10_bar 4 = .ok (.istore_n 1, 1) := by decide +kernel
theorem dX10_bar_5 : decode cX10_bar 5 = .ok (.aload_n 0, 1) := by decide +kernel
theorem dX10_bar_6 : decode cX10_bar 6 = .ok (.iconst 1, 1) := by decide +kernel
theorem dX10_bar_7 : decode cX10_bar 7 = .ok (.sipush 999, 3) := by decide +kernel
theorem dX10_bar_10 : decode cX10_bar 10 = .ok (.invokevirtual 195, 3) := by decide +kernel
theorem dX10_bar_13 : decode cX10_bar 13 = .ok (.ifCond .ne 5, 3) := by decide +kernel
theorem dX10_bar_16 : decode cX10_bar 16 = .ok (.iconst 0, 1) := by decide +kernel
theorem dX10_bar_17 : decode cX10_bar 17 = .ok (.ireturn, 1) := by decide +kernel
theorem dX10_bar_18 : decode cX10_bar 18 = .ok (.aload_n 0, 1) := by decide +kernel
theorem dX10_bar_19 : decode cX10_bar 19 = .ok (.getfield 205, 3) := by decide +kernel
theorem dX10_bar_22 : decode cX10_bar 22 = .ok (.ifCond .le 28, 3) := by decide +kernel
theorem dX10_bar_25 : decode cX10_bar 25 = .ok (.aload_n 0, 1) := by decide +kernel
theorem dX10_bar_26 : decode cX10_bar 26 = .ok (.getfield 186, 3) := by decide +kernel
theorem dX10_bar_29 : decode cX10_bar 29 = .ok (.aload_n 0, 1) := by decide +kernel
theorem dX10_bar_30 : decode cX10_bar 30 = .ok (.getfield 92, 3) := by decide +kernel
theorem dX10_bar_33 : decode cX10_bar 33 = .ok (.aload_n 0, 1) := by decide +kernel
theorem dX10_bar_34 : decode cX10_bar 34 = .ok (.getfield 205, 3) := by decide +kernel
theorem dX10_bar_37 : decode cX10_bar 37 = .ok (.iconst 1, 1) := by decide +kernel
theorem dX10_bar_38 : decode cX10_bar 38 = .ok (.isub, 1) := by decide +kernel
theorem dX10_bar_39 : decode cX10_bar 39 = .ok (.iaload, 1) := by decide +kernel
theorem dX10_bar_40 : decode cX10_bar 40 = .ok (.if_icmp .gt 10, 3) := by decide +kernel
theorem dX10_bar_43 : decode cX10_bar 43 = .ok (.aload_n 0, 1) := by decide +kernel
theorem dX10_bar_44 : decode cX10_bar 44 = .ok (.iconst 3, 1) := by decide +kernel
theorem dX10_bar_45 : decode cX10_bar 45 = .ok (.iload_n 1, 1) := by decide +kernel
theorem dX10_bar_46 : decode cX10_bar 46 = .ok (.invokevirtual 183, 3) := by decide +kernel
theorem dX10_bar_49 : decode cX10_bar 49 = .ok (.ireturn, 1) := by decide +kernel
theorem dX10_bar_50 : decode cX10_bar 50 = .ok (.aload_n 0, 1) := by decide +kernel
theorem dX10_bar_51 : decode cX10_bar 51 = .ok (.getfield 92, 3) := by decide +kernel
theorem dX10_bar_54 : decode cX10_bar 54 = .ok (.aload_n 0, 1) := by decide +kernel
theorem dX10_bar_55 : decode cX10_bar 55 = .ok (.getfield 205, 3) := by decide +kernel
theorem dX10_bar_58 : decode cX10_bar 58 = .ok (.aload_n 0, 1) := by decide +kernel
theorem dX10_bar_59 : decode cX10_bar 59 = .ok (.getfield 186, 3) := by decide +kernel
theorem dX10_bar_62 : decode cX10_bar 62 = .ok (.iastore, 1) := by decide +kernel
theorem dX10_bar_63 : decode cX10_bar 63 = .ok (.iconst 1, 1) := by decide +kernel
theorem dX10_bar_64 : decode cX10_bar 64 = .ok (.ireturn, 1) := by decide +kernel
theorem dX10_title_0 : decode cX10_title 0 = .ok (.aload_n 0, 1) := by decide +kernel
theorem dX10_title_1 : decode cX10_title 1 = .ok (.invokevirtual 208, 3) := by decide +kernel
theorem dX10_title_4 : decode cX10_title 4 = .ok (.ifCond .ne 5, 3) := by decide +kernel
theorem dX10_title_7 : decode cX10_title 7 = .ok (.iconst 0, 1) := by decide +kernel
theorem dX10_title_8 : decode cX10_title 8 = .ok (.ireturn, 1) := by decide +kernel
theorem dX10_title_9 : decode cX10_title 9 = .ok (.iconst 0, 1) := by decide +kernel
theorem dX10_title_10 : decode cX10_title 10 = .ok (.istore_n 1, 1) := by decide +kernel
theorem dX10_title_11 : decode cX10_title 11 = .ok (.iconst 1, 1) := by decide +kernel
theorem dX10_title_12 : decode cX10_title 12 = .ok (.istore_n 2, 1) := by decide +kernel
theorem dX10_title_13 : decode cX10_title 13 = .ok (.iload_n 2, 1) := by decide +kernel
theorem dX10_title_14 : decode cX10_title 14 = .ok (.ifCond .eq 140, 3) := by decide +kernel
theorem dX10_title_17 : decode cX10_title 17 = .ok (.aload_n 0, 1) := by decide +kernel
theorem dX10_title_18 : decode cX10_title 18 = .ok (.getfield 163, 3) := by decide +kernel
theorem dX10_title_21 : decode cX10_title 21 = .ok (.iconst 4, 1) := by decide +kernel
theorem dX10_title_22 : decode cX10_title 22 = .ok (.if_icmp .eq 13, 3) := by decide +kernel
theorem dX10_title_25 : decode cX10_title 25 = .ok (.aload_n 0, 1) := by decide +kernel
theorem dX10_title_26 : decode cX10_title 26 = .ok (.iconst 1, 1) := by decide +kernel
theorem dX10_title_27 : decode cX10_title 27 = .ok (.aload_n 0, 1) := by decide +kernel
theorem dX10_title_28 : decode cX10_title 28 = .ok (.getfield 160, 3) := by decide +kernel
theorem dX10_title_31 : decode cX10_title 31 = .ok (.invokevirtual 183, 3) := by decide +kernel
theorem dX10_title_34 : decode cX10_title 34 = .ok (.ireturn, 1) := by decide +kernel
theorem dX10_title_35 : decode cX10_title 35 = .ok (.aload_n 0, 1) := by decide +kernel
theorem dX10_title_36 : decode cX10_title 36 = .ok (.getfield 157, 3) := by decide +kernel
theorem dX10_title_39 : decode cX10_title 39 = .ok (.aload_n 0, 1) := by decide +kernel
theorem dX10_title_40 : decode cX10_title 40 = .ok (.getfield 160, 3) := by decide +kernel
theorem dX10_title_43 : decode cX10_title 43 = .ok (.isub, 1) := by decide +kernel
theorem dX10_title_44 : decode cX10_title 44 = .ok (.iconst 2, 1) := by decide +kernel
theorem dX10_title_45 : decode cX10_title 45 = .ok (.isub, 1) := by decide +kernel
theorem dX10_title_46 : decode cX10_title 46 = .ok (.istore_n 3, 1) := by decide +kernel
theorem dX10_title_47 : decode cX10_title 47 = .ok (.aload_n 0, 1) := by decide +kernel
theorem dX10_title_48 : decode cX10_title 48 = .ok (.aload_n 0, 1) := by decide +kernel
theorem dX10_title_49 : decode cX10_title 49 = .ok (.getfield 160, 3) := by decide +kernel
theorem dX10_title_52 : decode cX10_title 52 = .ok (.iconst 1, 1) := by decide +kernel
theorem dX10_title_53 : decode cX10_title 53 = .ok (.iadd, 1) := by decide +kernel
theorem dX10_title_54 : decode cX10_title 54 = .ok (.iload_n 3, 1) := by decide +kernel
theorem dX10_title_55 : decode cX10_title 55 = .ok (.invokevirtual 211, 3) := by decide +kernel
theorem dX10_title_58 : decode cX10_title 58 = .ok (.ifCond .eq 11, 3) := by decide +kernel
theorem dX10_title_61 : decode cX10_title 61 = .ok (.iload_n 1, 1) := by decide +kernel
theorem dX10_title_62 : decode cX10_title 62 = .ok (.ifCond .ne 17, 3) := by decide +kernel
theorem dX10_title_65 : decode cX10_title 65 = .ok (.iload_n 3, 1) := by decide +kernel
theorem dX10_title_66 : decode cX10_title 66 = .ok (.ifCond .ne 13, 3) := by decide +kernel
theorem dX10_title_69 : decode cX10_title 69 = .ok (.aload_n 0, 1) := by decide +kernel
theorem dX10_title_70 : decode cX10_title 70 = .ok (.iconst 1, 1) := by decide +kernel
theorem dX10_title_71 : decode cX10_title 71 = .ok (.aload_n 0, 1) := by decide +kernel
theorem dX10_title_72 : decode cX10_title 72 = .ok (.getfield 160, 3) := by decide +kernel
theorem dX10_title_75 : decode cX10_title 75 = .ok (.invokevirtual 183, 3) := by decide +kernel
theorem dX10_title_78 : decode cX10_title 78 = .ok (.ireturn, 1) := by decide +kernel
theorem dX10_title_79 : decode cX10_title 79 = .ok (.iload_n 1, 1) := by decide +kernel
theorem dX10_title_80 : decode cX10_title 80 = .ok (.aload_n 0, 1) := by decide +kernel
theorem dX10_title_81 : decode cX10_title 81 = .ok (.getfield 202, 3) := by decide +kernel
theorem dX10_title_84 : decode cX10_title 84 = .ok (.if_icmp .ne 13, 3) := by decide +kernel
theorem dX10_title_87 : decode cX10_title 87 = .ok (.aload_n 0, 1) := by decide +kernel
theorem dX10_title_88 : decode cX10_title 88 = .ok (.iconst 2, 1) := by decide +kernel
theorem dX10_title_89 : decode cX10_title 89 = .ok (.aload_n 0, 1) := by decide +kernel
theorem dX10_title_90 : decode cX10_title 90 = .ok (.getfield 160, 3) := by decide +kernel
theorem dX10_title_93 : decode cX10_title 93 = .ok (.invokevirtual 183, 3) := by decide +kernel
theorem dX10_title_96 : decode cX10_title 96 = .ok (.ireturn, 1) := by decide +kernel
theorem dX10_title_97 : decode cX10_title 97 = .ok (.aload_n 0, 1) := by decide +kernel
theorem dX10_title_98 : decode cX10_title 98 = .ok (.getfield 104, 3) := by decide +kernel
theorem dX10_title_101 : decode cX10_title 101 = .ok (.iconst 4, 1) := by decide +kernel
theorem dX10_title_102 : decode cX10_title 102 = .ok (.aload_n 0, 1) := by decide +kernel
theorem dX10_title_103 : decode cX10_title 103 = .ok (.getfield 214, 3) := by decide +kernel
theorem dX10_title_106 : decode cX10_title 106 = .ok (.imul, 1) := by decide +kernel
theorem dX10_title_107 : decode cX10_title 107 = .ok (.iload_n 1, 1) := by decide +kernel
theorem dX10_title_108 : decode cX10_title 108 = .ok (.iadd, 1) := by decide +kernel
theorem dX10_title_109 : decode cX10_title 109 = .ok (.aload_n 0, 1) := by decide +kernel
theorem dX10_title_110 : decode cX10_title 110 = .ok (.getfield 160, 3) := by decide +kernel
theorem dX10_title_113 : decode cX10_title 113 = .ok (.iconst 1, 1) := by decide +kernel
theorem dX10_title_114 : decode cX10_title 114 = .ok (.iadd, 1) := by decide +kernel
theorem dX10_title_115 : decode cX10_title 115 = .ok (.iastore, 1) := by decide +kernel
theorem dX10_title_116 : decode cX10_title 116 = .ok (.aload_n 0, 1) := by decide +kernel
theorem dX10_title_117 : decode cX10_title 117 = .ok (.getfield 107, 3) := by decide +kernel
theorem dX10_title_120 : decode cX10_title 120 = .ok (.iconst 4, 1) := by decide +kernel
theorem dX10_title_121 : decode cX10_title 121 = .ok (.aload_n 0, 1) := by decide +kernel
theorem dX10_title_122 : decode cX10_title 122 = .ok (.getfield 214, 3) := by decide +kernel
theorem dX10_title_125 : decode cX10_title 125 = .ok (.imul, 1) := by decide +kernel
theorem dX10_title_126 : decode cX10_title 126 = .ok (.iload_n 1, 1) := by decide +kernel
theorem dX10_title_127 : decode cX10_title 127 = .ok (.iadd, 1) := by decide +kernel
theorem dX10_title_128 : decode cX10_title 128 = .ok (.iload_n 3, 1) := by decide +kernel
theorem dX10_title_129 : decode cX10_title 129 = .ok (.iastore, 1) := by decide +kernel
theorem dX10_title_130 : decode cX10_title 130 = .ok (.iinc 1 1, 3) := by decide +kernel
theorem dX10_title_133 : decode cX10_title 133 = .ok (.aload_n 0, 1) := by decide +kernel
theorem dX10_title_134 : decode cX10_title 134 = .ok (.invokevirtual 189, 3) := by decide +kernel
theorem dX10_title_137 : decode cX10_title 137 = .ok (.aload_n 0, 1) := by decide +kernel
theorem dX10_title_138 : decode cX10_title 138 = .ok (.getfield 163, 3) := by decide +kernel
theorem dX10_title_141 : decode cX10_title 141 = .ok (.iconst 4, 1) := by decide +kernel
theorem dX10_title_142 : decode cX10_title 142 = .ok (.if_icmp .ne 7, 3) := by decide +kernel
theorem dX10_title_145 : decode cX10_title 145 = .ok (.iconst 1, 1) := by decide +kernel
theorem dX10_title_146 : decode cX10_title 146 = .ok (.goto 4, 3) := by decide +kernel
theorem dX10_title_149 : decode cX10_title 149 = .ok (.iconst 0, 1) := by decide +kernel
theorem dX10_title_150 : decode cX10_title 150 = .ok (.istore_n 2, 1) := by decide +kernel
theorem dX10_title_151 : decode cX10_title 151 = .ok (.goto (-138), 3) := by decide +kernel
theorem dX10_title_154 : decode cX10_title 154 = .ok (.iload_n 1, 1) := by decide +kernel
theorem dX10_title_155 : decode cX10_title 155 = .ok (.istore_n 3, 1) := by decide +kernel
theorem dX10_title_156 : decode cX10_title 156 = .ok (.iload_n 3, 1) := by decide +kernel
theorem dX10_title_157 : decode cX10_title 157 = .ok (.iconst 4, 1) := by decide +kernel
theorem dX10_title_158 : decode cX10_title 158 = .ok (.if_icmp .ge 23, 3) := by decide +kernel
theorem dX10_title_161 : decode cX10_title 161 = .ok (.aload_n 0, 1) := by decide +kernel
theorem dX10_title_162 : decode cX10_title 162 = .ok (.getfield 107, 3) := by decide +kernel
theorem dX10_title_165 : decode cX10_title 165 = .ok (.iconst 4, 1) := by decide +kernel
theorem dX10_title_166 : decode cX10_title 166 = .ok (.aload_n 0, 1) := by decide +kernel
theorem dX10_title_167 : decode cX10_title 167 = .ok (.getfield 214, 3) := by decide +kernel
theorem dX10_title_170 : decode cX10_title 170 = .ok (.imul, 1) := by decide +kernel
theorem dX10_title_171 : decode cX10_title 171 = .ok (.iload_n 3, 1) := by decide +kernel
theorem dX10_title_172 : decode cX10_title 172 = .ok (.iadd, 1) := by decide +kernel
theorem dX10_title_173 : decode cX10_title 173 = .ok (.iconst 0, 1) := by decide +kernel
theorem dX10_title_174 : decode cX10_title 174 = .ok (.iastore, 1) := by decide +kernel
theorem dX10_title_175 : decode cX10_title 175 = .ok (.iinc 3 1, 3) := by decide +kernel
theorem dX10_title_178 : decode cX10_title 178 = .ok (.goto (-22), 3) := by decide +kernel
theorem dX10_title_181 : decode cX10_title 181 = .ok (.aload_n 0, 1) := by decide +kernel
theorem dX10_title_182 : decode cX10_title 182 = .ok (.getfield 163, 3) := by decide +kernel
theorem dX10_title_185 : decode cX10_title 185 = .ok (.iconst 5, 1) := by decide +kernel
theorem dX10_title_186 : decode cX10_title 186 = .ok (.if_icmp .eq 13, 3) := by decide +kernel
theorem dX10_title_189 : decode cX10_title 189 = .ok (.aload_n 0, 1) := by decide +kernel
theorem dX10_title_190 : decode cX10_title 190 = .ok (.iconst 1, 1) := by decide +kernel
theorem dX10_title_191 : decode cX10_title 191 = .ok (.aload_n 0, 1) := by decide +kernel
theorem dX10_title_192 : decode cX10_title 192 = .ok (.getfield 160, 3) := by decide +kernel
theorem dX10_title_195 : decode cX10_title 195 = .ok (.invokevirtual 183, 3) := by decide +kernel
theorem dX10_title_198 : decode cX10_title 198 = .ok (.ireturn, 1) := by decide +kernel
theorem dX10_title_199 : decode cX10_title 199 = .ok (.iconst (-1), 1) := by decide +kernel
theorem dX10_title_200 : decode cX10_title 200 = .ok (.istore_n 3, 1) := by decide +kernel
theorem dX10_title_201 : decode cX10_title 201 = .ok (.iconst 0, 1) := by decide +kernel
theorem dX10_title_202 : decode cX10_title 202 = .ok (.istore 4, 2) := by decide +kernel
theorem dX10_title_204 : decode cX10_title 204 = .ok (.iload 4, 2) := by decide +kernel
theorem dX10_title_206 : decode cX10_title 206 = .ok (.aload_n 0, 1) := by decide +kernel
theorem dX10_title_207 : decode cX10_title 207 = .ok (.getfield 202, 3) := by decide +kernel
theorem dX10_title_210 : decode cX10_title 210 = .ok (.if_icmp .ge 147, 3) := by decide +kernel
theorem dX10_title_213 : decode cX10_title 213 = .ok (.iconst 4, 1) := by decide +kernel
theorem dX10_title_214 : decode cX10_title 214 = .ok (.aload_n 0, 1) := by decide +kernel
theorem dX10_title_215 : decode cX10_title 215 = .ok (.getfield 214, 3) := by decide +kernel
theorem dX10_title_218 : decode cX10_title 218 = .ok (.imul, 1) := by decide +kernel
theorem dX10_title_219 : decode cX10_title 219 = .ok (.aload_n 0, 1) := by decide +kernel
theorem dX10_title_220 : decode cX10_title 220 = .ok (.getfield 107, 3) := by decide +kernel
theorem dX10_title_223 : decode cX10_title 223 = .ok (.iconst 4, 1) := by decide +kernel
theorem dX10_title_224 : decode cX10_title 224 = .ok (.aload_n 0, 1) := by decide +kernel
theorem dX10_title_225 : decode cX10_title 225 = .ok (.getfield 214, 3) := by decide +kernel
theorem dX10_title_228 : decode cX10_title 228 = .ok (.imul, 1) := by decide +kernel
theorem dX10_title_229 : decode cX10_title 229 = .ok (.iload 4, 2) := by decide +kernel
theorem dX10_title_231 : decode cX10_title 231 = .ok (.iadd, 1) := by decide +kernel
end
section
theorem dX10_title_232 : decode cX10_title 232 = .ok (.iaload, 1) := by decide +kernel
theorem dX10_title_233 : decode cX10_title 233 = .ok (.ifCond .le 8, 3) := by decide +kernel
theorem dX10_title_236 : decode cX10_title 236 = .ok (.iload 4, 2) := by decide +kernel
theorem dX10_title_238 : decode cX10_title 238 = .ok (.goto 4, 3) := by decide +kernel
theorem dX10_title_241 : decode cX10_title 241 = .ok (.iconst 0, 1) := by decide +kernel
theorem dX10_title_242 : decode cX10_title 242 = .ok (.iadd, 1) := by decide +kernel
theorem dX10_title_243 : decode cX10_title 243 = .ok (.istore 5, 2) := by decide +kernel
theorem dX10_title_245 : decode cX10_title 245 = .ok (.iconst 0, 1) := by decide +kernel
theorem dX10_title_246 : decode cX10_title 246 = .ok (.istore 6, 2) := by decide +kernel
theorem dX10_title_248 : decode cX10_title 248 = .ok (.iload 6, 2) := by decide +kernel
theorem dX10_title_250 : decode cX10_title 250 = .ok (.aload_n 0, 1) := by decide +kernel
theorem dX10_title_251 : decode cX10_title 251 = .ok (.getfield 107, 3) := by decide +kernel
theorem dX10_title_254 : decode cX10_title 254 = .ok (.iload 5, 2) := by decide +kernel
theorem dX10_title_256 : decode cX10_title 256 = .ok (.iaload, 1) := by decide +kernel
theorem dX10_title_257 : decode cX10_title 257 = .ok (.if_icmp .ge 31, 3) := by decide +kernel
theorem dX10_title_260 : decode cX10_title 260 = .ok (.aload_n 0, 1) := by decide +kernel
theorem dX10_title_261 : decode cX10_title 261 = .ok (.getfield 68, 3) := by decide +kernel
theorem dX10_title_264 : decode cX10_title 264 = .ok (.iload 6, 2) := by decide +kernel
theorem dX10_title_266 : decode cX10_title 266 = .ok (.aload_n 0, 1) := by decide +kernel
theorem dX10_title_267 : decode cX10_title 267 = .ok (.getfield 7, 3) := by decide +kernel
theorem dX10_title_270 : decode cX10_title 270 = .ok (.aload_n 0, 1) := by decide +kernel
theorem dX10_title_271 : decode cX10_title 271 = .ok (.getfield 104, 3) := by decide +kernel
theorem dX10_title_274 : decode cX10_title 274 = .ok (.iload 5, 2) := by decide +kernel
theorem dX10_title_276 : decode cX10_title 276 = .ok (.iaload, 1) := by decide +kernel
theorem dX10_title_277 : decode cX10_title 277 = .ok (.iload 6, 2) := by decide +kernel
theorem dX10_title_279 : decode cX10_title 279 = .ok (.iadd, 1) := by decide +kernel
theorem dX10_title_280 : decode cX10_title 280 = .ok (.iaload, 1) := by decide +kernel
theorem dX10_title_281 : decode cX10_title 281 = .ok (.iastore, 1) := by decide +kernel
theorem dX10_title_282 : decode cX10_title 282 = .ok (.iinc 6 1, 3) := by decide +kernel
theorem dX10_title_285 : decode cX10_title 285 = .ok (.goto (-37), 3) := by decide +kernel
theorem dX10_title_288 : decode cX10_title 288 = .ok (.aload_n 0, 1) := by decide +kernel
theorem dX10_title_289 : decode cX10_title 289 = .ok (.aload_n 0, 1) := by decide +kernel
theorem dX10_title_290 : decode cX10_title 290 = .ok (.getfield 107, 3) := by decide +kernel
theorem dX10_title_293 : decode cX10_title 293 = .ok (.iload 5, 2) := by decide +kernel
theorem dX10_title_295 : decode cX10_title 295 = .ok (.iaload, 1) := by decide +kernel
theorem dX10_title_296 : decode cX10_title 296 = .ok (.aload_n 0, 1) := by decide +kernel
theorem dX10_title_297 : decode cX10_title 297 = .ok (.getfield 86, 3) := by decide +kernel
theorem dX10_title_300 : decode cX10_title 300 = .ok (.iload 4, 2) := by decide +kernel
theorem dX10_title_302 : decode cX10_title 302 = .ok (.iaload, 1) := by decide +kernel
theorem dX10_title_303 : decode cX10_title 303 = .ok (.ifCond .le 13, 3) := by decide +kernel
theorem dX10_title_306 : decode cX10_title 306 = .ok (.aload_n 0, 1) := by decide +kernel
theorem dX10_title_307 : decode cX10_title 307 = .ok (.getfield 86, 3) := by decide +kernel
theorem dX10_title_310 : decode cX10_title 310 = .ok (.iload 4, 2) := by decide +kernel
theorem dX10_title_312 : decode cX10_title 312 = .ok (.iaload, 1) := by decide +kernel
theorem dX10_title_313 : decode cX10_title 313 = .ok (.goto 5, 3) := by decide +kernel
theorem dX10_title_316 : decode cX10_title 316 = .ok (.bipush 20, 2) := by decide +kernel
theorem dX10_title_318 : decode cX10_title 318 = .ok (.invokevirtual 147, 3) := by decide +kernel
theorem dX10_title_321 : decode cX10_title 321 = .ok (.ifCond .ne 30, 3) := by decide +kernel
theorem dX10_title_324 : decode cX10_title 324 = .ok (.iload_n 3, 1) := by decide +kernel
theorem dX10_title_325 : decode cX10_title 325 = .ok (.ifCond .lt 16, 3) := by decide +kernel
theorem dX10_title_328 : decode cX10_title 328 = .ok (.aload_n 0, 1) := by decide +kernel
theorem dX10_title_329 : decode cX10_title 329 = .ok (.getfield 104, 3) := by decide +kernel
theorem dX10_title_332 : decode cX10_title 332 = .ok (.iload 5, 2) := by decide +kernel
theorem dX10_title_334 : decode cX10_title 334 = .ok (.iaload, 1) := by decide +kernel
theorem dX10_title_335 : decode cX10_title 335 = .ok (.iconst 1, 1) := by decide +kernel
theorem dX10_title_336 : decode cX10_title 336 = .ok (.isub, 1) := by decide +kernel
theorem dX10_title_337 : decode cX10_title 337 = .ok (.iload_n 3, 1) := by decide +kernel
theorem dX10_title_338 : decode cX10_title 338 = .ok (.if_icmp .ge 13, 3) := by decide +kernel
theorem dX10_title_341 : decode cX10_title 341 = .ok (.aload_n 0, 1) := by decide +kernel
theorem dX10_title_342 : decode cX10_title 342 = .ok (.getfield 104, 3) := by decide +kernel
theorem dX10_title_345 : decode cX10_title 345 = .ok (.iload 5, 2) := by decide +kernel
theorem dX10_title_347 : decode cX10_title 347 = .ok (.iaload, 1) := by decide +kernel
theorem dX10_title_348 : decode cX10_title 348 = .ok (.iconst 1, 1) := by decide +kernel
theorem dX10_title_349 : decode cX10_title 349 = .ok (.isub, 1) := by decide +kernel
theorem dX10_title_350 : decode cX10_title 350 = .ok (.istore_n 3, 1) := by decide +kernel
theorem dX10_title_351 : decode cX10_title 351 = .ok (.iinc 4 1, 3) := by decide +kernel
theorem dX10_title_354 : decode cX10_title 354 = .ok (.goto (-150), 3) := by decide +kernel
theorem dX10_title_357 : decode cX10_title 357 = .ok (.iload_n 3, 1) := by decide +kernel
theorem dX10_title_358 : decode cX10_title 358 = .ok (.ifCond .lt 10, 3) := by decide +kernel
theorem dX10_title_361 : decode cX10_title 361 = .ok (.aload_n 0, 1) := by decide +kernel
theorem dX10_title_362 : decode cX10_title 362 = .ok (.iconst 4, 1) := by decide +kernel
theorem dX10_title_363 : decode cX10_title 363 = .ok (.iload_n 3, 1) := by decide +kernel
theorem dX10_title_364 : decode cX10_title 364 = .ok (.invokevirtual 183, 3) := by decide +kernel
theorem dX10_title_367 : decode cX10_title 367 = .ok (.ireturn, 1) := by decide +kernel
theorem dX10_title_368 : decode cX10_title 368 = .ok (.aload_n 0, 1) := by decide +kernel
theorem dX10_title_369 : decode cX10_title 369 = .ok (.getfield 95, 3) := by decide +kernel
theorem dX10_title_372 : decode cX10_title 372 = .ok (.aload_n 0, 1) := by decide +kernel
theorem dX10_title_373 : decode cX10_title 373 = .ok (.getfield 205, 3) := by decide +kernel
theorem dX10_title_376 : decode cX10_title 376 = .ok (.aload_n 0, 1) := by decide +kernel
theorem dX10_title_377 : decode cX10_title 377 = .ok (.getfield 214, 3) := by decide +kernel
theorem dX10_title_380 : decode cX10_title 380 = .ok (.iastore, 1) := by decide +kernel
theorem dX10_title_381 : decode cX10_title 381 = .ok (.aload_n 0, 1) := by decide +kernel
theorem dX10_title_382 : decode cX10_title 382 = .ok (.dup, 1) := by decide +kernel
theorem dX10_title_383 : decode cX10_title 383 = .ok (.getfield 214, 3) := by decide +kernel
theorem dX10_title_386 : decode cX10_title 386 = .ok (.iconst 1, 1) := by decide +kernel
theorem dX10_title_387 : decode cX10_title 387 = .ok (.iadd, 1) := by decide +kernel
theorem dX10_title_388 : decode cX10_title 388 = .ok (.putfield 214, 3) := by decide +kernel
theorem dX10_title_391 : decode cX10_title 391 = .ok (.aload_n 0, 1) := by decide +kernel
theorem dX10_title_392 : decode cX10_title 392 = .ok (.dup, 1) := by decide +kernel
theorem dX10_title_393 : decode cX10_title 393 = .ok (.getfield 205, 3) := by decide +kernel
theorem dX10_title_396 : decode cX10_title 396 = .ok (.iconst 1, 1) := by decide +kernel
theorem dX10_title_397 : decode cX10_title 397 = .ok (.iadd, 1) := by decide +kernel
theorem dX10_title_398 : decode cX10_title 398 = .ok (.putfield 205, 3) := by decide +kernel
theorem dX10_title_401 : decode cX10_title 401 = .ok (.aload_n 0, 1) := by decide +kernel
theorem dX10_title_402 : decode cX10_title 402 = .ok (.invokevirtual 189, 3) := by decide +kernel
theorem dX10_title_405 : decode cX10_title 405 = .ok (.iconst 1, 1) := by decide +kernel
theorem dX10_title_406 : decode cX10_title 406 = .ok (.ireturn, 1) := by decide +kernel
theorem dX10_cutItem_0 : decode cX10_cutItem 0 = .ok (.aload_n 0, 1) := by decide +kernel
theorem dX10_cutItem_1 : decode cX10_cutItem 1 = .ok (.getfield 163, 3) := by decide +kernel
theorem dX10_cutItem_4 : decode cX10_cutItem 4 = .ok (.iconst 2, 1) := by decide +kernel
theorem dX10_cutItem_5 : decode cX10_cutItem 5 = .ok (.if_icmp .eq 13, 3) := by decide +kernel
theorem dX10_cutItem_8 : decode cX10_cutItem 8 = .ok (.aload_n 0, 1) := by decide +kernel
theorem dX10_cutItem_9 : decode cX10_cutItem 9 = .ok (.iconst 1, 1) := by decide +kernel
theorem dX10_cutItem_10 : decode cX10_cutItem 10 = .ok (.aload_n 0, 1) := by decide +kernel
theorem dX10_cutItem_11 : decode cX10_cutItem 11 = .ok (.getfield 160, 3) := by decide +kernel
theorem dX10_cutItem_14 : decode cX10_cutItem 14 = .ok (.invokevirtual 183, 3) := by decide +kernel
theorem dX10_cutItem_17 : decode cX10_cutItem 17 = .ok (.ireturn, 1) := by decide +kernel
theorem dX10_cutItem_18 : decode cX10_cutItem 18 = .ok (.aload_n 0, 1) := by decide +kernel
theorem dX10_cutItem_19 : decode cX10_cutItem 19 = .ok (.getfield 173, 3) := by decide +kernel
theorem dX10_cutItem_22 : decode cX10_cutItem 22 = .ok (.istore_n 1, 1) := by decide +kernel
theorem dX10_cutItem_23 : decode cX10_cutItem 23 = .ok (.aload_n 0, 1) := by decide +kernel
theorem dX10_cutItem_24 : decode cX10_cutItem 24 = .ok (.getfield 101, 3) := by decide +kernel
theorem dX10_cutItem_27 : decode cX10_cutItem 27 = .ok (.iload_n 1, 1) := by decide +kernel
theorem dX10_cutItem_28 : decode cX10_cutItem 28 = .ok (.iaload, 1) := by decide +kernel
theorem dX10_cutItem_29 : decode cX10_cutItem 29 = .ok (.ifCond .le 13, 3) := by decide +kernel
theorem dX10_cutItem_32 : decode cX10_cutItem 32 = .ok (.aload_n 0, 1) := by decide +kernel
theorem dX10_cutItem_33 : decode cX10_cutItem 33 = .ok (.iconst 3, 1) := by decide +kernel
theorem dX10_cutItem_34 : decode cX10_cutItem 34 = .ok (.aload_n 0, 1) := by decide +kernel
theorem dX10_cutItem_35 : decode cX10_cutItem 35 = .ok (.getfield 160, 3) := by decide +kernel
theorem dX10_cutItem_38 : decode cX10_cutItem 38 = .ok (.invokevirtual 183, 3) := by decide +kernel
theorem dX10_cutItem_41 : decode cX10_cutItem 41 = .ok (.ireturn, 1) := by decide +kernel
theorem dX10_cutItem_42 : decode cX10_cutItem 42 = .ok (.aload_n 0, 1) := by decide +kernel
theorem dX10_cutItem_43 : decode cX10_cutItem 43 = .ok (.invokevirtual 189, 3) := by decide +kernel
theorem dX10_cutItem_46 : decode cX10_cutItem 46 = .ok (.aload_n 0, 1) := by decide +kernel
theorem dX10_cutItem_47 : decode cX10_cutItem 47 = .ok (.iconst 1, 1) := by decide +kernel
theorem dX10_cutItem_48 : decode cX10_cutItem 48 = .ok (.sipush 999, 3) := by decide +kernel
theorem dX10_cutItem_51 : decode cX10_cutItem 51 = .ok (.invokevirtual 195, 3) := by decide +kernel
theorem dX10_cutItem_54 : decode cX10_cutItem 54 = .ok (.ifCond .ne 5, 3) := by decide +kernel
theorem dX10_cutItem_57 : decode cX10_cutItem 57 = .ok (.iconst 0, 1) := by decide +kernel
theorem dX10_cutItem_58 : decode cX10_cutItem 58 = .ok (.ireturn, 1) := by decide +kernel
theorem dX10_cutItem_59 : decode cX10_cutItem 59 = .ok (.aload_n 0, 1) := by decide +kernel
theorem dX10_cutItem_60 : decode cX10_cutItem 60 = .ok (.getfield 186, 3) := by decide +kernel
theorem dX10_cutItem_63 : decode cX10_cutItem 63 = .ok (.istore_n 2, 1) := by decide +kernel
theorem dX10_cutItem_64 : decode cX10_cutItem 64 = .ok (.aload_n 0, 1) := by decide +kernel
theorem dX10_cutItem_65 : decode cX10_cutItem 65 = .ok (.getfield 160, 3) := by decide +kernel
theorem dX10_cutItem_68 : decode cX10_cutItem 68 = .ok (.istore_n 3, 1) := by decide +kernel
theorem dX10_cutItem_69 : decode cX10_cutItem 69 = .ok (.aload_n 0, 1) := by decide +kernel
theorem dX10_cutItem_70 : decode cX10_cutItem 70 = .ok (.iconst 1, 1) := by decide +kernel
theorem dX10_cutItem_71 : decode cX10_cutItem 71 = .ok (.sipush 999, 3) := by decide +kernel
theorem dX10_cutItem_74 : decode cX10_cutItem 74 = .ok (.invokevirtual 195, 3) := by decide +kernel
theorem dX10_cutItem_77 : decode cX10_cutItem 77 = .ok (.ifCond .ne 5, 3) := by decide +kernel
theorem dX10_cutItem_80 : decode cX10_cutItem 80 = .ok (.iconst 0, 1) := by decide +kernel
theorem dX10_cutItem_81 : decode cX10_cutItem 81 = .ok (.ireturn, 1) := by decide +kernel
theorem dX10_cutItem_82 : decode cX10_cutItem 82 = .ok (.aload_n 0, 1) := by decide +kernel
theorem dX10_cutItem_83 : decode cX10_cutItem 83 = .ok (.getfield 186, 3) := by decide +kernel
theorem dX10_cutItem_86 : decode cX10_cutItem 86 = .ok (.iload_n 2, 1) := by decide +kernel
theorem dX10_cutItem_87 : decode cX10_cutItem 87 = .ok (.if_icmp .gt 10, 3) := by decide +kernel
theorem dX10_cutItem_90 : decode cX10_cutItem 90 = .ok (.aload_n 0, 1) := by decide +kernel
theorem dX10_cutItem_91 : decode cX10_cutItem 91 = .ok (.iconst 3, 1) := by decide +kernel
theorem dX10_cutItem_92 : decode cX10_cutItem 92 = .ok (.iload_n 3, 1) := by decide +kernel
theorem dX10_cutItem_93 : decode cX10_cutItem 93 = .ok (.invokevirtual 183, 3) := by decide +kernel
theorem dX10_cutItem_96 : decode cX10_cutItem 96 = .ok (.ireturn, 1) := by decide +kernel
theorem dX10_cutItem_97 : decode cX10_cutItem 97 = .ok (.aload_n 0, 1) := by decide +kernel
theorem dX10_cutItem_98 : decode cX10_cutItem 98 = .ok (.getfield 98, 3) := by decide +kernel
theorem dX10_cutItem_101 : decode cX10_cutItem 101 = .ok (.iload_n 1, 1) := by decide +kernel
theorem dX10_cutItem_102 : decode cX10_cutItem 102 = .ok (.iload_n 2, 1) := by decide +kernel
theorem dX10_cutItem_103 : decode cX10_cutItem 103 = .ok (.iastore, 1) := by decide +kernel
theorem dX10_cutItem_104 : decode cX10_cutItem 104 = .ok (.aload_n 0, 1) := by decide +kernel
theorem dX10_cutItem_105 : decode cX10_cutItem 105 = .ok (.getfield 101, 3) := by decide +kernel
theorem dX10_cutItem_108 : decode cX10_cutItem 108 = .ok (.iload_n 1, 1) := by decide +kernel
theorem dX10_cutItem_109 : decode cX10_cutItem 109 = .ok (.aload_n 0, 1) := by decide +kernel
theorem dX10_cutItem_110 : decode cX10_cutItem 110 = .ok (.getfield 186, 3) := by decide +kernel
theorem dX10_cutItem_113 : decode cX10_cutItem 113 = .ok (.iastore, 1) := by decide +kernel
theorem dX10_cutItem_114 : decode cX10_cutItem 114 = .ok (.aload_n 0, 1) := by decide +kernel
theorem dX10_cutItem_115 : decode cX10_cutItem 115 = .ok (.dup, 1) := by decide +kernel
theorem dX10_cutItem_116 : decode cX10_cutItem 116 = .ok (.getfield 217, 3) := by decide +kernel
theorem dX10_cutItem_119 : decode cX10_cutItem 119 = .ok (.iconst 1, 1) := by decide +kernel
theorem dX10_cutItem_120 : decode cX10_cutItem 120 = .ok (.iadd, 1) := by decide +kernel
theorem dX10_cutItem_121 : decode cX10_cutItem 121 = .ok (.putfield 217, 3) := by decide +kernel
theorem dX10_cutItem_124 : decode cX10_cutItem 124 = .ok (.aload_n 0, 1) := by decide +kernel
theorem dX10_cutItem_125 : decode cX10_cutItem 125 = .ok (.invokevirtual 198, 3) := by decide +kernel
theorem dX10_cutItem_128 : decode cX10_cutItem 128 = .ok (.ireturn, 1) := by decide +kernel
theorem dX10_item_0 : decode cX10_item 0 = .ok (.aload_n 0, 1) := by decide +kernel
theorem dX10_item_1 : decode cX10_item 1 = .ok (.getfield 163, 3) := by decide +kernel
theorem dX10_item_4 : decode cX10_item 4 = .ok (.iconst 1, 1) := by decide +kernel
theorem dX10_item_5 : decode cX10_item 5 = .ok (.if_icmp .ne 11, 3) := by decide +kernel
theorem dX10_item_8 : decode cX10_item 8 = .ok (.aload_n 0, 1) := by decide +kernel
theorem dX10_item_9 : decode cX10_item 9 = .ok (.getfield 173, 3) := by decide +kernel
theorem dX10_item_12 : decode cX10_item 12 = .ok (.iconst 5, 1) := by decide +kernel
theorem dX10_item_13 : decode cX10_item 13 = .ok (.if_icmp .ge 13, 3) := by decide +kernel
theorem dX10_item_16 : decode cX10_item 16 = .ok (.aload_n 0, 1) := by decide +kernel
theorem dX10_item_17 : decode cX10_item 17 = .ok (.iconst 1, 1) := by decide +kernel
theorem dX10_item_18 : decode cX10_item 18 = .ok (.aload_n 0, 1) := by decide +kernel
theorem dX10_item_19 : decode cX10_item 19 = .ok (.getfield 160, 3) := by decide +kernel
theorem dX10_item_22 : decode cX10_item 22 = .ok (.invokevirtual 183, 3) := by decide +kernel
theorem dX10_item_25 : decode cX10_item 25 = .ok (.ireturn, 1) := by decide +kernel
theorem dX10_item_26 : decode cX10_item 26 = .ok (.aload_n 0, 1) := by decide +kernel
theorem dX10_item_27 : decode cX10_item 27 = .ok (.getfield 173, 3) := by decide +kernel
theorem dX10_item_30 : decode cX10_item 30 = .ok (.bipush 7, 2) := by decide +kernel
theorem dX10_item_32 : decode cX10_item 32 = .ok (.if_icmp .ne 15, 3) := by decide +kernel
theorem dX10_item_35 : decode cX10_item 35 = .ok (.aload_n 0, 1) := by decide +kernel
theorem dX10_item_36 : decode cX10_item 36 = .ok (.getfield 217, 3) := by decide +kernel
theorem dX10_item_39 : decode cX10_item 39 = .ok (.bipush 8, 2) := by decide +kernel
theorem dX10_item_41 : decode cX10_item 41 = .ok (.if_icmp .ne 25, 3) := by decide +kernel
theorem dX10_item_44 : decode cX10_item 44 = .ok (.goto 12, 3) := by decide +kernel
theorem dX10_item_47 : decode cX10_item 47 = .ok (.aload_n 0, 1) := by decide +kernel
theorem dX10_item_48 : decode cX10_item 48 = .ok (.getfield 205, 3) := by decide +kernel
theorem dX10_item_51 : decode cX10_item 51 = .ok (.bipush 40, 2) := by decide +kernel
theorem dX10_item_53 : decode cX10_item 53 = .ok (.if_icmp .ne 13, 3) := by decide +kernel
theorem dX10_item_56 : decode cX10_item 56 = .ok (.aload_n 0, 1) := by decide +kernel
theorem dX10_item_57 : decode cX10_item 57 = .ok (.iconst 2, 1) := by decide +kernel
theorem dX10_item_58 : decode cX10_item 58 = .ok (.aload_n 0, 1) := by decide +kernel
theorem dX10_item_59 : decode cX10_item 59 = .ok (.getfield 160, 3) := by decide +kernel
theorem dX10_item_62 : decode cX10_item 62 = .ok (.invokevirtual 183, 3) := by decide +kernel
theorem dX10_item_65 : decode cX10_item 65 = .ok (.ireturn, 1) := by decide +kernel
theorem dX10_item_66 : decode cX10_item 66 = .ok (.aload_n 0, 1) := by decide +kernel
theorem dX10_item_67 : decode cX10_item 67 = .ok (.getfield 173, 3) := by decide +kernel
theorem dX10_item_70 : decode cX10_item 70 = .ok (.istore_n 1, 1) := by decide +kernel
theorem dX10_item_71 : decode cX10_item 71 = .ok (.aload_n 0, 1) := by decide +kernel
theorem dX10_item_72 : decode cX10_item 72 = .ok (.invokevirtual 189, 3) := by decide +kernel
theorem dX10_item_75 : decode cX10_item 75 = .ok (.iload_n 1, 1) := by decide +kernel
theorem dX10_item_76 : decode cX10_item 76 = .ok (.bipush 7, 2) := by decide +kernel
theorem dX10_item_78 : decode cX10_item 78 = .ok (.if_icmp .ne 8, 3) := by decide +kernel
theorem dX10_item_81 : decode cX10_item 81 = .ok (.aload_n 0, 1) := by decide +kernel
theorem dX10_item_82 : decode cX10_item 82 = .ok (.invokevirtual 220, 3) := by decide +kernel
theorem dX10_item_85 : decode cX10_item 85 = .ok (.ireturn, 1) := by decide +kernel
theorem dX10_item_86 : decode cX10_item 86 = .ok (.iload_n 1, 1) := by decide +kernel
theorem dX10_item_87 : decode cX10_item 87 = .ok (.iconst 5, 1) := by decide +kernel
theorem dX10_item_88 : decode cX10_item 88 = .ok (.if_icmp .ne 8, 3) := by decide +kernel
theorem dX10_item_91 : decode cX10_item 91 = .ok (.aload_n 0, 1) := by decide +kernel
theorem dX10_item_92 : decode cX10_item 92 = .ok (.invokevirtual 223, 3) := by decide +kernel
theorem dX10_item_95 : decode cX10_item 95 = .ok (.ireturn, 1) := by decide +kernel
theorem dX10_item_96 : decode cX10_item 96 = .ok (.aload_n 0, 1) := by decide +kernel
theorem dX10_item_97 : decode cX10_item 97 = .ok (.invokevirtual 208, 3) := by decide +kernel
theorem dX10_item_100 : decode cX10_item 100 = .ok (.ifCond .ne 5, 3) := by decide +kernel
theorem dX10_item_103 : decode cX10_item 103 = .ok (.iconst 0, 1) := by decide +kernel
theorem dX10_item_104 : decode cX10_item 104 = .ok (.ireturn, 1) := by decide +kernel
theorem dX10_item_105 : decode cX10_item 105 = .ok (.aload_n 0, 1) := by decide +kernel
theorem dX10_item_106 : decode cX10_item 106 = .ok (.getfield 95, 3) := by decide +kernel
theorem dX10_item_109 : decode cX10_item 109 = .ok (.aload_n 0, 1) := by decide +kernel
theorem dX10_item_110 : decode cX10_item 110 = .ok (.getfield 205, 3) := by decide +kernel
theorem dX10_item_113 : decode cX10_item 113 = .ok (.iconst (-1), 1) := by decide +kernel
theorem dX10_item_114 : decode cX10_item 114 = .ok (.iastore, 1) := by decide +kernel
theorem dX10_item_115 : decode cX10_item 115 = .ok (.aload_n 0, 1) := by decide +kernel
theorem dX10_item_116 : decode cX10_item 116 = .ok (.dup, 1) := by decide +kernel
theorem dX10_item_117 : decode cX10_item 117 = .ok (.getfield 205, 3) := by decide +kernel
theorem dX10_item_120 : decode cX10_item 120 = .ok (.iconst 1, 1) := by decide +kernel
theorem dX10_item_121 : decode cX10_item 121 = .ok (.iadd, 1) := by decide +kernel
theorem dX10_item_122 : decode cX10_item 122 = .ok (.putfield 205, 3) := by decide +kernel
theorem dX10_item_125 : decode cX10_item 125 = .ok (.aload_n 0, 1) := by decide +kernel
theorem dX10_item_126 : decode cX10_item 126 = .ok (.invokevirtual 198, 3) := by decide +kernel
theorem dX10_item_129 : decode cX10_item 129 = .ok (.ireturn, 1) := by decide +kernel
theorem dX10_reads_0 : decode cX10_reads 0 = .ok (.iconst 0, 1) := by decide +kernel
theorem dX10_reads_1 : decode cX10_reads 1 = .ok (.istore_n 1, 1) := by decide +kernel
theorem dX10_reads_2 : decode cX10_reads 2 = .ok (.iload_n 1, 1) := by decide +kernel
theorem dX10_reads_3 : decode cX10_reads 3 = .ok (.iconst 4, 1) := by decide +kernel
theorem dX10_reads_4 : decode cX10_reads 4 = .ok (.if_icmp .ge 23, 3) := by decide +kernel
theorem dX10_reads_7 : decode cX10_reads 7 = .ok (.aload_n 0, 1) := by decide +kernel
theorem dX10_reads_8 : decode cX10_reads 8 = .ok (.getfield 86, 3) := by decide +kernel
theorem dX10_reads_11 : decode cX10_reads 11 = .ok (.iload_n 1, 1) := by decide +kernel
theorem dX10_reads_12 : decode cX10_reads 12 = .ok (.iconst 0, 1) := by decide +kernel
theorem dX10_reads_13 : decode cX10_reads 13 = .ok (.iastore, 1) := by decide +kernel
theorem dX10_reads_14 : decode cX10_reads 14 = .ok (.aload_n 0, 1) := by decide +kernel
theorem dX10_reads_15 : decode cX10_reads 15 = .ok (.getfield 89, 3) := by decide +kernel
theorem dX10_reads_18 : decode cX10_reads 18 = .ok (.iload_n 1, 1) := by decide +kernel
theorem dX10_reads_19 : decode cX10_reads 19 = .ok (.iconst 0, 1) := by decide +kernel
theorem dX10_reads_20 : decode cX10_reads 20 = .ok (.iastore, 1) := by decide +kernel
theorem dX10_reads_21 : decode cX10_reads 21 = .ok (.iinc 1 1, 3) := by decide +kernel
theorem dX10_reads_24 : decode cX10_reads 24 = .ok (.goto (-22), 3) := by decide +kernel
theorem dX10_reads_27 : decode cX10_reads 27 = .ok (.iconst 0, 1) := by decide +kernel
theorem dX10_reads_28 : decode cX10_reads 28 = .ok (.istore_n 1, 1) := by decide +kernel
theorem dX10_reads_29 : decode cX10_reads 29 = .ok (.iload_n 1, 1) := by decide +kernel
theorem dX10_reads_30 : decode cX10_reads 30 = .ok (.bipush 8, 2) := by decide +kernel
theorem dX10_reads_32 : decode cX10_reads 32 = .ok (.if_icmp .ge 16, 3) := by decide +kernel
theorem dX10_reads_35 : decode cX10_reads 35 = .ok (.aload_n 0, 1) := by decide +kernel
theorem dX10_reads_36 : decode cX10_reads 36 = .ok (.getfield 101, 3) := by decide +kernel
theorem dX10_reads_39 : decode cX10_reads 39 = .ok (.iload_n 1, 1) := by decide +kernel
theorem dX10_reads_40 : decode cX10_reads 40 = .ok (.iconst 0, 1) := by decide +kernel
theorem dX10_reads_41 : decode cX10_reads 41 = .ok (.iastore, 1) := by decide +kernel
theorem dX10_reads_42 : decode cX10_reads 42 = .ok (.iinc 1 1, 3) := by decide +kernel
theorem dX10_reads_45 : decode cX10_reads 45 = .ok (.goto (-16), 3) := by decide +kernel
theorem dX10_reads_48 : decode cX10_reads 48 = .ok (.aload_n 0, 1) := by decide +kernel
theorem dX10_reads_49 : decode cX10_reads 49 = .ok (.iconst 0, 1) := by decide +kernel
theorem dX10_reads_50 : decode cX10_reads 50 = .ok (.putfield 192, 3) := by decide +kernel
theorem dX10_reads_53 : decode cX10_reads 53 = .ok (.aload_n 0, 1) := by decide +kernel
theorem dX10_reads_54 : decode cX10_reads 54 = .ok (.iconst 0, 1) := by decide +kernel
theorem dX10_reads_55 : decode cX10_reads 55 = .ok (.putfield 205, 3) := by decide +kernel
theorem dX10_reads_58 : decode cX10_reads 58 = .ok (.aload_n 0, 1) := by decide +kernel
theorem dX10_reads_59 : decode cX10_reads 59 = .ok (.iconst 0, 1) := by decide +kernel
theorem dX10_reads_60 : decode cX10_reads 60 = .ok (.putfield 214, 3) := by decide +kernel
theorem dX10_reads_63 : decode cX10_reads 63 = .ok (.aload_n 0, 1) := by decide +kernel
theorem dX10_reads_64 : decode cX10_reads 64 = .ok (.iconst 0, 1) := by decide +kernel
theorem dX10_reads_65 : decode cX10_reads 65 = .ok (.putfield 217, 3) := by decide +kernel
theorem dX10_reads_68 : decode cX10_reads 68 = .ok (.aload_n 0, 1) := by decide +kernel
theorem dX10_reads_69 : decode cX10_reads 69 = .ok (.iconst 0, 1) := by decide +kernel
theorem dX10_reads_70 : decode cX10_reads 70 = .ok (.putfield 157, 3) := by decide +kernel
theorem dX10_reads_73 : decode cX10_reads 73 = .ok (.aload_n 0, 1) := by decide +kernel
theorem dX10_reads_74 : decode cX10_reads 74 = .ok (.invokevirtual 189, 3) := by decide +kernel
theorem dX10_reads_77 : decode cX10_reads 77 = .ok (.aload_n 0, 1) := by decide +kernel
theorem dX10_reads_78 : decode cX10_reads 78 = .ok (.getfield 163, 3) := by decide +kernel
theorem dX10_reads_81 : decode cX10_reads 81 = .ok (.iconst 1, 1) := by decide +kernel
theorem dX10_reads_82 : decode cX10_reads 82 = .ok (.if_icmp .ne 11, 3) := by decide +kernel
theorem dX10_reads_85 : decode cX10_reads 85 = .ok (.aload_n 0, 1) := by decide +kernel
theorem dX10_reads_86 : decode cX10_reads 86 = .ok (.getfield 173, 3) := by decide +kernel
theorem dX10_reads_89 : decode cX10_reads 89 = .ok (.iconst 1, 1) := by decide +kernel
theorem dX10_reads_90 : decode cX10_reads 90 = .ok (.if_icmp .eq 13, 3) := by decide +kernel
theorem dX10_reads_93 : decode cX10_reads 93 = .ok (.aload_n 0, 1) := by decide +kernel
theorem dX10_reads_94 : decode cX10_reads 94 = .ok (.iconst 1, 1) := by decide +kernel
theorem dX10_reads_95 : decode cX10_reads 95 = .ok (.aload_n 0, 1) := by decide +kernel
theorem dX10_reads_96 : decode cX10_reads 96 = .ok (.getfield 160, 3) := by decide +kernel
theorem dX10_reads_99 : decode cX10_reads 99 = .ok (.invokevirtual 183, 3) := by decide +kernel
theorem dX10_reads_102 : decode cX10_reads 102 = .ok (.ireturn, 1) := by decide +kernel
theorem dX10_reads_103 : decode cX10_reads 103 = .ok (.aload_n 0, 1) := by decide +kernel
theorem dX10_reads_104 : decode cX10_reads 104 = .ok (.invokevirtual 189, 3) := by decide +kernel
theorem dX10_reads_107 : decode cX10_reads 107 = .ok (.aload_n 0, 1) := by decide +kernel
theorem dX10_reads_108 : decode cX10_reads 108 = .ok (.iconst 1, 1) := by decide +kernel
theorem dX10_reads_109 : decode cX10_reads 109 = .ok (.iconst 4, 1) := by decide +kernel
theorem dX10_reads_110 : decode cX10_reads 110 = .ok (.invokevirtual 195, 3) := by decide +kernel
theorem dX10_reads_113 : decode cX10_reads 113 = .ok (.ifCond .ne 5, 3) := by decide +kernel
theorem dX10_reads_116 : decode cX10_reads 116 = .ok (.iconst 0, 1) := by decide +kernel
theorem dX10_reads_117 : decode cX10_reads 117 = .ok (.ireturn, 1) := by decide +kernel
theorem dX10_reads_118 : decode cX10_reads 118 = .ok (.aload_n 0, 1) := by decide +kernel
theorem dX10_reads_119 : decode cX10_reads 119 = .ok (.aload_n 0, 1) := by decide +kernel
theorem dX10_reads_120 : decode cX10_reads 120 = .ok (.getfield 186, 3) := by decide +kernel
theorem dX10_reads_123 : decode cX10_reads 123 = .ok (.putfield 202, 3) := by decide +kernel
theorem dX10_reads_126 : decode cX10_reads 126 = .ok (.aload_n 0, 1) := by decide +kernel
theorem dX10_reads_127 : decode cX10_reads 127 = .ok (.invokevirtual 198, 3) := by decide +kernel
theorem dX10_reads_130 : decode cX10_reads 130 = .ok (.ifCond .ne 5, 3) := by decide +kernel
theorem dX10_reads_133 : decode cX10_reads 133 = .ok (.iconst 0, 1) := by decide +kernel
theorem dX10_reads_134 : decode cX10_reads 134 = .ok (.ireturn, 1) := by decide +kernel
theorem dX10_reads_135 : decode cX10_reads 135 = .ok (.aload_n 0, 1) := by decide +kernel
theorem dX10_reads_136 : decode cX10_reads 136 = .ok (.getfield 163, 3) := by decide +kernel
theorem dX10_reads_139 : decode cX10_reads 139 = .ok (.iconst 1, 1) := by decide +kernel
theorem dX10_reads_140 : decode cX10_reads 140 = .ok (.if_icmp .ne 28, 3) := by decide +kernel
theorem dX10_reads_143 : decode cX10_reads 143 = .ok (.aload_n 0, 1) := by decide +kernel
theorem dX10_reads_144 : decode cX10_reads 144 = .ok (.getfield 173, 3) := by decide +kernel
theorem dX10_reads_147 : decode cX10_reads 147 = .ok (.iconst 2, 1) := by decide +kernel
theorem dX10_reads_148 : decode cX10_reads 148 = .ok (.if_icmp .lt 20, 3) := by decide +kernel
theorem dX10_reads_151 : decode cX10_reads 151 = .ok (.aload_n 0, 1) := by decide +kernel
theorem dX10_reads_152 : decode cX10_reads 152 = .ok (.getfield 173, 3) := by decide +kernel
theorem dX10_reads_155 : decode cX10_reads 155 = .ok (.iconst 4, 1) := by decide +kernel
theorem dX10_reads_156 : decode cX10_reads 156 = .ok (.if_icmp .gt 12, 3) := by decide +kernel
theorem dX10_reads_159 : decode cX10_reads 159 = .ok (.aload_n 0, 1) := by decide +kernel
theorem dX10_reads_160 : decode cX10_reads 160 = .ok (.invokevirtual 226, 3) := by decide +kernel
theorem dX10_reads_163 : decode cX10_reads 163 = .ok (.ifCond .ne (-28), 3) := by decide +kernel
theorem dX10_reads_166 : decode cX10_reads 166 = .ok (.iconst 0, 1) := by decide +kernel
theorem dX10_reads_167 : decode cX10_reads 167 = .ok (.ireturn, 1) := by decide +kernel
theorem dX10_reads_168 : decode cX10_reads 168 = .ok (.aload_n 0, 1) := by decide +kernel
theorem dX10_reads_169 : decode cX10_reads 169 = .ok (.getfield 163, 3) := by decide +kernel
theorem dX10_reads_172 : decode cX10_reads 172 = .ok (.ifCond .eq 12, 3) := by decide +kernel
theorem dX10_reads_175 : decode cX10_reads 175 = .ok (.aload_n 0, 1) := by decide +kernel
theorem dX10_reads_176 : decode cX10_reads 176 = .ok (.invokevirtual 229, 3) := by decide +kernel
theorem dX10_reads_179 : decode cX10_reads 179 = .ok (.ifCond .ne (-11), 3) := by decide +kernel
theorem dX10_reads_182 : decode cX10_reads 182 = .ok (.iconst 0, 1) := by decide +kernel
theorem dX10_reads_183 : decode cX10_reads 183 = .ok (.ireturn, 1) := by decide +kernel
theorem dX10_reads_184 : decode cX10_reads 184 = .ok (.iconst 1, 1) := by decide +kernel
theorem dX10_reads_185 : decode cX10_reads 185 = .ok (.ireturn, 1) := by decide +kernel
theorem dX10_text_0 : decode cX10_text 0 = .ok (.aload_n 0, 1) := by decide +kernel
theorem dX10_text_1 : decode cX10_text 1 = .ok (.iconst 0, 1) := by decide +kernel
theorem dX10_text_2 : decode cX10_text 2 = .ok (.putfield 113, 3) := by decide +kernel
theorem dX10_text_5 : decode cX10_text 5 = .ok (.iload_n 1, 1) := by decide +kernel
theorem dX10_text_6 : decode cX10_text 6 = .ok (.ifCond .lt 11, 3) := by decide +kernel
theorem dX10_text_9 : decode cX10_text 9 = .ok (.iload_n 1, 1) := by decide +kernel
theorem dX10_text_10 : decode cX10_text 10 = .ok (.aload_n 0, 1) := by decide +kernel
theorem dX10_text_11 : decode cX10_text 11 = .ok (.getfield 116, 3) := by decide +kernel
theorem dX10_text_14 : decode cX10_text 14 = .ok (.if_icmp .le 6, 3) := by decide +kernel
theorem dX10_text_17 : decode cX10_text 17 = .ok (.bipush (-2), 2) := by decide +kernel
theorem dX10_text_19 : decode cX10_text 19 = .ok (.ireturn, 1) := by decide +kernel
theorem dX10_text_20 : decode cX10_text 20 = .ok (.aload_n 0, 1) := by decide +kernel
theorem dX10_text_21 : decode cX10_text 21 = .ok (.iload_n 1, 1) := by decide +kernel
theorem dX10_text_22 : decode cX10_text 22 = .ok (.putfield 154, 3) := by decide +kernel
theorem dX10_text_25 : decode cX10_text 25 = .ok (.aload_n 0, 1) := by decide +kernel
theorem dX10_text_26 : decode cX10_text 26 = .ok (.iconst 0, 1) := by decide +kernel
theorem dX10_text_27 : decode cX10_text 27 = .ok (.putfield 116, 3) := by decide +kernel
theorem dX10_text_30 : decode cX10_text 30 = .ok (.aload_n 0, 1) := by decide +kernel
theorem dX10_text_31 : decode cX10_text 31 = .ok (.iconst 0, 1) := by decide +kernel
theorem dX10_text_32 : decode cX10_text 32 = .ok (.putfield 151, 3) := by decide +kernel
theorem dX10_text_35 : decode cX10_text 35 = .ok (.aload_n 0, 1) := by decide +kernel
theorem dX10_text_36 : decode cX10_text 36 = .ok (.iconst (-1), 1) := by decide +kernel
theorem dX10_text_37 : decode cX10_text 37 = .ok (.putfield 83, 3) := by decide +kernel
theorem dX10_text_40 : decode cX10_text 40 = .ok (.aload_n 0, 1) := by decide +kernel
theorem dX10_text_41 : decode cX10_text 41 = .ok (.invokevirtual 232, 3) := by decide +kernel
theorem dX10_text_44 : decode cX10_text 44 = .ok (.ifCond .ne 5, 3) := by decide +kernel
theorem dX10_text_47 : decode cX10_text 47 = .ok (.iconst (-1), 1) := by decide +kernel
theorem dX10_text_48 : decode cX10_text 48 = .ok (.ireturn, 1) := by decide +kernel
theorem dX10_text_49 : decode cX10_text 49 = .ok (.aload_n 0, 1) := by decide +kernel
theorem dX10_text_50 : decode cX10_text 50 = .ok (.aload_n 0, 1) := by decide +kernel
theorem dX10_text_51 : decode cX10_text 51 = .ok (.getfield 202, 3) := by decide +kernel
theorem dX10_text_54 : decode cX10_text 54 = .ok (.putfield 13, 3) := by decide +kernel
theorem dX10_text_57 : decode cX10_text 57 = .ok (.aload_n 0, 1) := by decide +kernel
theorem dX10_text_58 : decode cX10_text 58 = .ok (.aload_n 0, 1) := by decide +kernel
theorem dX10_text_59 : decode cX10_text 59 = .ok (.getfield 192, 3) := by decide +kernel
theorem dX10_text_62 : decode cX10_text 62 = .ok (.ifCond .le 10, 3) := by decide +kernel
theorem dX10_text_65 : decode cX10_text 65 = .ok (.aload_n 0, 1) := by decide +kernel
theorem dX10_text_66 : decode cX10_text 66 = .ok (.getfield 192, 3) := by decide +kernel
theorem dX10_text_69 : decode cX10_text 69 = .ok (.goto 4, 3) := by decide +kernel
theorem dX10_text_72 : decode cX10_text 72 = .ok (.iconst 4, 1) := by decide +kernel
theorem dX10_text_73 : decode cX10_text 73 = .ok (.putfield 23, 3) := by decide +kernel
theorem dX10_text_76 : decode cX10_text 76 = .ok (.aload_n 0, 1) := by decide +kernel
theorem dX10_text_77 : decode cX10_text 77 = .ok (.aload_n 0, 1) := by decide +kernel
theorem dX10_text_78 : decode cX10_text 78 = .ok (.getfield 205, 3) := by decide +kernel
theorem dX10_text_81 : decode cX10_text 81 = .ok (.putfield 235, 3) := by decide +kernel
theorem dX10_text_84 : decode cX10_text 84 = .ok (.aload_n 0, 1) := by decide +kernel
theorem dX10_text_85 : decode cX10_text 85 = .ok (.aload_n 0, 1) := by decide +kernel
theorem dX10_text_86 : decode cX10_text 86 = .ok (.getfield 214, 3) := by decide +kernel
theorem dX10_text_89 : decode cX10_text 89 = .ok (.putfield 238, 3) := by decide +kernel
theorem dX10_text_92 : decode cX10_text 92 = .ok (.aload_n 0, 1) := by decide +kernel
theorem dX10_text_93 : decode cX10_text 93 = .ok (.aload_n 0, 1) := by decide +kernel
theorem dX10_text_94 : decode cX10_text 94 = .ok (.getfield 217, 3) := by decide +kernel
theorem dX10_text_97 : decode cX10_text 97 = .ok (.putfield 241, 3) := by decide +kernel
theorem dX10_text_100 : decode cX10_text 100 = .ok (.iconst 0, 1) := by decide +kernel
theorem dX10_text_101 : decode cX10_text 101 = .ok (.istore_n 2, 1) := by decide +kernel
theorem dX10_text_102 : decode cX10_text 102 = .ok (.iload_n 2, 1) := by decide +kernel
theorem dX10_text_103 : decode cX10_text 103 = .ok (.iconst 4, 1) := by decide +kernel
theorem dX10_text_104 : decode cX10_text 104 = .ok (.if_icmp .ge 60, 3) := by decide +kernel
theorem dX10_text_107 : decode cX10_text 107 = .ok (.aload_n 0, 1) := by decide +kernel
theorem dX10_text_108 : decode cX10_text 108 = .ok (.getfield 17, 3) := by decide +kernel
theorem dX10_text_111 : decode cX10_text 111 = .ok (.iload_n 2, 1) := by decide +kernel
theorem dX10_text_112 : decode cX10_text 112 = .ok (.aload_n 0, 1) := by decide +kernel
theorem dX10_text_113 : decode cX10_text 113 = .ok (.getfield 86, 3) := by decide +kernel
theorem dX10_text_116 : decode cX10_text 116 = .ok (.iload_n 2, 1) := by decide +kernel
theorem dX10_text_117 : decode cX10_text 117 = .ok (.iaload, 1) := by decide +kernel
theorem dX10_text_118 : decode cX10_text 118 = .ok (.ifCond .le 12, 3) := by decide +kernel
theorem dX10_text_121 : decode cX10_text 121 = .ok (.aload_n 0, 1) := by decide +kernel
theorem dX10_text_122 : decode cX10_text 122 = .ok (.getfield 86, 3) := by decide +kernel
theorem dX10_text_125 : decode cX10_text 125 = .ok (.iload_n 2, 1) := by decide +kernel
theorem dX10_text_126 : decode cX10_text 126 = .ok (.iaload, 1) := by decide +kernel
theorem dX10_text_127 : decode cX10_text 127 = .ok (.goto 5, 3) := by decide +kernel
theorem dX10_text_130 : decode cX10_text 130 = .ok (.bipush 20, 2) := by decide +kernel
theorem dX10_text_132 : decode cX10_text 132 = .ok (.iastore, 1) := by decide +kernel
theorem dX10_text_133 : decode cX10_text 133 = .ok (.aload_n 0, 1) := by decide +kernel
theorem dX10_text_134 : decode cX10_text 134 = .ok (.getfield 20, 3) := by decide +kernel
theorem dX10_text_137 : decode cX10_text 137 = .ok (.iload_n 2, 1) := by decide +kernel
theorem dX10_text_138 : decode cX10_text 138 = .ok (.aload_n 0, 1) := by decide +kernel
theorem dX10_text_139 : decode cX10_text 139 = .ok (.getfield 89, 3) := by decide +kernel
theorem dX10_text_142 : decode cX10_text 142 = .ok (.iload_n 2, 1) := by decide +kernel
theorem dX10_text_143 : decode cX10_text 143 = .ok (.iaload, 1) := by decide +kernel
theorem dX10_text_144 : decode cX10_text 144 = .ok (.ifCond .le 12, 3) := by decide +kernel
theorem dX10_text_147 : decode cX10_text 147 = .ok (.aload_n 0, 1) := by decide +kernel
theorem dX10_text_148 : decode cX10_text 148 = .ok (.getfield 89, 3) := by decide +kernel
theorem dX10_text_151 : decode cX10_text 151 = .ok (.iload_n 2, 1) := by decide +kernel
theorem dX10_text_152 : decode cX10_text 152 = .ok (.iaload, 1) := by decide +kernel
theorem dX10_text_153 : decode cX10_text 153 = .ok (.goto 4, 3) := by decide +kernel
theorem dX10_text_156 : decode cX10_text 156 = .ok (.iconst 4, 1) := by decide +kernel
theorem dX10_text_157 : decode cX10_text 157 = .ok (.iastore, 1) := by decide +kernel
theorem dX10_text_158 : decode cX10_text 158 = .ok (.iinc 2 1, 3) := by decide +kernel
theorem dX10_text_161 : decode cX10_text 161 = .ok (.goto (-59), 3) := by decide +kernel
theorem dX10_text_164 : decode cX10_text 164 = .ok (.iconst 0, 1) := by decide +kernel
theorem dX10_text_165 : decode cX10_text 165 = .ok (.istore_n 2, 1) := by decide +kernel
theorem dX10_text_166 : decode cX10_text 166 = .ok (.iload_n 2, 1) := by decide +kernel
theorem dX10_text_167 : decode cX10_text 167 = .ok (.bipush 8, 2) := by decide +kernel
theorem dX10_text_169 : decode cX10_text 169 = .ok (.if_icmp .ge 33, 3) := by decide +kernel
theorem dX10_text_172 : decode cX10_text 172 = .ok (.aload_n 0, 1) := by decide +kernel
theorem dX10_text_173 : decode cX10_text 173 = .ok (.getfield 35, 3) := by decide +kernel
theorem dX10_text_176 : decode cX10_text 176 = .ok (.iload_n 2, 1) := by decide +kernel
theorem dX10_text_177 : decode cX10_text 177 = .ok (.aload_n 0, 1) := by decide +kernel
theorem dX10_text_178 : decode cX10_text 178 = .ok (.getfield 98, 3) := by decide +kernel
theorem dX10_text_181 : decode cX10_text 181 = .ok (.iload_n 2, 1) := by decide +kernel
theorem dX10_text_182 : decode cX10_text 182 = .ok (.iaload, 1) := by decide +kernel
theorem dX10_text_183 : decode cX10_text 183 = .ok (.iastore, 1) := by decide +kernel
theorem dX10_text_184 : decode cX10_text 184 = .ok (.aload_n 0, 1) := by decide +kernel
theorem dX10_text_185 : decode cX10_text 185 = .ok (.getfield 38, 3) := by decide +kernel
theorem dX10_text_188 : decode cX10_text 188 = .ok (.iload_n 2, 1) := by decide +kernel
theorem dX10_text_189 : decode cX10_text 189 = .ok (.aload_n 0, 1) := by decide +kernel
theorem dX10_text_190 : decode cX10_text 190 = .ok (.getfield 101, 3) := by decide +kernel
theorem dX10_text_193 : decode cX10_text 193 = .ok (.iload_n 2, 1) := by decide +kernel
theorem dX10_text_194 : decode cX10_text 194 = .ok (.iaload, 1) := by decide +kernel
theorem dX10_text_195 : decode cX10_text 195 = .ok (.iastore, 1) := by decide +kernel
theorem dX10_text_196 : decode cX10_text 196 = .ok (.iinc 2 1, 3) := by decide +kernel
theorem dX10_text_199 : decode cX10_text 199 = .ok (.goto (-33), 3) := by decide +kernel
theorem dX10_text_202 : decode cX10_text 202 = .ok (.iconst 0, 1) := by decide +kernel
theorem dX10_text_203 : decode cX10_text 203 = .ok (.istore_n 2, 1) := by decide +kernel
theorem dX10_text_204 : decode cX10_text 204 = .ok (.iload_n 2, 1) := by decide +kernel
theorem dX10_text_205 : decode cX10_text 205 = .ok (.aload_n 0, 1) := by decide +kernel
theorem dX10_text_206 : decode cX10_text 206 = .ok (.getfield 235, 3) := by decide +kernel
theorem dX10_text_209 : decode cX10_text 209 = .ok (.if_icmp .ge 54, 3) := by decide +kernel
theorem dX10_text_212 : decode cX10_text 212 = .ok (.aload_n 0, 1) := by decide +kernel
theorem dX10_text_213 : decode cX10_text 213 = .ok (.getfield 26, 3) := by decide +kernel
theorem dX10_text_216 : decode cX10_text 216 = .ok (.iload_n 2, 1) := by decide +kernel
theorem dX10_text_217 : decode cX10_text 217 = .ok (.aload_n 0, 1) := by decide +kernel
theorem dX10_text_218 : decode cX10_text 218 = .ok (.getfield 92, 3) := by decide +kernel
theorem dX10_text_221 : decode cX10_text 221 = .ok (.iload_n 2, 1) := by decide +kernel
theorem dX10_text_222 : decode cX10_text 222 = .ok (.iaload, 1) := by decide +kernel
theorem dX10_text_223 : decode cX10_text 223 = .ok (.iastore, 1) := by decide +kernel
theorem dX10_text_224 : decode cX10_text 224 = .ok (.aload_n 0, 1) := by decide +kernel
theorem dX10_text_225 : decode cX10_text 225 = .ok (.getfield 29, 3) := by decide +kernel
theorem dX10_text_228 : decode cX10_text 228 = .ok (.iload_n 2, 1) := by decide +kernel
theorem dX10_text_229 : decode cX10_text 229 = .ok (.aload_n 0, 1) := by decide +kernel
theorem dX10_text_230 : decode cX10_text 230 = .ok (.getfield 95, 3) := by decide +kernel
theorem dX10_text_233 : decode cX10_text 233 = .ok (.iload_n 2, 1) := by decide +kernel
theorem dX10_text_234 : decode cX10_text 234 = .ok (.iaload, 1) := by decide +kernel
theorem dX10_text_235 : decode cX10_text 235 = .ok (.iastore, 1) := by decide +kernel
theorem dX10_text_236 : decode cX10_text 236 = .ok (.aload_n 0, 1) := by decide +kernel
theorem dX10_text_237 : decode cX10_text 237 = .ok (.getfield 95, 3) := by decide +kernel
theorem dX10_text_240 : decode cX10_text 240 = .ok (.iload_n 2, 1) := by decide +kernel
theorem dX10_text_241 : decode cX10_text 241 = .ok (.iaload, 1) := by decide +kernel
theorem dX10_text_242 : decode cX10_text 242 = .ok (.ifCond .lt 15, 3) := by decide +kernel
theorem dX10_text_245 : decode cX10_text 245 = .ok (.aload_n 0, 1) := by decide +kernel
theorem dX10_text_246 : decode cX10_text 246 = .ok (.getfield 32, 3) := by decide +kernel
theorem dX10_text_249 : decode cX10_text 249 = .ok (.aload_n 0, 1) := by decide +kernel
theorem dX10_text_250 : decode cX10_text 250 = .ok (.getfield 95, 3) := by decide +kernel
theorem dX10_text_253 : decode cX10_text 253 = .ok (.iload_n 2, 1) := by decide +kernel
theorem dX10_text_254 : decode cX10_text 254 = .ok (.iaload, 1) := by decide +kernel
theorem dX10_text_255 : decode cX10_text 255 = .ok (.iload_n 2, 1) := by decide +kernel
theorem dX10_text_256 : decode cX10_text 256 = .ok (.iastore, 1) := by decide +kernel
theorem dX10_text_257 : decode cX10_text 257 = .ok (.iinc 2 1, 3) := by decide +kernel
theorem dX10_text_260 : decode cX10_text 260 = .ok (.goto (-56), 3) := by decide +kernel
theorem dX10_text_263 : decode cX10_text 263 = .ok (.iconst 0, 1) := by decide +kernel
theorem dX10_text_264 : decode cX10_text 264 = .ok (.istore_n 2, 1) := by decide +kernel
theorem dX10_text_265 : decode cX10_text 265 = .ok (.iload_n 2, 1) := by decide +kernel
theorem dX10_text_266 : decode cX10_text 266 = .ok (.iconst 4, 1) := by decide +kernel
theorem dX10_text_267 : decode cX10_text 267 = .ok (.aload_n 0, 1) := by decide +kernel
theorem dX10_text_268 : decode cX10_text 268 = .ok (.getfield 238, 3) := by decide +kernel
theorem dX10_text_271 : decode cX10_text 271 = .ok (.imul, 1) := by decide +kernel
theorem dX10_text_272 : decode cX10_text 272 = .ok (.if_icmp .ge 91, 3) := by decide +kernel
theorem dX10_text_275 : decode cX10_text 275 = .ok (.aload_n 0, 1) := by decide +kernel
theorem dX10_text_276 : decode cX10_text 276 = .ok (.getfield 48, 3) := by decide +kernel
theorem dX10_text_279 : decode cX10_text 279 = .ok (.iload_n 2, 1) := by decide +kernel
theorem dX10_text_280 : decode cX10_text 280 = .ok (.aload_n 0, 1) := by decide +kernel
theorem dX10_text_281 : decode cX10_text 281 = .ok (.getfield 107, 3) := by decide +kernel
theorem dX10_text_284 : decode cX10_text 284 = .ok (.iload_n 2, 1) := by decide +kernel
theorem dX10_text_285 : decode cX10_text 285 = .ok (.iaload, 1) := by decide +kernel
theorem dX10_text_286 : decode cX10_text 286 = .ok (.ifCond .le 7, 3) := by decide +kernel
theorem dX10_text_289 : decode cX10_text 289 = .ok (.iconst 1, 1) := by decide +kernel
theorem dX10_text_290 : decode cX10_text 290 = .ok (.goto 4, 3) := by decide +kernel
theorem dX10_text_293 : decode cX10_text 293 = .ok (.iconst 0, 1) := by decide +kernel
theorem dX10_text_294 : decode cX10_text 294 = .ok (.bastore, 1) := by decide +kernel
theorem dX10_text_295 : decode cX10_text 295 = .ok (.aload_n 0, 1) := by decide +kernel
theorem dX10_text_296 : decode cX10_text 296 = .ok (.getfield 45, 3) := by decide +kernel
theorem dX10_text_299 : decode cX10_text 299 = .ok (.iload_n 2, 1) := by decide +kernel
theorem dX10_text_300 : decode cX10_text 300 = .ok (.aload_n 0, 1) := by decide +kernel
theorem dX10_text_301 : decode cX10_text 301 = .ok (.getfield 107, 3) := by decide +kernel
theorem dX10_text_304 : decode cX10_text 304 = .ok (.iload_n 2, 1) := by decide +kernel
theorem dX10_text_305 : decode cX10_text 305 = .ok (.iaload, 1) := by decide +kernel
theorem dX10_text_306 : decode cX10_text 306 = .ok (.iastore, 1) := by decide +kernel
theorem dX10_text_307 : decode cX10_text 307 = .ok (.iconst 0, 1) := by decide +kernel
theorem dX10_text_308 : decode cX10_text 308 = .ok (.istore_n 3, 1) := by decide +kernel
theorem dX10_text_309 : decode cX10_text 309 = .ok (.iload_n 3, 1) := by decide +kernel
theorem dX10_text_310 : decode cX10_text 310 = .ok (.aload_n 0, 1) := by decide +kernel
theorem dX10_text_311 : decode cX10_text 311 = .ok (.getfield 45, 3) := by decide +kernel
theorem dX10_text_314 : decode cX10_text 314 = .ok (.iload_n 2, 1) := by decide +kernel
theorem dX10_text_315 : decode cX10_text 315 = .ok (.iaload, 1) := by decide +kernel
theorem dX10_text_316 : decode cX10_text 316 = .ok (.if_icmp .ge 41, 3) := by decide +kernel
theorem dX10_text_319 : decode cX10_text 319 = .ok (.iload_n 3, 1) := by decide +kernel
theorem dX10_text_320 : decode cX10_text 320 = .ok (.sipush 500, 3) := by decide +kernel
theorem dX10_text_323 : decode cX10_text 323 = .ok (.if_icmp .ge 34, 3) := by decide +kernel
theorem dX10_text_326 : decode cX10_text 326 = .ok (.aload_n 0, 1) := by decide +kernel
theorem dX10_text_327 : decode cX10_text 327 = .ok (.getfield 42, 3) := by decide +kernel
theorem dX10_text_330 : decode cX10_text 330 = .ok (.sipush 500, 3) := by decide +kernel
theorem dX10_text_333 : decode cX10_text 333 = .ok (.iload_n 2, 1) := by decide +kernel
theorem dX10_text_334 : decode cX10_text 334 = .ok (.imul, 1) := by decide +kernel
theorem dX10_text_335 : decode cX10_text 335 = .ok (.iload_n 3, 1) := by decide +kernel
theorem dX10_text_336 : decode cX10_text 336 = .ok (.iadd, 1) := by decide +kernel
theorem dX10_text_337 : decode cX10_text 337 = .ok (.aload_n 0, 1) := by decide +kernel
theorem dX10_text_338 : decode cX10_text 338 = .ok (.getfield 7, 3) := by decide +kernel
theorem dX10_text_341 : decode cX10_text 341 = .ok (.aload_n 0, 1) := by decide +kernel
theorem dX10_text_342 : decode cX10_text 342 = .ok (.getfield 104, 3) := by decide +kernel
theorem dX10_text_345 : decode cX10_text 345 = .ok (.iload_n 2, 1) := by decide +kernel
theorem dX10_text_346 : decode cX10_text 346 = .ok (.iaload, 1) := by decide +kernel
theorem dX10_text_347 : decode cX10_text 347 = .ok (.iload_n 3, 1) := by decide +kernel
theorem dX10_text_348 : decode cX10_text 348 = .ok (.iadd, 1) := by decide +kernel
theorem dX10_text_349 : decode cX10_text 349 = .ok (.iaload, 1) := by decide +kernel
theorem dX10_text_350 : decode cX10_text 350 = .ok (.iastore, 1) := by decide +kernel
theorem dX10_text_351 : decode cX10_text 351 = .ok (.iinc 3 1, 3) := by decide +kernel
theorem dX10_text_354 : decode cX10_text 354 = .ok (.goto (-45), 3) := by decide +kernel
theorem dX10_text_357 : decode cX10_text 357 = .ok (.iinc 2 1, 3) := by decide +kernel
theorem dX10_text_360 : decode cX10_text 360 = .ok (.goto (-95), 3) := by decide +kernel
theorem dX10_text_363 : decode cX10_text 363 = .ok (.aload_n 0, 1) := by decide +kernel
theorem dX10_text_364 : decode cX10_text 364 = .ok (.invokevirtual 244, 3) := by decide +kernel
theorem dX10_text_367 : decode cX10_text 367 = .ok (.aload_n 0, 1) := by decide +kernel
theorem dX10_text_368 : decode cX10_text 368 = .ok (.getfield 238, 3) := by decide +kernel
theorem dX10_text_371 : decode cX10_text 371 = .ok (.ireturn, 1) := by decide +kernel
theorem dX10_fault_0 : decode cX10_fault 0 = .ok (.aload_n 0, 1) := by decide +kernel
theorem dX10_fault_1 : decode cX10_fault 1 = .ok (.iconst 0, 1) := by decide +kernel
theorem dX10_fault_2 : decode cX10_fault 2 = .ok (.putfield 113, 3) := by decide +kernel
theorem dX10_fault_5 : decode cX10_fault 5 = .ok (.iload_n 1, 1) := by decide +kernel
theorem dX10_fault_6 : decode cX10_fault 6 = .ok (.ifCond .ne 10, 3) := by decide +kernel
theorem dX10_fault_9 : decode cX10_fault 9 = .ok (.aload_n 0, 1) := by decide +kernel
theorem dX10_fault_10 : decode cX10_fault 10 = .ok (.getfield 151, 3) := by decide +kernel
theorem dX10_fault_13 : decode cX10_fault 13 = .ok (.goto 16, 3) := by decide +kernel
theorem dX10_fault_16 : decode cX10_fault 16 = .ok (.iload_n 1, 1) := by decide +kernel
theorem dX10_fault_17 : decode cX10_fault 17 = .ok (.iconst 1, 1) := by decide +kernel
theorem dX10_fault_18 : decode cX10_fault 18 = .ok (.if_icmp .ne 10, 3) := by decide +kernel
theorem dX10_fault_21 : decode cX10_fault 21 = .ok (.aload_n 0, 1) := by decide +kernel
theorem dX10_fault_22 : decode cX10_fault 22 = .ok (.getfield 83, 3) := by decide +kernel
theorem dX10_fault_25 : decode cX10_fault 25 = .ok (.goto 4, 3) := by decide +kernel
theorem dX10_fault_28 : decode cX10_fault 28 = .ok (.iconst (-1), 1) := by decide +kernel
theorem dX10_fault_29 : decode cX10_fault 29 = .ok (.ireturn, 1) := by decide +kernel
theorem dX10_opens_0 : decode cX10_opens 0 = .ok (.iconst 0, 1) := by decide +kernel
theorem dX10_opens_1 : decode cX10_opens 1 = .ok (.istore_n 1, 1) := by decide +kernel
theorem dX10_opens_2 : decode cX10_opens 2 = .ok (.iload_n 1, 1) := by decide +kernel
theorem dX10_opens_3 : decode cX10_opens 3 = .ok (.bipush 8, 2) := by decide +kernel
theorem dX10_opens_5 : decode cX10_opens 5 = .ok (.if_icmp .ge 16, 3) := by decide +kernel
theorem dX10_opens_8 : decode cX10_opens 8 = .ok (.aload_n 0, 1) := by decide +kernel
theorem dX10_opens_9 : decode cX10_opens 9 = .ok (.getfield 52, 3) := by decide +kernel
theorem dX10_opens_12 : decode cX10_opens 12 = .ok (.iload_n 1, 1) := by decide +kernel
theorem dX10_opens_13 : decode cX10_opens 13 = .ok (.iconst 0, 1) := by decide +kernel
theorem dX10_opens_14 : decode cX10_opens 14 = .ok (.bastore, 1) := by decide +kernel
theorem dX10_opens_15 : decode cX10_opens 15 = .ok (.iinc 1 1, 3) := by decide +kernel
theorem dX10_opens_18 : decode cX10_opens 18 = .ok (.goto (-16), 3) := by decide +kernel
theorem dX10_opens_21 : decode cX10_opens 21 = .ok (.iconst 0, 1) := by decide +kernel
theorem dX10_opens_22 : decode cX10_opens 22 = .ok (.istore_n 1, 1) := by decide +kernel
theorem dX10_opens_23 : decode cX10_opens 23 = .ok (.iload_n 1, 1) := by decide +kernel
theorem dX10_opens_24 : decode cX10_opens 24 = .ok (.sipush 160, 3) := by decide +kernel
theorem dX10_opens_27 : decode cX10_opens 27 = .ok (.if_icmp .ge 16, 3) := by decide +kernel
theorem dX10_opens_30 : decode cX10_opens 30 = .ok (.aload_n 0, 1) := by decide +kernel
theorem dX10_opens_31 : decode cX10_opens 31 = .ok (.getfield 55, 3) := by decide +kernel
theorem dX10_opens_34 : decode cX10_opens 34 = .ok (.iload_n 1, 1) := by decide +kernel
theorem dX10_opens_35 : decode cX10_opens 35 = .ok (.iconst 0, 1) := by decide +kernel
theorem dX10_opens_36 : decode cX10_opens 36 = .ok (.bastore, 1) := by decide +kernel
theorem dX10_opens_37 : decode cX10_opens 37 = .ok (.iinc 1 1, 3) := by decide +kernel
theorem dX10_opens_40 : decode cX10_opens 40 = .ok (.goto (-17), 3) := by decide +kernel
theorem dX10_opens_43 : decode cX10_opens 43 = .ok (.aload_n 0, 1) := by decide +kernel
theorem dX10_opens_44 : decode cX10_opens 44 = .ok (.iconst 0, 1) := by decide +kernel
theorem dX10_opens_45 : decode cX10_opens 45 = .ok (.putfield 247, 3) := by decide +kernel
theorem dX10_opens_48 : decode cX10_opens 48 = .ok (.aload_n 0, 1) := by decide +kernel
theorem dX10_opens_49 : decode cX10_opens 49 = .ok (.iconst 1, 1) := by decide +kernel
theorem dX10_opens_50 : decode cX10_opens 50 = .ok (.putfield 64, 3) := by decide +kernel
theorem dX10_opens_53 : decode cX10_opens 53 = .ok (.aload_n 0, 1) := by decide +kernel
theorem dX10_opens_54 : decode cX10_opens 54 = .ok (.iconst 0, 1) := by decide +kernel
theorem dX10_opens_55 : decode cX10_opens 55 = .ok (.putfield 250, 3) := by decide +kernel
theorem dX10_opens_58 : decode cX10_opens 58 = .ok (.return_, 1) := by decide +kernel
theorem dX10_begin_0 : decode cX10_begin 0 = .ok (.aload_n 0, 1) := by decide +kernel
theorem dX10_begin_1 : decode cX10_begin 1 = .ok (.iconst 0, 1) := by decide +kernel
theorem dX10_begin_2 : decode cX10_begin 2 = .ok (.putfield 113, 3) := by decide +kernel
theorem dX10_begin_5 : decode cX10_begin 5 = .ok (.aload_n 0, 1) := by decide +kernel
theorem dX10_begin_6 : decode cX10_begin 6 = .ok (.invokevirtual 244, 3) := by decide +kernel
theorem dX10_begin_9 : decode cX10_begin 9 = .ok (.return_, 1) := by decide +kernel
theorem dX10_isCut_0 : decode cX10_isCut 0 = .ok (.iconst 0, 1) := by decide +kernel
theorem dX10_isCut_1 : decode cX10_isCut 1 = .ok (.istore_n 2, 1) := by decide +kernel
theorem dX10_isCut_2 : decode cX10_isCut 2 = .ok (.iconst 0, 1) := by decide +kernel
theorem dX10_isCut_3 : decode cX10_isCut 3 = .ok (.istore_n 3, 1) := by decide +kernel
theorem dX10_isCut_4 : decode cX10_isCut 4 = .ok (.iload_n 3, 1) := by decide +kernel
theorem dX10_isCut_5 : decode cX10_isCut 5 = .ok (.bipush 8, 2) := by decide +kernel
theorem dX10_isCut_7 : decode cX10_isCut 7 = .ok (.if_icmp .ge 48, 3) := by decide +kernel
theorem dX10_isCut_10 : decode cX10_isCut 10 = .ok (.iload_n 2, 1) := by decide +kernel
theorem dX10_isCut_11 : decode cX10_isCut 11 = .ok (.ifCond .ne 32, 3) := by decide +kernel
theorem dX10_isCut_14 : decode cX10_isCut 14 = .ok (.aload_n 0, 1) := by decide +kernel
theorem dX10_isCut_15 : decode cX10_isCut 15 = .ok (.getfield 52, 3) := by decide +kernel
theorem dX10_isCut_18 : decode cX10_isCut 18 = .ok (.iload_n 3, 1) := by decide +kernel
theorem dX10_isCut_19 : decode cX10_isCut 19 = .ok (.baload, 1) := by decide +kernel
theorem dX10_isCut_20 : decode cX10_isCut 20 = .ok (.ifCond .eq 27, 3) := by decide +kernel
theorem dX10_isCut_23 : decode cX10_isCut 23 = .ok (.iload_n 1, 1) := by decide +kernel
theorem dX10_isCut_24 : decode cX10_isCut 24 = .ok (.aload_n 0, 1) := by decide +kernel
theorem dX10_isCut_25 : decode cX10_isCut 25 = .ok (.getfield 35, 3) := by decide +kernel
theorem dX10_isCut_28 : decode cX10_isCut 28 = .ok (.iload_n 3, 1) := by decide +kernel
theorem dX10_isCut_29 : decode cX10_isCut 29 = .ok (.iaload, 1) := by decide +kernel
theorem dX10_isCut_30 : decode cX10_isCut 30 = .ok (.if_icmp .lt 17, 3) := by decide +kernel
theorem dX10_isCut_33 : decode cX10_isCut 33 = .ok (.iload_n 1, 1) := by decide +kernel
theorem dX10_isCut_34 : decode cX10_isCut 34 = .ok (.aload_n 0, 1) := by decide +kernel
theorem dX10_isCut_35 : decode cX10_isCut 35 = .ok (.getfield 38, 3) := by decide +kernel
theorem dX10_isCut_38 : decode cX10_isCut 38 = .ok (.iload_n 3, 1) := by decide +kernel
theorem dX10_isCut_39 : decode cX10_isCut 39 = .ok (.iaload, 1) := by decide +kernel
theorem dX10_isCut_40 : decode cX10_isCut 40 = .ok (.if_icmp .ge 7, 3) := by decide +kernel
theorem dX10_isCut_43 : decode cX10_isCut 43 = .ok (.iconst 1, 1) := by decide +kernel
theorem dX10_isCut_44 : decode cX10_isCut 44 = .ok (.goto 4, 3) := by decide +kernel
theorem dX10_isCut_47 : decode cX10_isCut 47 = .ok (.iconst 0, 1) := by decide +kernel
theorem dX10_isCut_48 : decode cX10_isCut 48 = .ok (.istore_n 2, 1) := by decide +kernel
theorem dX10_isCut_49 : decode cX10_isCut 49 = .ok (.iinc 3 1, 3) := by decide +kernel
theorem dX10_isCut_52 : decode cX10_isCut 52 = .ok (.goto (-48), 3) := by decide +kernel
theorem dX10_isCut_55 : decode cX10_isCut 55 = .ok (.iload_n 2, 1) := by decide +kernel
theorem dX10_isCut_56 : decode cX10_isCut 56 = .ok (.ireturn, 1) := by decide +kernel
theorem dX10_goesOn_0 : decode cX10_goesOn 0 = .ok (.aload_n 0, 1) := by decide +kernel
theorem dX10_goesOn_1 : decode cX10_goesOn 1 = .ok (.aload_n 0, 1) := by decide +kernel
theorem dX10_goesOn_2 : decode cX10_goesOn 2 = .ok (.getfield 247, 3) := by decide +kernel
theorem dX10_goesOn_5 : decode cX10_goesOn 5 = .ok (.invokevirtual 253, 3) := by decide +kernel
theorem dX10_goesOn_8 : decode cX10_goesOn 8 = .ok (.ifCond .eq 16, 3) := by decide +kernel
theorem dX10_goesOn_11 : decode cX10_goesOn 11 = .ok (.aload_n 0, 1) := by decide +kernel
theorem dX10_goesOn_12 : decode cX10_goesOn 12 = .ok (.dup, 1) := by decide +kernel
theorem dX10_goesOn_13 : decode cX10_goesOn 13 = .ok (.getfield 247, 3) := by decide +kernel
theorem dX10_goesOn_16 : decode cX10_goesOn 16 = .ok (.iconst 1, 1) := by decide +kernel
theorem dX10_goesOn_17 : decode cX10_goesOn 17 = .ok (.iadd, 1) := by decide +kernel
theorem dX10_goesOn_18 : decode cX10_goesOn 18 = .ok (.putfield 247, 3) := by decide +kernel
theorem dX10_goesOn_21 : decode cX10_goesOn 21 = .ok (.goto (-21), 3) := by decide +kernel
theorem dX10_goesOn_24 : decode cX10_goesOn 24 = .ok (.return_, 1) := by decide +kernel
theorem dX10_cut_0 : decode cX10_cut 0 = .ok (.aload_n 0, 1) := by decide +kernel
theorem dX10_cut_1 : decode cX10_cut 1 = .ok (.iconst 0, 1) := by decide +kernel
theorem dX10_cut_2 : decode cX10_cut 2 = .ok (.putfield 113, 3) := by decide +kernel
theorem dX10_cut_5 : decode cX10_cut 5 = .ok (.iload_n 1, 1) := by decide +kernel
theorem dX10_cut_6 : decode cX10_cut 6 = .ok (.ifCond .lt 18, 3) := by decide +kernel
theorem dX10_cut_9 : decode cX10_cut 9 = .ok (.iload_n 1, 1) := by decide +kernel
theorem dX10_cut_10 : decode cX10_cut 10 = .ok (.bipush 7, 2) := by decide +kernel
theorem dX10_cut_12 : decode cX10_cut 12 = .ok (.if_icmp .gt 12, 3) := by decide +kernel
theorem dX10_cut_15 : decode cX10_cut 15 = .ok (.aload_n 0, 1) := by decide +kernel
theorem dX10_cut_16 : decode cX10_cut 16 = .ok (.getfield 38, 3) := by decide +kernel
theorem dX10_cut_19 : decode cX10_cut 19 = .ok (.iload_n 1, 1) := by decide +kernel
theorem dX10_cut_20 : decode cX10_cut 20 = .ok (.iaload, 1) := by decide +kernel
theorem dX10_cut_21 : decode cX10_cut 21 = .ok (.ifCond .ne 5, 3) := by decide +kernel
theorem dX10_cut_24 : decode cX10_cut 24 = .ok (.iconst 0, 1) := by decide +kernel
theorem dX10_cut_25 : decode cX10_cut 25 = .ok (.ireturn, 1) := by decide +kernel
theorem dX10_cut_26 : decode cX10_cut 26 = .ok (.aload_n 0, 1) := by decide +kernel
theorem dX10_cut_27 : decode cX10_cut 27 = .ok (.getfield 52, 3) := by decide +kernel
theorem dX10_cut_30 : decode cX10_cut 30 = .ok (.iload_n 1, 1) := by decide +kernel
theorem dX10_cut_31 : decode cX10_cut 31 = .ok (.iload_n 2, 1) := by decide +kernel
theorem dX10_cut_32 : decode cX10_cut 32 = .ok (.bastore, 1) := by decide +kernel
theorem dX10_cut_33 : decode cX10_cut 33 = .ok (.aload_n 0, 1) := by decide +kernel
theorem dX10_cut_34 : decode cX10_cut 34 = .ok (.invokevirtual 256, 3) := by decide +kernel
theorem dX10_cut_37 : decode cX10_cut 37 = .ok (.iconst 1, 1) := by decide +kernel
theorem dX10_cut_38 : decode cX10_cut 38 = .ok (.ireturn, 1) := by decide +kernel
theorem dX10_isTitle_0 : decode cX10_isTitle 0 = .ok (.iload_n 1, 1) := by decide +kernel
theorem dX10_isTitle_1 : decode cX10_isTitle 1 = .ok (.ifCond .lt 15, 3) := by decide +kernel
theorem dX10_isTitle_4 : decode cX10_isTitle 4 = .ok (.iload_n 1, 1) := by decide +kernel
theorem dX10_isTitle_5 : decode cX10_isTitle 5 = .ok (.aload_n 0, 1) := by decide +kernel
theorem dX10_isTitle_6 : decode cX10_isTitle 6 = .ok (.getfield 238, 3) := by decide +kernel
theorem dX10_isTitle_9 : decode cX10_isTitle 9 = .ok (.if_icmp .ge 7, 3) := by decide +kernel
theorem dX10_isTitle_12 : decode cX10_isTitle 12 = .ok (.iconst 1, 1) := by decide +kernel
theorem dX10_isTitle_13 : decode cX10_isTitle 13 = .ok (.goto 4, 3) := by decide +kernel
theorem dX10_isTitle_16 : decode cX10_isTitle 16 = .ok (.iconst 0, 1) := by decide +kernel
theorem dX10_isTitle_17 : decode cX10_isTitle 17 = .ok (.ireturn, 1) := by decide +kernel
theorem dX10_isTongue_0 : decode cX10_isTongue 0 = .ok (.iload_n 1, 1) := by decide +kernel
theorem dX10_isTongue_1 : decode cX10_isTongue 1 = .ok (.ifCond .lt 15, 3) := by decide +kernel
theorem dX10_isTongue_4 : decode cX10_isTongue 4 = .ok (.iload_n 1, 1) := by decide +kernel
theorem dX10_isTongue_5 : decode cX10_isTongue 5 = .ok (.aload_n 0, 1) := by decide +kernel
theorem dX10_isTongue_6 : decode cX10_isTongue 6 = .ok (.getfield 13, 3) := by decide +kernel
theorem dX10_isTongue_9 : decode cX10_isTongue 9 = .ok (.if_icmp .ge 7, 3) := by decide +kernel
theorem dX10_isTongue_12 : decode cX10_isTongue 12 = .ok (.iconst 1, 1) := by decide +kernel
theorem dX10_isTongue_13 : decode cX10_isTongue 13 = .ok (.goto 4, 3) := by decide +kernel
theorem dX10_isTongue_16 : decode cX10_isTongue 16 = .ok (.iconst 0, 1) := by decide +kernel
theorem dX10_isTongue_17 : decode cX10_isTongue 17 = .ok (.ireturn, 1) := by decide +kernel
theorem dX10_change_0 : decode cX10_change 0 = .ok (.aload_n 0, 1) := by decide +kernel
theorem dX10_change_1 : decode cX10_change 1 = .ok (.iconst 0, 1) := by decide +kernel
theorem dX10_change_2 : decode cX10_change 2 = .ok (.putfield 113, 3) := by decide +kernel
theorem dX10_change_5 : decode cX10_change 5 = .ok (.aload_n 0, 1) := by decide +kernel
theorem dX10_change_6 : decode cX10_change 6 = .ok (.iload_n 1, 1) := by decide +kernel
theorem dX10_change_7 : decode cX10_change 7 = .ok (.invokevirtual 259, 3) := by decide +kernel
theorem dX10_change_10 : decode cX10_change 10 = .ok (.ifCond .eq 23, 3) := by decide +kernel
theorem dX10_change_13 : decode cX10_change 13 = .ok (.aload_n 0, 1) := by decide +kernel
theorem dX10_change_14 : decode cX10_change 14 = .ok (.iload_n 2, 1) := by decide +kernel
theorem dX10_change_15 : decode cX10_change 15 = .ok (.invokevirtual 262, 3) := by decide +kernel
theorem dX10_change_18 : decode cX10_change 18 = .ok (.ifCond .eq 15, 3) := by decide +kernel
theorem dX10_change_21 : decode cX10_change 21 = .ok (.iload_n 3, 1) := by decide +kernel
theorem dX10_change_22 : decode cX10_change 22 = .ok (.ifCond .lt 11, 3) := by decide +kernel
theorem dX10_change_25 : decode cX10_change 25 = .ok (.iload_n 3, 1) := by decide +kernel
theorem dX10_change_26 : decode cX10_change 26 = .ok (.aload_n 0, 1) := by decide +kernel
theorem dX10_change_27 : decode cX10_change 27 = .ok (.getfield 116, 3) := by decide +kernel
theorem dX10_change_30 : decode cX10_change 30 = .ok (.if_icmp .le 5, 3) := by decide +kernel
theorem dX10_change_33 : decode cX10_change 33 = .ok (.iconst 0, 1) := by decide +kernel
theorem dX10_change_34 : decode cX10_change 34 = .ok (.ireturn, 1) := by decide +kernel
theorem dX10_change_35 : decode cX10_change 35 = .ok (.iconst 4, 1) := by decide +kernel
theorem dX10_change_36 : decode cX10_change 36 = .ok (.iload_n 1, 1) := by decide +kernel
theorem dX10_change_37 : decode cX10_change 37 = .ok (.imul, 1) := by decide +kernel
theorem dX10_change_38 : decode cX10_change 38 = .ok (.iload_n 2, 1) := by decide +kernel
theorem dX10_change_39 : decode cX10_change 39 = .ok (.iadd, 1) := by decide +kernel
theorem dX10_change_40 : decode cX10_change 40 = .ok (.istore 4, 2) := by decide +kernel
theorem dX10_change_42 : decode cX10_change 42 = .ok (.iload_n 3, 1) := by decide +kernel
theorem dX10_change_43 : decode cX10_change 43 = .ok (.ifCond .ne 18, 3) := by decide +kernel
theorem dX10_change_46 : decode cX10_change 46 = .ok (.aload_n 0, 1) := by decide +kernel
theorem dX10_change_47 : decode cX10_change 47 = .ok (.getfield 55, 3) := by decide +kernel
theorem dX10_change_50 : decode cX10_change 50 = .ok (.iload 4, 2) := by decide +kernel
theorem dX10_change_52 : decode cX10_change 52 = .ok (.iconst 0, 1) := by decide +kernel
theorem dX10_change_53 : decode cX10_change 53 = .ok (.bastore, 1) := by decide +kernel
theorem dX10_change_54 : decode cX10_change 54 = .ok (.aload_n 0, 1) := by decide +kernel
theorem dX10_change_55 : decode cX10_change 55 = .ok (.iconst 0, 1) := by decide +kernel
theorem dX10_change_56 : decode cX10_change 56 = .ok (.putfield 116, 3) := by decide +kernel
theorem dX10_change_59 : decode cX10_change 59 = .ok (.iconst 1, 1) := by decide +kernel
theorem dX10_change_60 : decode cX10_change 60 = .ok (.ireturn, 1) := by decide +kernel
theorem dX10_change_61 : decode cX10_change 61 = .ok (.iconst 0, 1) := by decide +kernel
theorem dX10_change_62 : decode cX10_change 62 = .ok (.istore 5, 2) := by decide +kernel
theorem dX10_change_64 : decode cX10_change 64 = .ok (.iload 5, 2) := by decide +kernel
theorem dX10_change_66 : decode cX10_change 66 = .ok (.iload_n 3, 1) := by decide +kernel
theorem dX10_change_67 : decode cX10_change 67 = .ok (.if_icmp .ge 61, 3) := by decide +kernel
theorem dX10_change_70 : decode cX10_change 70 = .ok (.aload_n 0, 1) := by decide +kernel
theorem dX10_change_71 : decode cX10_change 71 = .ok (.getfield 7, 3) := by decide +kernel
theorem dX10_change_74 : decode cX10_change 74 = .ok (.iload 5, 2) := by decide +kernel
theorem dX10_change_76 : decode cX10_change 76 = .ok (.iaload, 1) := by decide +kernel
theorem dX10_change_77 : decode cX10_change 77 = .ok (.bipush 32, 2) := by decide +kernel
theorem dX10_change_79 : decode cX10_change 79 = .ok (.if_icmp .lt 27, 3) := by decide +kernel
theorem dX10_change_82 : decode cX10_change 82 = .ok (.aload_n 0, 1) := by decide +kernel
theorem dX10_change_83 : decode cX10_change 83 = .ok (.getfield 7, 3) := by decide +kernel
theorem dX10_change_86 : decode cX10_change 86 = .ok (.iload 5, 2) := by decide +kernel
theorem dX10_change_88 : decode cX10_change 88 = .ok (.iaload, 1) := by decide +kernel
theorem dX10_change_89 : decode cX10_change 89 = .ok (.bipush 126, 2) := by decide +kernel
theorem dX10_change_91 : decode cX10_change 91 = .ok (.if_icmp .gt 15, 3) := by decide +kernel
theorem dX10_change_94 : decode cX10_change 94 = .ok (.aload_n 0, 1) := by decide +kernel
theorem dX10_change_95 : decode cX10_change 95 = .ok (.getfield 7, 3) := by decide +kernel
theorem dX10_change_98 : decode cX10_change 98 = .ok (.iload 5, 2) := by decide +kernel
theorem dX10_change_100 : decode cX10_change 100 = .ok (.iaload, 1) := by decide +kernel
theorem dX10_change_101 : decode cX10_change 101 = .ok (.bipush 34, 2) := by decide +kernel
theorem dX10_change_103 : decode cX10_change 103 = .ok (.if_icmp .ne 5, 3) := by decide +kernel
theorem dX10_change_106 : decode cX10_change 106 = .ok (.iconst 0, 1) := by decide +kernel
theorem dX10_change_107 : decode cX10_change 107 = .ok (.ireturn, 1) := by decide +kernel
theorem dX10_change_108 : decode cX10_change 108 = .ok (.aload_n 0, 1) := by decide +kernel
theorem dX10_change_109 : decode cX10_change 109 = .ok (.getfield 68, 3) := by decide +kernel
theorem dX10_change_112 : decode cX10_change 112 = .ok (.iload 5, 2) := by decide +kernel
theorem dX10_change_114 : decode cX10_change 114 = .ok (.aload_n 0, 1) := by decide +kernel
theorem dX10_change_115 : decode cX10_change 115 = .ok (.getfield 7, 3) := by decide +kernel
theorem dX10_change_118 : decode cX10_change 118 = .ok (.iload 5, 2) := by decide +kernel
theorem dX10_change_120 : decode cX10_change 120 = .ok (.iaload, 1) := by decide +kernel
theorem dX10_change_121 : decode cX10_change 121 = .ok (.iastore, 1) := by decide +kernel
theorem dX10_change_122 : decode cX10_change 122 = .ok (.iinc 5 1, 3) := by decide +kernel
theorem dX10_change_125 : decode cX10_change 125 = .ok (.goto (-61), 3) := by decide +kernel
theorem dX10_change_128 : decode cX10_change 128 = .ok (.aload_n 0, 1) := by decide +kernel
theorem dX10_change_129 : decode cX10_change 129 = .ok (.iconst 0, 1) := by decide +kernel
theorem dX10_change_130 : decode cX10_change 130 = .ok (.iload_n 3, 1) := by decide +kernel
theorem dX10_change_131 : decode cX10_change 131 = .ok (.invokevirtual 211, 3) := by decide +kernel
theorem dX10_change_134 : decode cX10_change 134 = .ok (.ifCond .eq 17, 3) := by decide +kernel
theorem dX10_change_137 : decode cX10_change 137 = .ok (.aload_n 0, 1) := by decide +kernel
theorem dX10_change_138 : decode cX10_change 138 = .ok (.iload_n 3, 1) := by decide +kernel
theorem dX10_change_139 : decode cX10_change 139 = .ok (.aload_n 0, 1) := by decide +kernel
theorem dX10_change_140 : decode cX10_change 140 = .ok (.getfield 17, 3) := by decide +kernel
theorem dX10_change_143 : decode cX10_change 143 = .ok (.iload_n 2, 1) := by decide +kernel
theorem dX10_change_144 : decode cX10_change 144 = .ok (.iaload, 1) := by decide +kernel
theorem dX10_change_145 : decode cX10_change 145 = .ok (.invokevirtual 147, 3) := by decide +kernel
theorem dX10_change_148 : decode cX10_change 148 = .ok (.ifCond .ne 5, 3) := by decide +kernel
theorem dX10_change_151 : decode cX10_change 151 = .ok (.iconst 0, 1) := by decide +kernel
theorem dX10_change_152 : decode cX10_change 152 = .ok (.ireturn, 1) := by decide +kernel
theorem dX10_change_153 : decode cX10_change 153 = .ok (.aload_n 0, 1) := by decide +kernel
theorem dX10_change_154 : decode cX10_change 154 = .ok (.getfield 55, 3) := by decide +kernel
theorem dX10_change_157 : decode cX10_change 157 = .ok (.iload 4, 2) := by decide +kernel
theorem dX10_change_159 : decode cX10_change 159 = .ok (.iconst 1, 1) := by decide +kernel
theorem dX10_change_160 : decode cX10_change 160 = .ok (.bastore, 1) := by decide +kernel
theorem dX10_change_161 : decode cX10_change 161 = .ok (.aload_n 0, 1) := by decide +kernel
theorem dX10_change_162 : decode cX10_change 162 = .ok (.getfield 61, 3) := by decide +kernel
theorem dX10_change_165 : decode cX10_change 165 = .ok (.iload 4, 2) := by decide +kernel
theorem dX10_change_167 : decode cX10_change 167 = .ok (.iload_n 3, 1) := by decide +kernel
theorem dX10_change_168 : decode cX10_change 168 = .ok (.iastore, 1) := by decide +kernel
theorem dX10_change_169 : decode cX10_change 169 = .ok (.iconst 0, 1) := by decide +kernel
theorem dX10_change_170 : decode cX10_change 170 = .ok (.istore 5, 2) := by decide +kernel
theorem dX10_change_172 : decode cX10_change 172 = .ok (.iload 5, 2) := by decide +kernel
theorem dX10_change_174 : decode cX10_change 174 = .ok (.iload_n 3, 1) := by decide +kernel
theorem dX10_change_175 : decode cX10_change 175 = .ok (.if_icmp .ge 30, 3) := by decide +kernel
theorem dX10_change_178 : decode cX10_change 178 = .ok (.aload_n 0, 1) := by decide +kernel
theorem dX10_change_179 : decode cX10_change 179 = .ok (.getfield 58, 3) := by decide +kernel
theorem dX10_change_182 : decode cX10_change 182 = .ok (.sipush 500, 3) := by decide +kernel
theorem dX10_change_185 : decode cX10_change 185 = .ok (.iload 4, 2) := by decide +kernel
theorem dX10_change_187 : decode cX10_change 187 = .ok (.imul, 1) := by decide +kernel
theorem dX10_change_188 : decode cX10_change 188 = .ok (.iload 5, 2) := by decide +kernel
theorem dX10_change_190 : decode cX10_change 190 = .ok (.iadd, 1) := by decide +kernel
theorem dX10_change_191 : decode cX10_change 191 = .ok (.aload_n 0, 1) := by decide +kernel
theorem dX10_change_192 : decode cX10_change 192 = .ok (.getfield 7, 3) := by decide +kernel
theorem dX10_change_195 : decode cX10_change 195 = .ok (.iload 5, 2) := by decide +kernel
theorem dX10_change_197 : decode cX10_change 197 = .ok (.iaload, 1) := by decide +kernel
theorem dX10_change_198 : decode cX10_change 198 = .ok (.iastore, 1) := by decide +kernel
theorem dX10_change_199 : decode cX10_change 199 = .ok (.iinc 5 1, 3) := by decide +kernel
theorem dX10_change_202 : decode cX10_change 202 = .ok (.goto (-30), 3) := by decide +kernel
theorem dX10_change_205 : decode cX10_change 205 = .ok (.aload_n 0, 1) := by decide +kernel
theorem dX10_change_206 : decode cX10_change 206 = .ok (.iconst 0, 1) := by decide +kernel
theorem dX10_change_207 : decode cX10_change 207 = .ok (.putfield 116, 3) := by decide +kernel
theorem dX10_change_210 : decode cX10_change 210 = .ok (.iconst 1, 1) := by decide +kernel
theorem dX10_change_211 : decode cX10_change 211 = .ok (.ireturn, 1) := by decide +kernel
theorem dX10_heard_0 : decode cX10_heard 0 = .ok (.aload_n 0, 1) := by decide +kernel
theorem dX10_heard_1 : decode cX10_heard 1 = .ok (.iconst 0, 1) := by decide +kernel
theorem dX10_heard_2 : decode cX10_heard 2 = .ok (.putfield 113, 3) := by decide +kernel
theorem dX10_heard_5 : decode cX10_heard 5 = .ok (.iload_n 1, 1) := by decide +kernel
theorem dX10_heard_6 : decode cX10_heard 6 = .ok (.iconst 1, 1) := by decide +kernel
theorem dX10_heard_7 : decode cX10_heard 7 = .ok (.if_icmp .lt 17, 3) := by decide +kernel
theorem dX10_heard_10 : decode cX10_heard 10 = .ok (.iload_n 1, 1) := by decide +kernel
theorem dX10_heard_11 : decode cX10_heard 11 = .ok (.sipush 999, 3) := by decide +kernel
theorem dX10_heard_14 : decode cX10_heard 14 = .ok (.if_icmp .gt 10, 3) := by decide +kernel
theorem dX10_heard_17 : decode cX10_heard 17 = .ok (.aload_n 0, 1) := by decide +kernel
theorem dX10_heard_18 : decode cX10_heard 18 = .ok (.getfield 64, 3) := by decide +kernel
theorem dX10_heard_21 : decode cX10_heard 21 = .ok (.ifCond .ne 5, 3) := by decide +kernel
theorem dX10_heard_24 : decode cX10_heard 24 = .ok (.iconst (-1), 1) := by decide +kernel
theorem dX10_heard_25 : decode cX10_heard 25 = .ok (.ireturn, 1) := by decide +kernel
theorem dX10_heard_26 : decode cX10_heard 26 = .ok (.iload_n 1, 1) := by decide +kernel
theorem dX10_heard_27 : decode cX10_heard 27 = .ok (.aload_n 0, 1) := by decide +kernel
theorem dX10_heard_28 : decode cX10_heard 28 = .ok (.getfield 247, 3) := by decide +kernel
theorem dX10_heard_31 : decode cX10_heard 31 = .ok (.if_icmp .lt 26, 3) := by decide +kernel
theorem dX10_heard_34 : decode cX10_heard 34 = .ok (.iload_n 1, 1) := by decide +kernel
theorem dX10_heard_35 : decode cX10_heard 35 = .ok (.aload_n 0, 1) := by decide +kernel
theorem dX10_heard_36 : decode cX10_heard 36 = .ok (.getfield 247, 3) := by decide +kernel
theorem dX10_heard_39 : decode cX10_heard 39 = .ok (.iconst 4, 1) := by decide +kernel
theorem dX10_heard_40 : decode cX10_heard 40 = .ok (.iadd, 1) := by decide +kernel
theorem dX10_heard_41 : decode cX10_heard 41 = .ok (.if_icmp .gt 16, 3) := by decide +kernel
theorem dX10_heard_44 : decode cX10_heard 44 = .ok (.aload_n 0, 1) := by decide +kernel
theorem dX10_heard_45 : decode cX10_heard 45 = .ok (.iload_n 1, 1) := by decide +kernel
theorem dX10_heard_46 : decode cX10_heard 46 = .ok (.putfield 247, 3) := by decide +kernel
theorem dX10_heard_49 : decode cX10_heard 49 = .ok (.aload_n 0, 1) := by decide +kernel
theorem dX10_heard_50 : decode cX10_heard 50 = .ok (.iconst 0, 1) := by decide +kernel
theorem dX10_heard_51 : decode cX10_heard 51 = .ok (.putfield 250, 3) := by decide +kernel
theorem dX10_heard_54 : decode cX10_heard 54 = .ok (.goto 73, 3) := by decide +kernel
theorem dX10_heard_57 : decode cX10_heard 57 = .ok (.aload_n 0, 1) := by decide +kernel
theorem dX10_heard_58 : decode cX10_heard 58 = .ok (.getfield 250, 3) := by decide +kernel
theorem dX10_heard_61 : decode cX10_heard 61 = .ok (.ifCond .le 34, 3) := by decide +kernel
theorem dX10_heard_64 : decode cX10_heard 64 = .ok (.iload_n 1, 1) := by decide +kernel
theorem dX10_heard_65 : decode cX10_heard 65 = .ok (.aload_n 0, 1) := by decide +kernel
theorem dX10_heard_66 : decode cX10_heard 66 = .ok (.getfield 265, 3) := by decide +kernel
theorem dX10_heard_69 : decode cX10_heard 69 = .ok (.iconst 1, 1) := by decide +kernel
theorem dX10_heard_70 : decode cX10_heard 70 = .ok (.iadd, 1) := by decide +kernel
theorem dX10_heard_71 : decode cX10_heard 71 = .ok (.if_icmp .ne 24, 3) := by decide +kernel
theorem dX10_heard_74 : decode cX10_heard 74 = .ok (.iload_n 1, 1) := by decide +kernel
theorem dX10_heard_75 : decode cX10_heard 75 = .ok (.aload_n 0, 1) := by decide +kernel
theorem dX10_heard_76 : decode cX10_heard 76 = .ok (.getfield 247, 3) := by decide +kernel
theorem dX10_heard_79 : decode cX10_heard 79 = .ok (.if_icmp .le 16, 3) := by decide +kernel
theorem dX10_heard_82 : decode cX10_heard 82 = .ok (.aload_n 0, 1) := by decide +kernel
theorem dX10_heard_83 : decode cX10_heard 83 = .ok (.iload_n 1, 1) := by decide +kernel
theorem dX10_heard_84 : decode cX10_heard 84 = .ok (.putfield 247, 3) := by decide +kernel
theorem dX10_heard_87 : decode cX10_heard 87 = .ok (.aload_n 0, 1) := by decide +kernel
theorem dX10_heard_88 : decode cX10_heard 88 = .ok (.iconst 0, 1) := by decide +kernel
theorem dX10_heard_89 : decode cX10_heard 89 = .ok (.putfield 250, 3) := by decide +kernel
theorem dX10_heard_92 : decode cX10_heard 92 = .ok (.goto 35, 3) := by decide +kernel
theorem dX10_heard_95 : decode cX10_heard 95 = .ok (.aload_n 0, 1) := by decide +kernel
theorem dX10_heard_96 : decode cX10_heard 96 = .ok (.dup, 1) := by decide +kernel
theorem dX10_heard_97 : decode cX10_heard 97 = .ok (.getfield 250, 3) := by decide +kernel
theorem dX10_heard_100 : decode cX10_heard 100 = .ok (.iconst 1, 1) := by decide +kernel
theorem dX10_heard_101 : decode cX10_heard 101 = .ok (.iadd, 1) := by decide +kernel
theorem dX10_heard_102 : decode cX10_heard 102 = .ok (.putfield 250, 3) := by decide +kernel
theorem dX10_heard_105 : decode cX10_heard 105 = .ok (.aload_n 0, 1) := by decide +kernel
theorem dX10_heard_106 : decode cX10_heard 106 = .ok (.iload_n 1, 1) := by decide +kernel
theorem dX10_heard_107 : decode cX10_heard 107 = .ok (.putfield 265, 3) := by decide +kernel
theorem dX10_heard_110 : decode cX10_heard 110 = .ok (.aload_n 0, 1) := by decide +kernel
theorem dX10_heard_111 : decode cX10_heard 111 = .ok (.aload_n 0, 1) := by decide +kernel
theorem dX10_heard_112 : decode cX10_heard 112 = .ok (.getfield 250, 3) := by decide +kernel
theorem dX10_heard_115 : decode cX10_heard 115 = .ok (.iconst 3, 1) := by decide +kernel
theorem dX10_heard_116 : decode cX10_heard 116 = .ok (.if_icmp .ge 7, 3) := by decide +kernel
theorem dX10_heard_119 : decode cX10_heard 119 = .ok (.iconst 1, 1) := by decide +kernel
theorem dX10_heard_120 : decode cX10_heard 120 = .ok (.goto 4, 3) := by decide +kernel
theorem dX10_heard_123 : decode cX10_heard 123 = .ok (.iconst 0, 1) := by decide +kernel
theorem dX10_heard_124 : decode cX10_heard 124 = .ok (.putfield 64, 3) := by decide +kernel
theorem dX10_heard_127 : decode cX10_heard 127 = .ok (.aload_n 0, 1) := by decide +kernel
theorem dX10_heard_128 : decode cX10_heard 128 = .ok (.invokevirtual 256, 3) := by decide +kernel
theorem dX10_heard_131 : decode cX10_heard 131 = .ok (.aload_n 0, 1) := by decide +kernel
theorem dX10_heard_132 : decode cX10_heard 132 = .ok (.getfield 247, 3) := by decide +kernel
theorem dX10_heard_135 : decode cX10_heard 135 = .ok (.ireturn, 1) := by decide +kernel
theorem dX10_hand_0 : decode cX10_hand 0 = .ok (.aload_n 0, 1) := by decide +kernel
theorem dX10_hand_1 : decode cX10_hand 1 = .ok (.iconst 0, 1) := by decide +kernel
theorem dX10_hand_2 : decode cX10_hand 2 = .ok (.putfield 113, 3) := by decide +kernel
theorem dX10_hand_5 : decode cX10_hand 5 = .ok (.iload_n 1, 1) := by decide +kernel
theorem dX10_hand_6 : decode cX10_hand 6 = .ok (.ifCond .lt 10, 3) := by decide +kernel
theorem dX10_hand_9 : decode cX10_hand 9 = .ok (.iload_n 1, 1) := by decide +kernel
theorem dX10_hand_10 : decode cX10_hand 10 = .ok (.sipush 999, 3) := by decide +kernel
theorem dX10_hand_13 : decode cX10_hand 13 = .ok (.if_icmp .le 5, 3) := by decide +kernel
theorem dX10_hand_16 : decode cX10_hand 16 = .ok (.iconst (-1), 1) := by decide +kernel
theorem dX10_hand_17 : decode cX10_hand 17 = .ok (.ireturn, 1) := by decide +kernel
theorem dX10_hand_18 : decode cX10_hand 18 = .ok (.aload_n 0, 1) := by decide +kernel
theorem dX10_hand_19 : decode cX10_hand 19 = .ok (.iload_n 1, 1) := by decide +kernel
theorem dX10_hand_20 : decode cX10_hand 20 = .ok (.putfield 247, 3) := by decide +kernel
theorem dX10_hand_23 : decode cX10_hand 23 = .ok (.aload_n 0, 1) := by decide +kernel
theorem dX10_hand_24 : decode cX10_hand 24 = .ok (.iconst 0, 1) := by decide +kernel
theorem dX10_hand_25 : decode cX10_hand 25 = .ok (.putfield 250, 3) := by decide +kernel
theorem dX10_hand_28 : decode cX10_hand 28 = .ok (.aload_n 0, 1) := by decide +kernel
theorem dX10_hand_29 : decode cX10_hand 29 = .ok (.iload_n 2, 1) := by decide +kernel
theorem dX10_hand_30 : decode cX10_hand 30 = .ok (.putfield 64, 3) := by decide +kernel
theorem dX10_hand_33 : decode cX10_hand 33 = .ok (.aload_n 0, 1) := by decide +kernel
theorem dX10_hand_34 : decode cX10_hand 34 = .ok (.invokevirtual 256, 3) := by decide +kernel
theorem dX10_hand_37 : decode cX10_hand 37 = .ok (.aload_n 0, 1) := by decide +kernel
theorem dX10_hand_38 : decode cX10_hand 38 = .ok (.getfield 247, 3) := by decide +kernel
theorem dX10_hand_41 : decode cX10_hand 41 = .ok (.ireturn, 1) := by decide +kernel
theorem dX10_steps_0 : decode cX10_steps 0 = .ok (.iconst 0, 1) := by decide +kernel
theorem dX10_steps_1 : decode cX10_steps 1 = .ok (.istore_n 2, 1) := by decide +kernel
theorem dX10_steps_2 : decode cX10_steps 2 = .ok (.iconst 0, 1) := by decide +kernel
theorem dX10_steps_3 : decode cX10_steps 3 = .ok (.istore_n 3, 1) := by decide +kernel
theorem dX10_steps_4 : decode cX10_steps 4 = .ok (.iload_n 3, 1) := by decide +kernel
theorem dX10_steps_5 : decode cX10_steps 5 = .ok (.aload_n 0, 1) := by decide +kernel
theorem dX10_steps_6 : decode cX10_steps 6 = .ok (.getfield 13, 3) := by decide +kernel
theorem dX10_steps_9 : decode cX10_steps 9 = .ok (.if_icmp .ge 32, 3) := by decide +kernel
theorem dX10_steps_12 : decode cX10_steps 12 = .ok (.aload_n 0, 1) := by decide +kernel
theorem dX10_steps_13 : decode cX10_steps 13 = .ok (.iload_n 1, 1) := by decide +kernel
theorem dX10_steps_14 : decode cX10_steps 14 = .ok (.iload_n 3, 1) := by decide +kernel
theorem dX10_steps_15 : decode cX10_steps 15 = .ok (.invokevirtual 268, 3) := by decide +kernel
theorem dX10_steps_18 : decode cX10_steps 18 = .ok (.aload_n 0, 1) := by decide +kernel
theorem dX10_steps_19 : decode cX10_steps 19 = .ok (.getfield 133, 3) := by decide +kernel
theorem dX10_steps_22 : decode cX10_steps 22 = .ok (.iload_n 2, 1) := by decide +kernel
theorem dX10_steps_23 : decode cX10_steps 23 = .ok (.if_icmp .le 10, 3) := by decide +kernel
theorem dX10_steps_26 : decode cX10_steps 26 = .ok (.aload_n 0, 1) := by decide +kernel
theorem dX10_steps_27 : decode cX10_steps 27 = .ok (.getfield 133, 3) := by decide +kernel
theorem dX10_steps_30 : decode cX10_steps 30 = .ok (.goto 4, 3) := by decide +kernel
theorem dX10_steps_33 : decode cX10_steps 33 = .ok (.iload_n 2, 1) := by decide +kernel
theorem dX10_steps_34 : decode cX10_steps 34 = .ok (.istore_n 2, 1) := by decide +kernel
theorem dX10_steps_35 : decode cX10_steps 35 = .ok (.iinc 3 1, 3) := by decide +kernel
theorem dX10_steps_38 : decode cX10_steps 38 = .ok (.goto (-34), 3) := by decide +kernel
theorem dX10_steps_41 : decode cX10_steps 41 = .ok (.iload_n 2, 1) := by decide +kernel
theorem dX10_steps_42 : decode cX10_steps 42 = .ok (.ireturn, 1) := by decide +kernel
theorem dX10_endOf_0 : decode cX10_endOf 0 = .ok (.iload_n 1, 1) := by decide +kernel
theorem dX10_endOf_1 : decode cX10_endOf 1 = .ok (.iconst 1, 1) := by decide +kernel
theorem dX10_endOf_2 : decode cX10_endOf 2 = .ok (.iadd, 1) := by decide +kernel
theorem dX10_endOf_3 : decode cX10_endOf 3 = .ok (.aload_n 0, 1) := by decide +kernel
theorem dX10_endOf_4 : decode cX10_endOf 4 = .ok (.getfield 235, 3) := by decide +kernel
theorem dX10_endOf_7 : decode cX10_endOf 7 = .ok (.if_icmp .ge 14, 3) := by decide +kernel
theorem dX10_endOf_10 : decode cX10_endOf 10 = .ok (.aload_n 0, 1) := by decide +kernel
theorem dX10_endOf_11 : decode cX10_endOf 11 = .ok (.getfield 26, 3) := by decide +kernel
theorem dX10_endOf_14 : decode cX10_endOf 14 = .ok (.iload_n 1, 1) := by decide +kernel
theorem dX10_endOf_15 : decode cX10_endOf 15 = .ok (.iconst 1, 1) := by decide +kernel
theorem dX10_endOf_16 : decode cX10_endOf 16 = .ok (.iadd, 1) := by decide +kernel
theorem dX10_endOf_17 : decode cX10_endOf 17 = .ok (.iaload, 1) := by decide +kernel
theorem dX10_endOf_18 : decode cX10_endOf 18 = .ok (.goto 6, 3) := by decide +kernel
theorem dX10_endOf_21 : decode cX10_endOf 21 = .ok (.sipush 1000, 3) := by decide +kernel
theorem dX10_endOf_24 : decode cX10_endOf 24 = .ok (.ireturn, 1) := by decide +kernel
theorem dX10_bars_0 : decode cX10_bars 0 = .ok (.iconst 0, 1) := by decide +kernel
theorem dX10_bars_1 : decode cX10_bars 1 = .ok (.istore_n 3, 1) := by decide +kernel
theorem dX10_bars_2 : decode cX10_bars 2 = .ok (.aload_n 0, 1) := by decide +kernel
theorem dX10_bars_3 : decode cX10_bars 3 = .ok (.getfield 26, 3) := by decide +kernel
theorem dX10_bars_6 : decode cX10_bars 6 = .ok (.aload_n 0, 1) := by decide +kernel
theorem dX10_bars_7 : decode cX10_bars 7 = .ok (.getfield 32, 3) := by decide +kernel
theorem dX10_bars_10 : decode cX10_bars 10 = .ok (.iload_n 1, 1) := by decide +kernel
theorem dX10_bars_11 : decode cX10_bars 11 = .ok (.iaload, 1) := by decide +kernel
theorem dX10_bars_12 : decode cX10_bars 12 = .ok (.iaload, 1) := by decide +kernel
theorem dX10_bars_13 : decode cX10_bars 13 = .ok (.istore 4, 2) := by decide +kernel
theorem dX10_bars_15 : decode cX10_bars 15 = .ok (.iload 4, 2) := by decide +kernel
theorem dX10_bars_17 : decode cX10_bars 17 = .ok (.iload_n 2, 1) := by decide +kernel
theorem dX10_bars_18 : decode cX10_bars 18 = .ok (.if_icmp .ge 26, 3) := by decide +kernel
theorem dX10_bars_21 : decode cX10_bars 21 = .ok (.iload_n 3, 1) := by decide +kernel
theorem dX10_bars_22 : decode cX10_bars 22 = .ok (.aload_n 0, 1) := by decide +kernel
theorem dX10_bars_23 : decode cX10_bars 23 = .ok (.iload 4, 2) := by decide +kernel
theorem dX10_bars_25 : decode cX10_bars 25 = .ok (.invokevirtual 253, 3) := by decide +kernel
theorem dX10_bars_28 : decode cX10_bars 28 = .ok (.ifCond .eq 7, 3) := by decide +kernel
theorem dX10_bars_31 : decode cX10_bars 31 = .ok (.iconst 0, 1) := by decide +kernel
theorem dX10_bars_32 : decode cX10_bars 32 = .ok (.goto 4, 3) := by decide +kernel
theorem dX10_bars_35 : decode cX10_bars 35 = .ok (.iconst 1, 1) := by decide +kernel
theorem dX10_bars_36 : decode cX10_bars 36 = .ok (.iadd, 1) := by decide +kernel
theorem dX10_bars_37 : decode cX10_bars 37 = .ok (.istore_n 3, 1) := by decide +kernel
theorem dX10_bars_38 : decode cX10_bars 38 = .ok (.iinc 4 1, 3) := by decide +kernel
theorem dX10_bars_41 : decode cX10_bars 41 = .ok (.goto (-26), 3) := by decide +kernel
theorem dX10_bars_44 : decode cX10_bars 44 = .ok (.iload_n 3, 1) := by decide +kernel
theorem dX10_bars_45 : decode cX10_bars 45 = .ok (.ireturn, 1) := by decide +kernel
theorem dX10_stepAt_0 : decode cX10_stepAt 0 = .ok (.iload_n 3, 1) := by decide +kernel
theorem dX10_stepAt_1 : decode cX10_stepAt 1 = .ok (.iconst 1, 1) := by decide +kernel
theorem dX10_stepAt_2 : decode cX10_stepAt 2 = .ok (.isub, 1) := by decide +kernel
theorem dX10_stepAt_3 : decode cX10_stepAt 3 = .ok (.istore 4, 2) := by decide +kernel
theorem dX10_stepAt_5 : decode cX10_stepAt 5 = .ok (.iload 4, 2) := by decide +kernel
theorem dX10_stepAt_7 : decode cX10_stepAt 7 = .ok (.ifCond .le 19, 3) := by decide +kernel
theorem dX10_stepAt_10 : decode cX10_stepAt 10 = .ok (.iload 4, 2) := by decide +kernel
theorem dX10_stepAt_12 : decode cX10_stepAt 12 = .ok (.iload_n 2, 1) := by decide +kernel
theorem dX10_stepAt_13 : decode cX10_stepAt 13 = .ok (.imul, 1) := by decide +kernel
theorem dX10_stepAt_14 : decode cX10_stepAt 14 = .ok (.iload_n 3, 1) := by decide +kernel
theorem dX10_stepAt_15 : decode cX10_stepAt 15 = .ok (.idiv, 1) := by decide +kernel
theorem dX10_stepAt_16 : decode cX10_stepAt 16 = .ok (.iload_n 1, 1) := by decide +kernel
theorem dX10_stepAt_17 : decode cX10_stepAt 17 = .ok (.if_icmp .le 9, 3) := by decide +kernel
theorem dX10_stepAt_20 : decode cX10_stepAt 20 = .ok (.iinc 4 (-1), 3) := by decide +kernel
theorem dX10_stepAt_23 : decode cX10_stepAt 23 = .ok (.goto (-18), 3) := by decide +kernel
theorem dX10_stepAt_26 : decode cX10_stepAt 26 = .ok (.iload 4, 2) := by decide +kernel
theorem dX10_stepAt_28 : decode cX10_stepAt 28 = .ok (.ireturn, 1) := by decide +kernel
theorem dX10_shortOf_0 : decode cX10_shortOf 0 = .ok (.aload_n 0, 1) := by decide +kernel
theorem dX10_shortOf_1 : decode cX10_shortOf 1 = .ok (.iload_n 1, 1) := by decide +kernel
theorem dX10_shortOf_2 : decode cX10_shortOf 2 = .ok (.invokevirtual 272, 3) := by decide +kernel
theorem dX10_shortOf_5 : decode cX10_shortOf 5 = .ok (.istore_n 2, 1) := by decide +kernel
theorem dX10_shortOf_6 : decode cX10_shortOf 6 = .ok (.aload_n 0, 1) := by decide +kernel
theorem dX10_shortOf_7 : decode cX10_shortOf 7 = .ok (.iload_n 1, 1) := by decide +kernel
theorem dX10_shortOf_8 : decode cX10_shortOf 8 = .ok (.aload_n 0, 1) := by decide +kernel
theorem dX10_shortOf_9 : decode cX10_shortOf 9 = .ok (.aload_n 0, 1) := by decide +kernel
theorem dX10_shortOf_10 : decode cX10_shortOf 10 = .ok (.getfield 32, 3) := by decide +kernel
theorem dX10_shortOf_13 : decode cX10_shortOf 13 = .ok (.iload_n 1, 1) := by decide +kernel
theorem dX10_shortOf_14 : decode cX10_shortOf 14 = .ok (.iaload, 1) := by decide +kernel
theorem dX10_shortOf_15 : decode cX10_shortOf 15 = .ok (.invokevirtual 276, 3) := by decide +kernel
theorem dX10_shortOf_18 : decode cX10_shortOf 18 = .ok (.invokevirtual 279, 3) := by decide +kernel
theorem dX10_shortOf_21 : decode cX10_shortOf 21 = .ok (.istore_n 3, 1) := by decide +kernel
theorem dX10_shortOf_22 : decode cX10_shortOf 22 = .ok (.iconst 0, 1) := by decide +kernel
theorem dX10_shortOf_23 : decode cX10_shortOf 23 = .ok (.istore 4, 2) := by decide +kernel
theorem dX10_shortOf_25 : decode cX10_shortOf 25 = .ok (.iconst 0, 1) := by decide +kernel
theorem dX10_shortOf_26 : decode cX10_shortOf 26 = .ok (.istore 5, 2) := by decide +kernel
theorem dX10_shortOf_28 : decode cX10_shortOf 28 = .ok (.iload 5, 2) := by decide +kernel
theorem dX10_shortOf_30 : decode cX10_shortOf 30 = .ok (.aload_n 0, 1) := by decide +kernel
theorem dX10_shortOf_31 : decode cX10_shortOf 31 = .ok (.getfield 13, 3) := by decide +kernel
theorem dX10_shortOf_34 : decode cX10_shortOf 34 = .ok (.if_icmp .ge 203, 3) := by decide +kernel
theorem dX10_shortOf_37 : decode cX10_shortOf 37 = .ok (.aload_n 0, 1) := by decide +kernel
theorem dX10_shortOf_38 : decode cX10_shortOf 38 = .ok (.iload_n 1, 1) := by decide +kernel
theorem dX10_shortOf_39 : decode cX10_shortOf 39 = .ok (.iload 5, 2) := by decide +kernel
theorem dX10_shortOf_41 : decode cX10_shortOf 41 = .ok (.invokevirtual 268, 3) := by decide +kernel
theorem dX10_shortOf_44 : decode cX10_shortOf 44 = .ok (.aload_n 0, 1) := by decide +kernel
theorem dX10_shortOf_45 : decode cX10_shortOf 45 = .ok (.getfield 133, 3) := by decide +kernel
theorem dX10_shortOf_48 : decode cX10_shortOf 48 = .ok (.istore 6, 2) := by decide +kernel
theorem dX10_shortOf_50 : decode cX10_shortOf 50 = .ok (.iconst 0, 1) := by decide +kernel
theorem dX10_shortOf_51 : decode cX10_shortOf 51 = .ok (.istore 7, 2) := by decide +kernel
theorem dX10_shortOf_53 : decode cX10_shortOf 53 = .ok (.iconst 0, 1) := by decide +kernel
theorem dX10_shortOf_54 : decode cX10_shortOf 54 = .ok (.istore 8, 2) := by decide +kernel
theorem dX10_shortOf_56 : decode cX10_shortOf 56 = .ok (.iload 8, 2) := by decide +kernel
theorem dX10_shortOf_58 : decode cX10_shortOf 58 = .ok (.iload 6, 2) := by decide +kernel
theorem dX10_shortOf_60 : decode cX10_shortOf 60 = .ok (.if_icmp .ge 171, 3) := by decide +kernel
theorem dX10_shortOf_63 : decode cX10_shortOf 63 = .ok (.iconst 0, 1) := by decide +kernel
theorem dX10_shortOf_64 : decode cX10_shortOf 64 = .ok (.istore 9, 2) := by decide +kernel
theorem dX10_shortOf_66 : decode cX10_shortOf 66 = .ok (.iconst 2, 1) := by decide +kernel
theorem dX10_shortOf_67 : decode cX10_shortOf 67 = .ok (.iload 8, 2) := by decide +kernel
theorem dX10_shortOf_69 : decode cX10_shortOf 69 = .ok (.imul, 1) := by decide +kernel
theorem dX10_shortOf_70 : decode cX10_shortOf 70 = .ok (.istore 10, 2) := by decide +kernel
theorem dX10_shortOf_72 : decode cX10_shortOf 72 = .ok (.iload 10, 2) := by decide +kernel
theorem dX10_shortOf_74 : decode cX10_shortOf 74 = .ok (.iconst 2, 1) := by decide +kernel
theorem dX10_shortOf_75 : decode cX10_shortOf 75 = .ok (.iload 8, 2) := by decide +kernel
theorem dX10_shortOf_77 : decode cX10_shortOf 77 = .ok (.imul, 1) := by decide +kernel
theorem dX10_shortOf_78 : decode cX10_shortOf 78 = .ok (.iconst 2, 1) := by decide +kernel
theorem dX10_shortOf_79 : decode cX10_shortOf 79 = .ok (.iadd, 1) := by decide +kernel
theorem dX10_shortOf_80 : decode cX10_shortOf 80 = .ok (.if_icmp .ge 53, 3) := by decide +kernel
theorem dX10_shortOf_83 : decode cX10_shortOf 83 = .ok (.iload 9, 2) := by decide +kernel
theorem dX10_shortOf_85 : decode cX10_shortOf 85 = .ok (.aload_n 0, 1) := by decide +kernel
theorem dX10_shortOf_86 : decode cX10_shortOf 86 = .ok (.getfield 80, 3) := by decide +kernel
theorem dX10_shortOf_89 : decode cX10_shortOf 89 = .ok (.iload 10, 2) := by decide +kernel
theorem dX10_shortOf_91 : decode cX10_shortOf 91 = .ok (.iaload, 1) := by decide +kernel
theorem dX10_shortOf_92 : decode cX10_shortOf 92 = .ok (.ifCond .le 19, 3) := by decide +kernel
theorem dX10_shortOf_95 : decode cX10_shortOf 95 = .ok (.aload_n 0, 1) := by decide +kernel
theorem dX10_shortOf_96 : decode cX10_shortOf 96 = .ok (.iload 7, 2) := by decide +kernel
theorem dX10_shortOf_98 : decode cX10_shortOf 98 = .ok (.aload_n 0, 1) := by decide +kernel
theorem dX10_shortOf_99 : decode cX10_shortOf 99 = .ok (.getfield 80, 3) := by decide +kernel
theorem dX10_shortOf_102 : decode cX10_shortOf 102 = .ok (.iload 10, 2) := by decide +kernel
theorem dX10_shortOf_104 : decode cX10_shortOf 104 = .ok (.iaload, 1) := by decide +kernel
theorem dX10_shortOf_105 : decode cX10_shortOf 105 = .ok (.invokevirtual 122, 3) := by decide +kernel
theorem dX10_shortOf_108 : decode cX10_shortOf 108 = .ok (.goto 4, 3) := by decide +kernel
theorem dX10_shortOf_111 : decode cX10_shortOf 111 = .ok (.iconst 0, 1) := by decide +kernel
theorem dX10_shortOf_112 : decode cX10_shortOf 112 = .ok (.iadd, 1) := by decide +kernel
theorem dX10_shortOf_113 : decode cX10_shortOf 113 = .ok (.istore 9, 2) := by decide +kernel
theorem dX10_shortOf_115 : decode cX10_shortOf 115 = .ok (.iload 7, 2) := by decide +kernel
theorem dX10_shortOf_117 : decode cX10_shortOf 117 = .ok (.aload_n 0, 1) := by decide +kernel
theorem dX10_shortOf_118 : decode cX10_shortOf 118 = .ok (.getfield 80, 3) := by decide +kernel
theorem dX10_shortOf_121 : decode cX10_shortOf 121 = .ok (.iload 10, 2) := by decide +kernel
theorem dX10_shortOf_123 : decode cX10_shortOf 123 = .ok (.iaload, 1) := by decide +kernel
theorem dX10_shortOf_124 : decode cX10_shortOf 124 = .ok (.iadd, 1) := by decide +kernel
theorem dX10_shortOf_125 : decode cX10_shortOf 125 = .ok (.istore 7, 2) := by decide +kernel
theorem dX10_shortOf_127 : decode cX10_shortOf 127 = .ok (.iinc 10 1, 3) := by decide +kernel
theorem dX10_shortOf_130 : decode cX10_shortOf 130 = .ok (.goto (-58), 3) := by decide +kernel
theorem dX10_shortOf_133 : decode cX10_shortOf 133 = .ok (.iconst 0, 1) := by decide +kernel
theorem dX10_shortOf_134 : decode cX10_shortOf 134 = .ok (.istore 10, 2) := by decide +kernel
theorem dX10_shortOf_136 : decode cX10_shortOf 136 = .ok (.iconst 0, 1) := by decide +kernel
theorem dX10_shortOf_137 : decode cX10_shortOf 137 = .ok (.istore 11, 2) := by decide +kernel
theorem dX10_shortOf_139 : decode cX10_shortOf 139 = .ok (.iload 11, 2) := by decide +kernel
theorem dX10_shortOf_141 : decode cX10_shortOf 141 = .ok (.iload_n 3, 1) := by decide +kernel
theorem dX10_shortOf_142 : decode cX10_shortOf 142 = .ok (.if_icmp .ge 37, 3) := by decide +kernel
theorem dX10_shortOf_145 : decode cX10_shortOf 145 = .ok (.iload 10, 2) := by decide +kernel
theorem dX10_shortOf_147 : decode cX10_shortOf 147 = .ok (.aload_n 0, 1) := by decide +kernel
theorem dX10_shortOf_148 : decode cX10_shortOf 148 = .ok (.iload 11, 2) := by decide +kernel
theorem dX10_shortOf_150 : decode cX10_shortOf 150 = .ok (.iload_n 3, 1) := by decide +kernel
theorem dX10_shortOf_151 : decode cX10_shortOf 151 = .ok (.iload_n 2, 1) := by decide +kernel
theorem dX10_shortOf_152 : decode cX10_shortOf 152 = .ok (.invokevirtual 282, 3) := by decide +kernel
theorem dX10_shortOf_155 : decode cX10_shortOf 155 = .ok (.iload 6, 2) := by decide +kernel
theorem dX10_shortOf_157 : decode cX10_shortOf 157 = .ok (.imul, 1) := by decide +kernel
theorem dX10_shortOf_158 : decode cX10_shortOf 158 = .ok (.iload_n 2, 1) := by decide +kernel
theorem dX10_shortOf_159 : decode cX10_shortOf 159 = .ok (.idiv, 1) := by decide +kernel
theorem dX10_shortOf_160 : decode cX10_shortOf 160 = .ok (.iload 8, 2) := by decide +kernel
theorem dX10_shortOf_162 : decode cX10_shortOf 162 = .ok (.if_icmp .ne 7, 3) := by decide +kernel
theorem dX10_shortOf_165 : decode cX10_shortOf 165 = .ok (.iconst 1, 1) := by decide +kernel
theorem dX10_shortOf_166 : decode cX10_shortOf 166 = .ok (.goto 4, 3) := by decide +kernel
theorem dX10_shortOf_169 : decode cX10_shortOf 169 = .ok (.iconst 0, 1) := by decide +kernel
theorem dX10_shortOf_170 : decode cX10_shortOf 170 = .ok (.iadd, 1) := by decide +kernel
theorem dX10_shortOf_171 : decode cX10_shortOf 171 = .ok (.istore 10, 2) := by decide +kernel
theorem dX10_shortOf_173 : decode cX10_shortOf 173 = .ok (.iinc 11 1, 3) := by decide +kernel
theorem dX10_shortOf_176 : decode cX10_shortOf 176 = .ok (.goto (-37), 3) := by decide +kernel
theorem dX10_shortOf_179 : decode cX10_shortOf 179 = .ok (.iload 9, 2) := by decide +kernel
theorem dX10_shortOf_181 : decode cX10_shortOf 181 = .ok (.aload_n 0, 1) := by decide +kernel
theorem dX10_shortOf_182 : decode cX10_shortOf 182 = .ok (.getfield 20, 3) := by decide +kernel
theorem dX10_shortOf_185 : decode cX10_shortOf 185 = .ok (.iload 5, 2) := by decide +kernel
theorem dX10_shortOf_187 : decode cX10_shortOf 187 = .ok (.iaload, 1) := by decide +kernel
theorem dX10_shortOf_188 : decode cX10_shortOf 188 = .ok (.iadd, 1) := by decide +kernel
theorem dX10_shortOf_189 : decode cX10_shortOf 189 = .ok (.iconst 1, 1) := by decide +kernel
theorem dX10_shortOf_190 : decode cX10_shortOf 190 = .ok (.isub, 1) := by decide +kernel
theorem dX10_shortOf_191 : decode cX10_shortOf 191 = .ok (.aload_n 0, 1) := by decide +kernel
theorem dX10_shortOf_192 : decode cX10_shortOf 192 = .ok (.getfield 20, 3) := by decide +kernel
theorem dX10_shortOf_195 : decode cX10_shortOf 195 = .ok (.iload 5, 2) := by decide +kernel
theorem dX10_shortOf_197 : decode cX10_shortOf 197 = .ok (.iaload, 1) := by decide +kernel
theorem dX10_shortOf_198 : decode cX10_shortOf 198 = .ok (.idiv, 1) := by decide +kernel
theorem dX10_shortOf_199 : decode cX10_shortOf 199 = .ok (.aload_n 0, 1) := by decide +kernel
theorem dX10_shortOf_200 : decode cX10_shortOf 200 = .ok (.getfield 23, 3) := by decide +kernel
theorem dX10_shortOf_203 : decode cX10_shortOf 203 = .ok (.iload 10, 2) := by decide +kernel
theorem dX10_shortOf_205 : decode cX10_shortOf 205 = .ok (.imul, 1) := by decide +kernel
theorem dX10_shortOf_206 : decode cX10_shortOf 206 = .ok (.isub, 1) := by decide +kernel
theorem dX10_shortOf_207 : decode cX10_shortOf 207 = .ok (.istore 11, 2) := by decide +kernel
theorem dX10_shortOf_209 : decode cX10_shortOf 209 = .ok (.iload 11, 2) := by decide +kernel
theorem dX10_shortOf_211 : decode cX10_shortOf 211 = .ok (.iload 4, 2) := by decide +kernel
theorem dX10_shortOf_213 : decode cX10_shortOf 213 = .ok (.if_icmp .le 8, 3) := by decide +kernel
theorem dX10_shortOf_216 : decode cX10_shortOf 216 = .ok (.iload 11, 2) := by decide +kernel
theorem dX10_shortOf_218 : decode cX10_shortOf 218 = .ok (.goto 5, 3) := by decide +kernel
theorem dX10_shortOf_221 : decode cX10_shortOf 221 = .ok (.iload 4, 2) := by decide +kernel
theorem dX10_shortOf_223 : decode cX10_shortOf 223 = .ok (.istore 4, 2) := by decide +kernel
theorem dX10_shortOf_225 : decode cX10_shortOf 225 = .ok (.iinc 8 1, 3) := by decide +kernel
theorem dX10_shortOf_228 : decode cX10_shortOf 228 = .ok (.goto (-172), 3) := by decide +kernel
theorem dX10_shortOf_231 : decode cX10_shortOf 231 = .ok (.iinc 5 1, 3) := by decide +kernel
theorem dX10_shortOf_234 : decode cX10_shortOf 234 = .ok (.goto (-206), 3) := by decide +kernel
theorem dX10_shortOf_237 : decode cX10_shortOf 237 = .ok (.iload 4, 2) := by decide +kernel
theorem dX10_shortOf_239 : decode cX10_shortOf 239 = .ok (.ireturn, 1) := by decide +kernel
theorem dX10_fails_0 : decode cX10_fails 0 = .ok (.aload_n 0, 1) := by decide +kernel
theorem dX10_fails_1 : decode cX10_fails 1 = .ok (.iload_n 1, 1) := by decide +kernel
theorem dX10_fails_2 : decode cX10_fails 2 = .ok (.putfield 113, 3) := by decide +kernel
theorem dX10_fails_5 : decode cX10_fails 5 = .ok (.iconst 0, 1) := by decide +kernel
theorem dX10_fails_6 : decode cX10_fails 6 = .ok (.ireturn, 1) := by decide +kernel
theorem dX10_title__0 : decode cX10_title_ 0 = .ok (.aload_n 0, 1) := by decide +kernel
theorem dX10_title__1 : decode cX10_title_ 1 = .ok (.iconst 0, 1) := by decide +kernel
theorem dX10_title__2 : decode cX10_title_ 2 = .ok (.putfield 113, 3) := by decide +kernel
theorem dX10_title__5 : decode cX10_title_ 5 = .ok (.aload_n 0, 1) := by decide +kernel
theorem dX10_title__6 : decode cX10_title_ 6 = .ok (.iload_n 1, 1) := by decide +kernel
theorem dX10_title__7 : decode cX10_title_ 7 = .ok (.invokevirtual 259, 3) := by decide +kernel
theorem dX10_title__10 : decode cX10_title_ 10 = .ok (.ifCond .ne 9, 3) := by decide +kernel
theorem dX10_title__13 : decode cX10_title_ 13 = .ok (.aload_n 0, 1) := by decide +kernel
theorem dX10_title__14 : decode cX10_title_ 14 = .ok (.iconst 1, 1) := by decide +kernel
theorem dX10_title__15 : decode cX10_title_ 15 = .ok (.invokevirtual 285, 3) := by decide +kernel
theorem dX10_title__18 : decode cX10_title_ 18 = .ok (.ireturn, 1) := by decide +kernel
theorem dX10_title__19 : decode cX10_title_ 19 = .ok (.iload_n 2, 1) := by decide +kernel
theorem dX10_title__20 : decode cX10_title_ 20 = .ok (.tableswitch 132 0 4 #[36, 48, 54, 70, 76], 36) := by decide +kernel
theorem dX10_title__56 : decode cX10_title_ 56 = .ok (.aload_n 0, 1) := by decide +kernel
theorem dX10_title__57 : decode cX10_title_ 57 = .ok (.getfield 26, 3) := by decide +kernel
theorem dX10_title__60 : decode cX10_title_ 60 = .ok (.aload_n 0, 1) := by decide +kernel
theorem dX10_title__61 : decode cX10_title_ 61 = .ok (.getfield 32, 3) := by decide +kernel
theorem dX10_title__64 : decode cX10_title_ 64 = .ok (.iload_n 1, 1) := by decide +kernel
theorem dX10_title__65 : decode cX10_title_ 65 = .ok (.iaload, 1) := by decide +kernel
theorem dX10_title__66 : decode cX10_title_ 66 = .ok (.iaload, 1) := by decide +kernel
theorem dX10_title__67 : decode cX10_title_ 67 = .ok (.ireturn, 1) := by decide +kernel
theorem dX10_title__68 : decode cX10_title_ 68 = .ok (.aload_n 0, 1) := by decide +kernel
theorem dX10_title__69 : decode cX10_title_ 69 = .ok (.iload_n 1, 1) := by decide +kernel
theorem dX10_title__70 : decode cX10_title_ 70 = .ok (.invokevirtual 272, 3) := by decide +kernel
theorem dX10_title__73 : decode cX10_title_ 73 = .ok (.ireturn, 1) := by decide +kernel
theorem dX10_title__74 : decode cX10_title_ 74 = .ok (.aload_n 0, 1) := by decide +kernel
theorem dX10_title__75 : decode cX10_title_ 75 = .ok (.iload_n 1, 1) := by decide +kernel
theorem dX10_title__76 : decode cX10_title_ 76 = .ok (.aload_n 0, 1) := by decide +kernel
theorem dX10_title__77 : decode cX10_title_ 77 = .ok (.aload_n 0, 1) := by decide +kernel
theorem dX10_title__78 : decode cX10_title_ 78 = .ok (.getfield 32, 3) := by decide +kernel
theorem dX10_title__81 : decode cX10_title_ 81 = .ok (.iload_n 1, 1) := by decide +kernel
theorem dX10_title__82 : decode cX10_title_ 82 = .ok (.iaload, 1) := by decide +kernel
theorem dX10_title__83 : decode cX10_title_ 83 = .ok (.invokevirtual 276, 3) := by decide +kernel
theorem dX10_title__86 : decode cX10_title_ 86 = .ok (.invokevirtual 279, 3) := by decide +kernel
theorem dX10_title__89 : decode cX10_title_ 89 = .ok (.ireturn, 1) := by decide +kernel
theorem dX10_title__90 : decode cX10_title_ 90 = .ok (.aload_n 0, 1) := by decide +kernel
theorem dX10_title__91 : decode cX10_title_ 91 = .ok (.iload_n 1, 1) := by decide +kernel
theorem dX10_title__92 : decode cX10_title_ 92 = .ok (.invokevirtual 288, 3) := by decide +kernel
theorem dX10_title__95 : decode cX10_title_ 95 = .ok (.ireturn, 1) := by decide +kernel
theorem dX10_title__96 : decode cX10_title_ 96 = .ok (.aload_n 0, 1) := by decide +kernel
theorem dX10_title__97 : decode cX10_title_ 97 = .ok (.getfield 55, 3) := by decide +kernel
theorem dX10_title__100 : decode cX10_title_ 100 = .ok (.iconst 4, 1) := by decide +kernel
theorem dX10_title__101 : decode cX10_title_ 101 = .ok (.iload_n 1, 1) := by decide +kernel
theorem dX10_title__102 : decode cX10_title_ 102 = .ok (.imul, 1) := by decide +kernel
theorem dX10_title__103 : decode cX10_title_ 103 = .ok (.baload, 1) := by decide +kernel
theorem dX10_title__104 : decode cX10_title_ 104 = .ok (.ifCond .ne 42, 3) := by decide +kernel
theorem dX10_title__107 : decode cX10_title_ 107 = .ok (.aload_n 0, 1) := by decide +kernel
theorem dX10_title__108 : decode cX10_title_ 108 = .ok (.getfield 55, 3) := by decide +kernel
theorem dX10_title__111 : decode cX10_title_ 111 = .ok (.iconst 4, 1) := by decide +kernel
theorem dX10_title__112 : decode cX10_title_ 112 = .ok (.iload_n 1, 1) := by decide +kernel
theorem dX10_title__113 : decode cX10_title_ 113 = .ok (.imul, 1) := by decide +kernel
theorem dX10_title__114 : decode cX10_title_ 114 = .ok (.iconst 1, 1) := by decide +kernel
theorem dX10_title__115 : decode cX10_title_ 115 = .ok (.iadd, 1) := by decide +kernel
theorem dX10_title__116 : decode cX10_title_ 116 = .ok (.baload, 1) := by decide +kernel
theorem dX10_title__117 : decode cX10_title_ 117 = .ok (.ifCond .ne 29, 3) := by decide +kernel
theorem dX10_title__120 : decode cX10_title_ 120 = .ok (.aload_n 0, 1) := by decide +kernel
theorem dX10_title__121 : decode cX10_title_ 121 = .ok (.getfield 55, 3) := by decide +kernel
theorem dX10_title__124 : decode cX10_title_ 124 = .ok (.iconst 4, 1) := by decide +kernel
theorem dX10_title__125 : decode cX10_title_ 125 = .ok (.iload_n 1, 1) := by decide +kernel
theorem dX10_title__126 : decode cX10_title_ 126 = .ok (.imul, 1) := by decide +kernel
theorem dX10_title__127 : decode cX10_title_ 127 = .ok (.iconst 2, 1) := by decide +kernel
theorem dX10_title__128 : decode cX10_title_ 128 = .ok (.iadd, 1) := by decide +kernel
theorem dX10_title__129 : decode cX10_title_ 129 = .ok (.baload, 1) := by decide +kernel
theorem dX10_title__130 : decode cX10_title_ 130 = .ok (.ifCond .ne 16, 3) := by decide +kernel
theorem dX10_title__133 : decode cX10_title_ 133 = .ok (.aload_n 0, 1) := by decide +kernel
theorem dX10_title__134 : decode cX10_title_ 134 = .ok (.getfield 55, 3) := by decide +kernel
theorem dX10_title__137 : decode cX10_title_ 137 = .ok (.iconst 4, 1) := by decide +kernel
theorem dX10_title__138 : decode cX10_title_ 138 = .ok (.iload_n 1, 1) := by decide +kernel
theorem dX10_title__139 : decode cX10_title_ 139 = .ok (.imul, 1) := by decide +kernel
theorem dX10_title__140 : decode cX10_title_ 140 = .ok (.iconst 3, 1) := by decide +kernel
theorem dX10_title__141 : decode cX10_title_ 141 = .ok (.iadd, 1) := by decide +kernel
theorem dX10_title__142 : decode cX10_title_ 142 = .ok (.baload, 1) := by decide +kernel
theorem dX10_title__143 : decode cX10_title_ 143 = .ok (.ifCond .eq 7, 3) := by decide +kernel
theorem dX10_title__146 : decode cX10_title_ 146 = .ok (.iconst 1, 1) := by decide +kernel
theorem dX10_title__147 : decode cX10_title_ 147 = .ok (.goto 4, 3) := by decide +kernel
theorem dX10_title__150 : decode cX10_title_ 150 = .ok (.iconst 0, 1) := by decide +kernel
theorem dX10_title__151 : decode cX10_title_ 151 = .ok (.ireturn, 1) := by decide +kernel
theorem dX10_title__152 : decode cX10_title_ 152 = .ok (.aload_n 0, 1) := by decide +kernel
theorem dX10_title__153 : decode cX10_title_ 153 = .ok (.iconst 2, 1) := by decide +kernel
theorem dX10_title__154 : decode cX10_title_ 154 = .ok (.invokevirtual 285, 3) := by decide +kernel
theorem dX10_title__157 : decode cX10_title_ 157 = .ok (.ireturn, 1) := by decide +kernel
theorem dX10_pages_0 : decode cX10_pages 0 = .ok (.aload_n 0, 1) := by decide +kernel
theorem dX10_pages_1 : decode cX10_pages 1 = .ok (.iconst 0, 1) := by decide +kernel
theorem dX10_pages_2 : decode cX10_pages 2 = .ok (.putfield 113, 3) := by decide +kernel
theorem dX10_pages_5 : decode cX10_pages 5 = .ok (.aload_n 0, 1) := by decide +kernel
theorem dX10_pages_6 : decode cX10_pages 6 = .ok (.iload_n 1, 1) := by decide +kernel
theorem dX10_pages_7 : decode cX10_pages 7 = .ok (.invokevirtual 259, 3) := by decide +kernel
theorem dX10_pages_10 : decode cX10_pages 10 = .ok (.ifCond .ne 9, 3) := by decide +kernel
theorem dX10_pages_13 : decode cX10_pages 13 = .ok (.aload_n 0, 1) := by decide +kernel
theorem dX10_pages_14 : decode cX10_pages 14 = .ok (.iconst 1, 1) := by decide +kernel
theorem dX10_pages_15 : decode cX10_pages 15 = .ok (.invokevirtual 285, 3) := by decide +kernel
theorem dX10_pages_18 : decode cX10_pages 18 = .ok (.ireturn, 1) := by decide +kernel
end
section
theorem dX10_pages_19 : decode cX10_pages 19 = .ok (.aload_n 0, 1) := by decide +kernel
theorem dX10_pages_20 : decode cX10_pages 20 = .ok (.iload_n 2, 1) := by decide +kernel
theorem dX10_pages_21 : decode cX10_pages 21 = .ok (.invokevirtual 262, 3) := by decide +kernel
theorem dX10_pages_24 : decode cX10_pages 24 = .ok (.ifCond .ne 9, 3) := by decide +kernel
theorem dX10_pages_27 : decode cX10_pages 27 = .ok (.aload_n 0, 1) := by decide +kernel
theorem dX10_pages_28 : decode cX10_pages 28 = .ok (.iconst 2, 1) := by decide +kernel
theorem dX10_pages_29 : decode cX10_pages 29 = .ok (.invokevirtual 285, 3) := by decide +kernel
theorem dX10_pages_32 : decode cX10_pages 32 = .ok (.ireturn, 1) := by decide +kernel
theorem dX10_pages_33 : decode cX10_pages 33 = .ok (.aload_n 0, 1) := by decide +kernel
theorem dX10_pages_34 : decode cX10_pages 34 = .ok (.iload_n 1, 1) := by decide +kernel
theorem dX10_pages_35 : decode cX10_pages 35 = .ok (.iload_n 2, 1) := by decide +kernel
theorem dX10_pages_36 : decode cX10_pages 36 = .ok (.invokevirtual 268, 3) := by decide +kernel
theorem dX10_pages_39 : decode cX10_pages 39 = .ok (.aload_n 0, 1) := by decide +kernel
theorem dX10_pages_40 : decode cX10_pages 40 = .ok (.getfield 133, 3) := by decide +kernel
theorem dX10_pages_43 : decode cX10_pages 43 = .ok (.ireturn, 1) := by decide +kernel
theorem dX10_price_0 : decode cX10_price 0 = .ok (.aload_n 0, 1) := by decide +kernel
theorem dX10_price_1 : decode cX10_price 1 = .ok (.iconst 0, 1) := by decide +kernel
theorem dX10_price_2 : decode cX10_price 2 = .ok (.putfield 113, 3) := by decide +kernel
theorem dX10_price_5 : decode cX10_price 5 = .ok (.aload_n 0, 1) := by decide +kernel
theorem dX10_price_6 : decode cX10_price 6 = .ok (.iload_n 1, 1) := by decide +kernel
theorem dX10_price_7 : decode cX10_price 7 = .ok (.invokevirtual 259, 3) := by decide +kernel
theorem dX10_price_10 : decode cX10_price 10 = .ok (.ifCond .ne 9, 3) := by decide +kernel
theorem dX10_price_13 : decode cX10_price 13 = .ok (.aload_n 0, 1) := by decide +kernel
theorem dX10_price_14 : decode cX10_price 14 = .ok (.iconst 1, 1) := by decide +kernel
theorem dX10_price_15 : decode cX10_price 15 = .ok (.invokevirtual 285, 3) := by decide +kernel
theorem dX10_price_18 : decode cX10_price 18 = .ok (.ireturn, 1) := by decide +kernel
theorem dX10_price_19 : decode cX10_price 19 = .ok (.aload_n 0, 1) := by decide +kernel
theorem dX10_price_20 : decode cX10_price 20 = .ok (.iload_n 2, 1) := by decide +kernel
theorem dX10_price_21 : decode cX10_price 21 = .ok (.invokevirtual 262, 3) := by decide +kernel
theorem dX10_price_24 : decode cX10_price 24 = .ok (.ifCond .ne 9, 3) := by decide +kernel
theorem dX10_price_27 : decode cX10_price 27 = .ok (.aload_n 0, 1) := by decide +kernel
theorem dX10_price_28 : decode cX10_price 28 = .ok (.iconst 2, 1) := by decide +kernel
theorem dX10_price_29 : decode cX10_price 29 = .ok (.invokevirtual 285, 3) := by decide +kernel
theorem dX10_price_32 : decode cX10_price 32 = .ok (.ireturn, 1) := by decide +kernel
theorem dX10_price_33 : decode cX10_price 33 = .ok (.aload_n 0, 1) := by decide +kernel
theorem dX10_price_34 : decode cX10_price 34 = .ok (.iload_n 1, 1) := by decide +kernel
theorem dX10_price_35 : decode cX10_price 35 = .ok (.iload_n 2, 1) := by decide +kernel
theorem dX10_price_36 : decode cX10_price 36 = .ok (.invokevirtual 268, 3) := by decide +kernel
theorem dX10_price_39 : decode cX10_price 39 = .ok (.aload_n 0, 1) := by decide +kernel
theorem dX10_price_40 : decode cX10_price 40 = .ok (.getfield 141, 3) := by decide +kernel
theorem dX10_price_43 : decode cX10_price 43 = .ok (.ireturn, 1) := by decide +kernel
theorem dX10_signOf_0 : decode cX10_signOf 0 = .ok (.aload_n 0, 1) := by decide +kernel
theorem dX10_signOf_1 : decode cX10_signOf 1 = .ok (.iload_n 1, 1) := by decide +kernel
theorem dX10_signOf_2 : decode cX10_signOf 2 = .ok (.invokevirtual 259, 3) := by decide +kernel
theorem dX10_signOf_5 : decode cX10_signOf 5 = .ok (.ifCond .eq 31, 3) := by decide +kernel
theorem dX10_signOf_8 : decode cX10_signOf 8 = .ok (.aload_n 0, 1) := by decide +kernel
theorem dX10_signOf_9 : decode cX10_signOf 9 = .ok (.iload_n 2, 1) := by decide +kernel
theorem dX10_signOf_10 : decode cX10_signOf 10 = .ok (.invokevirtual 262, 3) := by decide +kernel
theorem dX10_signOf_13 : decode cX10_signOf 13 = .ok (.ifCond .eq 23, 3) := by decide +kernel
theorem dX10_signOf_16 : decode cX10_signOf 16 = .ok (.iload_n 3, 1) := by decide +kernel
theorem dX10_signOf_17 : decode cX10_signOf 17 = .ok (.ifCond .lt 19, 3) := by decide +kernel
theorem dX10_signOf_20 : decode cX10_signOf 20 = .ok (.iload 4, 2) := by decide +kernel
theorem dX10_signOf_22 : decode cX10_signOf 22 = .ok (.ifCond .lt 14, 3) := by decide +kernel
theorem dX10_signOf_25 : decode cX10_signOf 25 = .ok (.iload 4, 2) := by decide +kernel
theorem dX10_signOf_27 : decode cX10_signOf 27 = .ok (.iconst 1, 1) := by decide +kernel
theorem dX10_signOf_28 : decode cX10_signOf 28 = .ok (.if_icmp .gt 8, 3) := by decide +kernel
theorem dX10_signOf_31 : decode cX10_signOf 31 = .ok (.iload 5, 2) := by decide +kernel
theorem dX10_signOf_33 : decode cX10_signOf 33 = .ok (.ifCond .ge 5, 3) := by decide +kernel
theorem dX10_signOf_36 : decode cX10_signOf 36 = .ok (.iconst (-1), 1) := by decide +kernel
theorem dX10_signOf_37 : decode cX10_signOf 37 = .ok (.ireturn, 1) := by decide +kernel
theorem dX10_signOf_38 : decode cX10_signOf 38 = .ok (.aload_n 0, 1) := by decide +kernel
theorem dX10_signOf_39 : decode cX10_signOf 39 = .ok (.iload_n 1, 1) := by decide +kernel
theorem dX10_signOf_40 : decode cX10_signOf 40 = .ok (.iload_n 2, 1) := by decide +kernel
theorem dX10_signOf_41 : decode cX10_signOf 41 = .ok (.invokevirtual 268, 3) := by decide +kernel
theorem dX10_signOf_44 : decode cX10_signOf 44 = .ok (.iload_n 3, 1) := by decide +kernel
theorem dX10_signOf_45 : decode cX10_signOf 45 = .ok (.aload_n 0, 1) := by decide +kernel
theorem dX10_signOf_46 : decode cX10_signOf 46 = .ok (.getfield 133, 3) := by decide +kernel
theorem dX10_signOf_49 : decode cX10_signOf 49 = .ok (.if_icmp .lt 5, 3) := by decide +kernel
theorem dX10_signOf_52 : decode cX10_signOf 52 = .ok (.iconst (-1), 1) := by decide +kernel
theorem dX10_signOf_53 : decode cX10_signOf 53 = .ok (.ireturn, 1) := by decide +kernel
theorem dX10_signOf_54 : decode cX10_signOf 54 = .ok (.iconst 0, 1) := by decide +kernel
theorem dX10_signOf_55 : decode cX10_signOf 55 = .ok (.istore 6, 2) := by decide +kernel
theorem dX10_signOf_57 : decode cX10_signOf 57 = .ok (.iconst 0, 1) := by decide +kernel
theorem dX10_signOf_58 : decode cX10_signOf 58 = .ok (.istore 7, 2) := by decide +kernel
theorem dX10_signOf_60 : decode cX10_signOf 60 = .ok (.iload 7, 2) := by decide +kernel
theorem dX10_signOf_62 : decode cX10_signOf 62 = .ok (.iconst 2, 1) := by decide +kernel
theorem dX10_signOf_63 : decode cX10_signOf 63 = .ok (.iload_n 3, 1) := by decide +kernel
theorem dX10_signOf_64 : decode cX10_signOf 64 = .ok (.imul, 1) := by decide +kernel
theorem dX10_signOf_65 : decode cX10_signOf 65 = .ok (.iload 4, 2) := by decide +kernel
theorem dX10_signOf_67 : decode cX10_signOf 67 = .ok (.iadd, 1) := by decide +kernel
theorem dX10_signOf_68 : decode cX10_signOf 68 = .ok (.if_icmp .ge 21, 3) := by decide +kernel
theorem dX10_signOf_71 : decode cX10_signOf 71 = .ok (.iload 6, 2) := by decide +kernel
theorem dX10_signOf_73 : decode cX10_signOf 73 = .ok (.aload_n 0, 1) := by decide +kernel
theorem dX10_signOf_74 : decode cX10_signOf 74 = .ok (.getfield 80, 3) := by decide +kernel
theorem dX10_signOf_77 : decode cX10_signOf 77 = .ok (.iload 7, 2) := by decide +kernel
theorem dX10_signOf_79 : decode cX10_signOf 79 = .ok (.iaload, 1) := by decide +kernel
theorem dX10_signOf_80 : decode cX10_signOf 80 = .ok (.iadd, 1) := by decide +kernel
theorem dX10_signOf_81 : decode cX10_signOf 81 = .ok (.istore 6, 2) := by decide +kernel
theorem dX10_signOf_83 : decode cX10_signOf 83 = .ok (.iinc 7 1, 3) := by decide +kernel
theorem dX10_signOf_86 : decode cX10_signOf 86 = .ok (.goto (-26), 3) := by decide +kernel
theorem dX10_signOf_89 : decode cX10_signOf 89 = .ok (.aload_n 0, 1) := by decide +kernel
theorem dX10_signOf_90 : decode cX10_signOf 90 = .ok (.getfield 80, 3) := by decide +kernel
theorem dX10_signOf_93 : decode cX10_signOf 93 = .ok (.iconst 2, 1) := by decide +kernel
theorem dX10_signOf_94 : decode cX10_signOf 94 = .ok (.iload_n 3, 1) := by decide +kernel
theorem dX10_signOf_95 : decode cX10_signOf 95 = .ok (.imul, 1) := by decide +kernel
theorem dX10_signOf_96 : decode cX10_signOf 96 = .ok (.iload 4, 2) := by decide +kernel
theorem dX10_signOf_98 : decode cX10_signOf 98 = .ok (.iadd, 1) := by decide +kernel
theorem dX10_signOf_99 : decode cX10_signOf 99 = .ok (.iaload, 1) := by decide +kernel
theorem dX10_signOf_100 : decode cX10_signOf 100 = .ok (.istore 7, 2) := by decide +kernel
theorem dX10_signOf_102 : decode cX10_signOf 102 = .ok (.iload 7, 2) := by decide +kernel
theorem dX10_signOf_104 : decode cX10_signOf 104 = .ok (.ifCond .eq 16, 3) := by decide +kernel
theorem dX10_signOf_107 : decode cX10_signOf 107 = .ok (.iload 5, 2) := by decide +kernel
theorem dX10_signOf_109 : decode cX10_signOf 109 = .ok (.aload_n 0, 1) := by decide +kernel
theorem dX10_signOf_110 : decode cX10_signOf 110 = .ok (.iload 6, 2) := by decide +kernel
theorem dX10_signOf_112 : decode cX10_signOf 112 = .ok (.iload 7, 2) := by decide +kernel
theorem dX10_signOf_114 : decode cX10_signOf 114 = .ok (.invokevirtual 122, 3) := by decide +kernel
theorem dX10_signOf_117 : decode cX10_signOf 117 = .ok (.if_icmp .lt 7, 3) := by decide +kernel
theorem dX10_signOf_120 : decode cX10_signOf 120 = .ok (.iconst (-1), 1) := by decide +kernel
theorem dX10_signOf_121 : decode cX10_signOf 121 = .ok (.goto 18, 3) := by decide +kernel
theorem dX10_signOf_124 : decode cX10_signOf 124 = .ok (.aload_n 0, 1) := by decide +kernel
theorem dX10_signOf_125 : decode cX10_signOf 125 = .ok (.getfield 68, 3) := by decide +kernel
theorem dX10_signOf_128 : decode cX10_signOf 128 = .ok (.aload_n 0, 1) := by decide +kernel
theorem dX10_signOf_129 : decode cX10_signOf 129 = .ok (.getfield 71, 3) := by decide +kernel
theorem dX10_signOf_132 : decode cX10_signOf 132 = .ok (.iload 6, 2) := by decide +kernel
theorem dX10_signOf_134 : decode cX10_signOf 134 = .ok (.iaload, 1) := by decide +kernel
theorem dX10_signOf_135 : decode cX10_signOf 135 = .ok (.iload 5, 2) := by decide +kernel
theorem dX10_signOf_137 : decode cX10_signOf 137 = .ok (.iadd, 1) := by decide +kernel
theorem dX10_signOf_138 : decode cX10_signOf 138 = .ok (.iaload, 1) := by decide +kernel
theorem dX10_signOf_139 : decode cX10_signOf 139 = .ok (.ireturn, 1) := by decide +kernel
theorem dX10_sign_0 : decode cX10_sign 0 = .ok (.aload_n 0, 1) := by decide +kernel
theorem dX10_sign_1 : decode cX10_sign 1 = .ok (.iconst 0, 1) := by decide +kernel
theorem dX10_sign_2 : decode cX10_sign 2 = .ok (.putfield 113, 3) := by decide +kernel
theorem dX10_sign_5 : decode cX10_sign 5 = .ok (.aload_n 0, 1) := by decide +kernel
theorem dX10_sign_6 : decode cX10_sign 6 = .ok (.iload_n 1, 1) := by decide +kernel
theorem dX10_sign_7 : decode cX10_sign 7 = .ok (.iload_n 2, 1) := by decide +kernel
theorem dX10_sign_8 : decode cX10_sign 8 = .ok (.iload_n 3, 1) := by decide +kernel
theorem dX10_sign_9 : decode cX10_sign 9 = .ok (.iload 4, 2) := by decide +kernel
theorem dX10_sign_11 : decode cX10_sign 11 = .ok (.iload 5, 2) := by decide +kernel
theorem dX10_sign_13 : decode cX10_sign 13 = .ok (.invokevirtual 291, 3) := by decide +kernel
theorem dX10_sign_16 : decode cX10_sign 16 = .ok (.ireturn, 1) := by decide +kernel
theorem dX10_standing_0 : decode cX10_standing 0 = .ok (.iconst (-1), 1) := by decide +kernel
theorem dX10_standing_1 : decode cX10_standing 1 = .ok (.istore_n 1, 1) := by decide +kernel
theorem dX10_standing_2 : decode cX10_standing 2 = .ok (.iconst 0, 1) := by decide +kernel
theorem dX10_standing_3 : decode cX10_standing 3 = .ok (.istore_n 2, 1) := by decide +kernel
theorem dX10_standing_4 : decode cX10_standing 4 = .ok (.iload_n 2, 1) := by decide +kernel
theorem dX10_standing_5 : decode cX10_standing 5 = .ok (.aload_n 0, 1) := by decide +kernel
theorem dX10_standing_6 : decode cX10_standing 6 = .ok (.getfield 235, 3) := by decide +kernel
theorem dX10_standing_9 : decode cX10_standing 9 = .ok (.if_icmp .ge 33, 3) := by decide +kernel
theorem dX10_standing_12 : decode cX10_standing 12 = .ok (.aload_n 0, 1) := by decide +kernel
theorem dX10_standing_13 : decode cX10_standing 13 = .ok (.getfield 26, 3) := by decide +kernel
theorem dX10_standing_16 : decode cX10_standing 16 = .ok (.iload_n 2, 1) := by decide +kernel
theorem dX10_standing_17 : decode cX10_standing 17 = .ok (.iaload, 1) := by decide +kernel
theorem dX10_standing_18 : decode cX10_standing 18 = .ok (.aload_n 0, 1) := by decide +kernel
theorem dX10_standing_19 : decode cX10_standing 19 = .ok (.getfield 247, 3) := by decide +kernel
theorem dX10_standing_22 : decode cX10_standing 22 = .ok (.if_icmp .gt 12, 3) := by decide +kernel
theorem dX10_standing_25 : decode cX10_standing 25 = .ok (.aload_n 0, 1) := by decide +kernel
theorem dX10_standing_26 : decode cX10_standing 26 = .ok (.getfield 29, 3) := by decide +kernel
theorem dX10_standing_29 : decode cX10_standing 29 = .ok (.iload_n 2, 1) := by decide +kernel
theorem dX10_standing_30 : decode cX10_standing 30 = .ok (.iaload, 1) := by decide +kernel
theorem dX10_standing_31 : decode cX10_standing 31 = .ok (.goto 4, 3) := by decide +kernel
theorem dX10_standing_34 : decode cX10_standing 34 = .ok (.iload_n 1, 1) := by decide +kernel
theorem dX10_standing_35 : decode cX10_standing 35 = .ok (.istore_n 1, 1) := by decide +kernel
theorem dX10_standing_36 : decode cX10_standing 36 = .ok (.iinc 2 1, 3) := by decide +kernel
theorem dX10_standing_39 : decode cX10_standing 39 = .ok (.goto (-35), 3) := by decide +kernel
theorem dX10_standing_42 : decode cX10_standing 42 = .ok (.iload_n 1, 1) := by decide +kernel
theorem dX10_standing_43 : decode cX10_standing 43 = .ok (.ireturn, 1) := by decide +kernel
theorem dX10_stepNow_0 : decode cX10_stepNow 0 = .ok (.aload_n 0, 1) := by decide +kernel
theorem dX10_stepNow_1 : decode cX10_stepNow 1 = .ok (.aload_n 0, 1) := by decide +kernel
theorem dX10_stepNow_2 : decode cX10_stepNow 2 = .ok (.iload_n 1, 1) := by decide +kernel
theorem dX10_stepNow_3 : decode cX10_stepNow 3 = .ok (.aload_n 0, 1) := by decide +kernel
theorem dX10_stepNow_4 : decode cX10_stepNow 4 = .ok (.getfield 247, 3) := by decide +kernel
theorem dX10_stepNow_7 : decode cX10_stepNow 7 = .ok (.invokevirtual 279, 3) := by decide +kernel
theorem dX10_stepNow_10 : decode cX10_stepNow 10 = .ok (.aload_n 0, 1) := by decide +kernel
theorem dX10_stepNow_11 : decode cX10_stepNow 11 = .ok (.iload_n 1, 1) := by decide +kernel
theorem dX10_stepNow_12 : decode cX10_stepNow 12 = .ok (.aload_n 0, 1) := by decide +kernel
theorem dX10_stepNow_13 : decode cX10_stepNow 13 = .ok (.aload_n 0, 1) := by decide +kernel
theorem dX10_stepNow_14 : decode cX10_stepNow 14 = .ok (.getfield 32, 3) := by decide +kernel
theorem dX10_stepNow_17 : decode cX10_stepNow 17 = .ok (.iload_n 1, 1) := by decide +kernel
theorem dX10_stepNow_18 : decode cX10_stepNow 18 = .ok (.iaload, 1) := by decide +kernel
theorem dX10_stepNow_19 : decode cX10_stepNow 19 = .ok (.invokevirtual 276, 3) := by decide +kernel
theorem dX10_stepNow_22 : decode cX10_stepNow 22 = .ok (.invokevirtual 279, 3) := by decide +kernel
theorem dX10_stepNow_25 : decode cX10_stepNow 25 = .ok (.aload_n 0, 1) := by decide +kernel
theorem dX10_stepNow_26 : decode cX10_stepNow 26 = .ok (.iload_n 1, 1) := by decide +kernel
theorem dX10_stepNow_27 : decode cX10_stepNow 27 = .ok (.invokevirtual 272, 3) := by decide +kernel
theorem dX10_stepNow_30 : decode cX10_stepNow 30 = .ok (.invokevirtual 282, 3) := by decide +kernel
theorem dX10_stepNow_33 : decode cX10_stepNow 33 = .ok (.ireturn, 1) := by decide +kernel
theorem dX10_pageNow_0 : decode cX10_pageNow 0 = .ok (.aload_n 0, 1) := by decide +kernel
theorem dX10_pageNow_1 : decode cX10_pageNow 1 = .ok (.iload_n 1, 1) := by decide +kernel
theorem dX10_pageNow_2 : decode cX10_pageNow 2 = .ok (.invokevirtual 272, 3) := by decide +kernel
theorem dX10_pageNow_5 : decode cX10_pageNow 5 = .ok (.istore_n 3, 1) := by decide +kernel
theorem dX10_pageNow_6 : decode cX10_pageNow 6 = .ok (.aload_n 0, 1) := by decide +kernel
theorem dX10_pageNow_7 : decode cX10_pageNow 7 = .ok (.iload_n 1, 1) := by decide +kernel
theorem dX10_pageNow_8 : decode cX10_pageNow 8 = .ok (.invokevirtual 295, 3) := by decide +kernel
theorem dX10_pageNow_11 : decode cX10_pageNow 11 = .ok (.istore 4, 2) := by decide +kernel
theorem dX10_pageNow_13 : decode cX10_pageNow 13 = .ok (.aload_n 0, 1) := by decide +kernel
theorem dX10_pageNow_14 : decode cX10_pageNow 14 = .ok (.iload_n 1, 1) := by decide +kernel
theorem dX10_pageNow_15 : decode cX10_pageNow 15 = .ok (.iload_n 2, 1) := by decide +kernel
theorem dX10_pageNow_16 : decode cX10_pageNow 16 = .ok (.invokevirtual 268, 3) := by decide +kernel
theorem dX10_pageNow_19 : decode cX10_pageNow 19 = .ok (.iload 4, 2) := by decide +kernel
theorem dX10_pageNow_21 : decode cX10_pageNow 21 = .ok (.aload_n 0, 1) := by decide +kernel
theorem dX10_pageNow_22 : decode cX10_pageNow 22 = .ok (.getfield 133, 3) := by decide +kernel
theorem dX10_pageNow_25 : decode cX10_pageNow 25 = .ok (.imul, 1) := by decide +kernel
theorem dX10_pageNow_26 : decode cX10_pageNow 26 = .ok (.iload_n 3, 1) := by decide +kernel
theorem dX10_pageNow_27 : decode cX10_pageNow 27 = .ok (.idiv, 1) := by decide +kernel
theorem dX10_pageNow_28 : decode cX10_pageNow 28 = .ok (.ireturn, 1) := by decide +kernel
theorem dX10_shown_0 : decode cX10_shown 0 = .ok (.aload_n 0, 1) := by decide +kernel
theorem dX10_shown_1 : decode cX10_shown 1 = .ok (.iconst 0, 1) := by decide +kernel
theorem dX10_shown_2 : decode cX10_shown 2 = .ok (.putfield 113, 3) := by decide +kernel
theorem dX10_shown_5 : decode cX10_shown 5 = .ok (.aload_n 0, 1) := by decide +kernel
theorem dX10_shown_6 : decode cX10_shown 6 = .ok (.invokevirtual 298, 3) := by decide +kernel
theorem dX10_shown_9 : decode cX10_shown 9 = .ok (.istore_n 2, 1) := by decide +kernel
theorem dX10_shown_10 : decode cX10_shown 10 = .ok (.iload_n 1, 1) := by decide +kernel
theorem dX10_shown_11 : decode cX10_shown 11 = .ok (.ifCond .lt 12, 3) := by decide +kernel
theorem dX10_shown_14 : decode cX10_shown 14 = .ok (.iload_n 1, 1) := by decide +kernel
theorem dX10_shown_15 : decode cX10_shown 15 = .ok (.iconst 5, 1) := by decide +kernel
theorem dX10_shown_16 : decode cX10_shown 16 = .ok (.if_icmp .gt 7, 3) := by decide +kernel
theorem dX10_shown_19 : decode cX10_shown 19 = .ok (.iload_n 2, 1) := by decide +kernel
theorem dX10_shown_20 : decode cX10_shown 20 = .ok (.ifCond .ge 5, 3) := by decide +kernel
theorem dX10_shown_23 : decode cX10_shown 23 = .ok (.iconst (-1), 1) := by decide +kernel
theorem dX10_shown_24 : decode cX10_shown 24 = .ok (.ireturn, 1) := by decide +kernel
theorem dX10_shown_25 : decode cX10_shown 25 = .ok (.iload_n 1, 1) := by decide +kernel
theorem dX10_shown_26 : decode cX10_shown 26 = .ok (.ifCond .ne 5, 3) := by decide +kernel
theorem dX10_shown_29 : decode cX10_shown 29 = .ok (.iload_n 2, 1) := by decide +kernel
theorem dX10_shown_30 : decode cX10_shown 30 = .ok (.ireturn, 1) := by decide +kernel
theorem dX10_shown_31 : decode cX10_shown 31 = .ok (.iload_n 1, 1) := by decide +kernel
theorem dX10_shown_32 : decode cX10_shown 32 = .ok (.iconst 1, 1) := by decide +kernel
theorem dX10_shown_33 : decode cX10_shown 33 = .ok (.if_icmp .ne 9, 3) := by decide +kernel
theorem dX10_shown_36 : decode cX10_shown 36 = .ok (.aload_n 0, 1) := by decide +kernel
theorem dX10_shown_37 : decode cX10_shown 37 = .ok (.iload_n 2, 1) := by decide +kernel
theorem dX10_shown_38 : decode cX10_shown 38 = .ok (.invokevirtual 295, 3) := by decide +kernel
theorem dX10_shown_41 : decode cX10_shown 41 = .ok (.ireturn, 1) := by decide +kernel
theorem dX10_shown_42 : decode cX10_shown 42 = .ok (.aload_n 0, 1) := by decide +kernel
theorem dX10_shown_43 : decode cX10_shown 43 = .ok (.iload_n 1, 1) := by decide +kernel
theorem dX10_shown_44 : decode cX10_shown 44 = .ok (.iconst 2, 1) := by decide +kernel
theorem dX10_shown_45 : decode cX10_shown 45 = .ok (.isub, 1) := by decide +kernel
theorem dX10_shown_46 : decode cX10_shown 46 = .ok (.invokevirtual 262, 3) := by decide +kernel
theorem dX10_shown_49 : decode cX10_shown 49 = .ok (.ifCond .eq 14, 3) := by decide +kernel
theorem dX10_shown_52 : decode cX10_shown 52 = .ok (.aload_n 0, 1) := by decide +kernel
theorem dX10_shown_53 : decode cX10_shown 53 = .ok (.iload_n 2, 1) := by decide +kernel
theorem dX10_shown_54 : decode cX10_shown 54 = .ok (.iload_n 1, 1) := by decide +kernel
theorem dX10_shown_55 : decode cX10_shown 55 = .ok (.iconst 2, 1) := by decide +kernel
theorem dX10_shown_56 : decode cX10_shown 56 = .ok (.isub, 1) := by decide +kernel
theorem dX10_shown_57 : decode cX10_shown 57 = .ok (.invokevirtual 302, 3) := by decide +kernel
theorem dX10_shown_60 : decode cX10_shown 60 = .ok (.goto 4, 3) := by decide +kernel
theorem dX10_shown_63 : decode cX10_shown 63 = .ok (.iconst (-1), 1) := by decide +kernel
theorem dX10_shown_64 : decode cX10_shown 64 = .ok (.ireturn, 1) := by decide +kernel
theorem dX10_now_0 : decode cX10_now 0 = .ok (.aload_n 0, 1) := by decide +kernel
theorem dX10_now_1 : decode cX10_now 1 = .ok (.iconst 0, 1) := by decide +kernel
theorem dX10_now_2 : decode cX10_now 2 = .ok (.putfield 113, 3) := by decide +kernel
theorem dX10_now_5 : decode cX10_now 5 = .ok (.aload_n 0, 1) := by decide +kernel
theorem dX10_now_6 : decode cX10_now 6 = .ok (.invokevirtual 298, 3) := by decide +kernel
theorem dX10_now_9 : decode cX10_now 9 = .ok (.istore 4, 2) := by decide +kernel
theorem dX10_now_11 : decode cX10_now 11 = .ok (.iload 4, 2) := by decide +kernel
theorem dX10_now_13 : decode cX10_now 13 = .ok (.ifCond .lt 11, 3) := by decide +kernel
theorem dX10_now_16 : decode cX10_now 16 = .ok (.aload_n 0, 1) := by decide +kernel
theorem dX10_now_17 : decode cX10_now 17 = .ok (.iload_n 1, 1) := by decide +kernel
theorem dX10_now_18 : decode cX10_now 18 = .ok (.invokevirtual 262, 3) := by decide +kernel
theorem dX10_now_21 : decode cX10_now 21 = .ok (.ifCond .ne 5, 3) := by decide +kernel
theorem dX10_now_24 : decode cX10_now 24 = .ok (.iconst (-1), 1) := by decide +kernel
theorem dX10_now_25 : decode cX10_now 25 = .ok (.ireturn, 1) := by decide +kernel
theorem dX10_now_26 : decode cX10_now 26 = .ok (.aload_n 0, 1) := by decide +kernel
theorem dX10_now_27 : decode cX10_now 27 = .ok (.iload 4, 2) := by decide +kernel
theorem dX10_now_29 : decode cX10_now 29 = .ok (.iload_n 1, 1) := by decide +kernel
theorem dX10_now_30 : decode cX10_now 30 = .ok (.aload_n 0, 1) := by decide +kernel
theorem dX10_now_31 : decode cX10_now 31 = .ok (.iload 4, 2) := by decide +kernel
theorem dX10_now_33 : decode cX10_now 33 = .ok (.iload_n 1, 1) := by decide +kernel
theorem dX10_now_34 : decode cX10_now 34 = .ok (.invokevirtual 302, 3) := by decide +kernel
theorem dX10_now_37 : decode cX10_now 37 = .ok (.iload_n 2, 1) := by decide +kernel
theorem dX10_now_38 : decode cX10_now 38 = .ok (.iload_n 3, 1) := by decide +kernel
theorem dX10_now_39 : decode cX10_now 39 = .ok (.invokevirtual 291, 3) := by decide +kernel
theorem dX10_now_42 : decode cX10_now 42 = .ok (.ireturn, 1) := by decide +kernel
theorem dX10_count_0 : decode cX10_count 0 = .ok (.aload_n 0, 1) := by decide +kernel
theorem dX10_count_1 : decode cX10_count 1 = .ok (.iconst 0, 1) := by decide +kernel
theorem dX10_count_2 : decode cX10_count 2 = .ok (.putfield 113, 3) := by decide +kernel
theorem dX10_count_5 : decode cX10_count 5 = .ok (.iload_n 1, 1) := by decide +kernel
theorem dX10_count_6 : decode cX10_count 6 = .ok (.tableswitch 107 0 8 #[50, 55, 60, 65, 70, 83, 88, 95, 102], 50) := by decide +kernel
theorem dX10_count_56 : decode cX10_count 56 = .ok (.aload_n 0, 1) := by decide +kernel
theorem dX10_count_57 : decode cX10_count 57 = .ok (.getfield 13, 3) := by decide +kernel
theorem dX10_count_60 : decode cX10_count 60 = .ok (.ireturn, 1) := by decide +kernel
theorem dX10_count_61 : decode cX10_count 61 = .ok (.aload_n 0, 1) := by decide +kernel
theorem dX10_count_62 : decode cX10_count 62 = .ok (.getfield 238, 3) := by decide +kernel
theorem dX10_count_65 : decode cX10_count 65 = .ok (.ireturn, 1) := by decide +kernel
theorem dX10_count_66 : decode cX10_count 66 = .ok (.aload_n 0, 1) := by decide +kernel
theorem dX10_count_67 : decode cX10_count 67 = .ok (.getfield 241, 3) := by decide +kernel
theorem dX10_count_70 : decode cX10_count 70 = .ok (.ireturn, 1) := by decide +kernel
theorem dX10_count_71 : decode cX10_count 71 = .ok (.aload_n 0, 1) := by decide +kernel
theorem dX10_count_72 : decode cX10_count 72 = .ok (.getfield 247, 3) := by decide +kernel
theorem dX10_count_75 : decode cX10_count 75 = .ok (.ireturn, 1) := by decide +kernel
theorem dX10_count_76 : decode cX10_count 76 = .ok (.aload_n 0, 1) := by decide +kernel
theorem dX10_count_77 : decode cX10_count 77 = .ok (.getfield 64, 3) := by decide +kernel
theorem dX10_count_80 : decode cX10_count 80 = .ok (.ifCond .eq 7, 3) := by decide +kernel
theorem dX10_count_83 : decode cX10_count 83 = .ok (.iconst 1, 1) := by decide +kernel
theorem dX10_count_84 : decode cX10_count 84 = .ok (.goto 4, 3) := by decide +kernel
theorem dX10_count_87 : decode cX10_count 87 = .ok (.iconst 0, 1) := by decide +kernel
theorem dX10_count_88 : decode cX10_count 88 = .ok (.ireturn, 1) := by decide +kernel
theorem dX10_count_89 : decode cX10_count 89 = .ok (.aload_n 0, 1) := by decide +kernel
theorem dX10_count_90 : decode cX10_count 90 = .ok (.getfield 250, 3) := by decide +kernel
theorem dX10_count_93 : decode cX10_count 93 = .ok (.ireturn, 1) := by decide +kernel
theorem dX10_count_94 : decode cX10_count 94 = .ok (.aload_n 0, 1) := by decide +kernel
theorem dX10_count_95 : decode cX10_count 95 = .ok (.getfield 17, 3) := by decide +kernel
theorem dX10_count_98 : decode cX10_count 98 = .ok (.iconst 0, 1) := by decide +kernel
theorem dX10_count_99 : decode cX10_count 99 = .ok (.iaload, 1) := by decide +kernel
theorem dX10_count_100 : decode cX10_count 100 = .ok (.ireturn, 1) := by decide +kernel
theorem dX10_count_101 : decode cX10_count 101 = .ok (.aload_n 0, 1) := by decide +kernel
theorem dX10_count_102 : decode cX10_count 102 = .ok (.getfield 20, 3) := by decide +kernel
theorem dX10_count_105 : decode cX10_count 105 = .ok (.iconst 0, 1) := by decide +kernel
theorem dX10_count_106 : decode cX10_count 106 = .ok (.iaload, 1) := by decide +kernel
theorem dX10_count_107 : decode cX10_count 107 = .ok (.ireturn, 1) := by decide +kernel
theorem dX10_count_108 : decode cX10_count 108 = .ok (.aload_n 0, 1) := by decide +kernel
theorem dX10_count_109 : decode cX10_count 109 = .ok (.getfield 23, 3) := by decide +kernel
theorem dX10_count_112 : decode cX10_count 112 = .ok (.ireturn, 1) := by decide +kernel
theorem dX10_count_113 : decode cX10_count 113 = .ok (.iconst (-1), 1) := by decide +kernel
theorem dX10_count_114 : decode cX10_count 114 = .ok (.ireturn, 1) := by decide +kernel
theorem dJ9_max_7cf53_0 : decode cJ9_max_7cf53 0 = .ok (.iload_n 0, 1) := by decide +kernel
theorem dJ9_max_7cf53_1 : decode cJ9_max_7cf53 1 = .ok (.iload_n 1, 1) := by decide +kernel
theorem dJ9_max_7cf53_2 : decode cJ9_max_7cf53 2 = .ok (.if_icmp .lt 7, 3) := by decide +kernel
theorem dJ9_max_7cf53_5 : decode cJ9_max_7cf53 5 = .ok (.iload_n 0, 1) := by decide +kernel
theorem dJ9_max_7cf53_6 : decode cJ9_max_7cf53 6 = .ok (.goto 4, 3) := by decide +kernel
theorem dJ9_max_7cf53_9 : decode cJ9_max_7cf53 9 = .ok (.iload_n 1, 1) := by decide +kernel
theorem dJ9_max_7cf53_10 : decode cJ9_max_7cf53 10 = .ok (.ireturn, 1) := by decide +kernel
theorem dJ9_min_7cf53_0 : decode cJ9_min_7cf53 0 = .ok (.iload_n 0, 1) := by decide +kernel
theorem dJ9_min_7cf53_1 : decode cJ9_min_7cf53 1 = .ok (.iload_n 1, 1) := by decide +kernel
theorem dJ9_min_7cf53_2 : decode cJ9_min_7cf53 2 = .ok (.if_icmp .gt 7, 3) := by decide +kernel
theorem dJ9_min_7cf53_5 : decode cJ9_min_7cf53 5 = .ok (.iload_n 0, 1) := by decide +kernel
theorem dJ9_min_7cf53_6 : decode cJ9_min_7cf53 6 = .ok (.goto 4, 3) := by decide +kernel
theorem dJ9_min_7cf53_9 : decode cJ9_min_7cf53 9 = .ok (.iload_n 1, 1) := by decide +kernel
theorem dJ9_min_7cf53_10 : decode cJ9_min_7cf53 10 = .ok (.ireturn, 1) := by decide +kernel
theorem dJ0_length_8abf5_0 : decode cJ0_length_8abf5 0 = .ok (.aload_n 0, 1) := by decide +kernel
theorem dJ0_length_8abf5_1 : decode cJ0_length_8abf5 1 = .ok (.getfield 9, 3) := by decide +kernel
theorem dJ0_length_8abf5_4 : decode cJ0_length_8abf5 4 = .ok (.arraylength, 1) := by decide +kernel
theorem dJ0_length_8abf5_5 : decode cJ0_length_8abf5 5 = .ok (.aload_n 0, 1) := by decide +kernel
theorem dJ0_length_8abf5_6 : decode cJ0_length_8abf5 6 = .ok (.invokevirtual 335, 3) := by decide +kernel
theorem dJ0_length_8abf5_9 : decode cJ0_length_8abf5 9 = .ok (.ishr, 1) := by decide +kernel
theorem dJ0_length_8abf5_10 : decode cJ0_length_8abf5 10 = .ok (.ireturn, 1) := by decide +kernel
theorem dJ0_charAt_5068e_0 : decode cJ0_charAt_5068e 0 = .ok (.aload_n 0, 1) := by decide +kernel
theorem dJ0_charAt_5068e_1 : decode cJ0_charAt_5068e 1 = .ok (.invokevirtual 492, 3) := by decide +kernel
theorem dJ0_charAt_5068e_4 : decode cJ0_charAt_5068e 4 = .ok (.ifCond .eq 12, 3) := by decide +kernel
theorem dJ0_charAt_5068e_7 : decode cJ0_charAt_5068e 7 = .ok (.aload_n 0, 1) := by decide +kernel
theorem dJ0_charAt_5068e_8 : decode cJ0_charAt_5068e 8 = .ok (.getfield 9, 3) := by decide +kernel
theorem dJ0_charAt_5068e_11 : decode cJ0_charAt_5068e 11 = .ok (.iload_n 1, 1) := by decide +kernel
theorem dJ0_charAt_5068e_12 : decode cJ0_charAt_5068e 12 = .ok (.invokestatic 495, 3) := by decide +kernel
theorem dJ0_charAt_5068e_15 : decode cJ0_charAt_5068e 15 = .ok (.ireturn, 1) := by decide +kernel
theorem dJ0_charAt_5068e_16 : decode cJ0_charAt_5068e 16 = .ok (.aload_n 0, 1) := by decide +kernel
theorem dJ0_charAt_5068e_17 : decode cJ0_charAt_5068e 17 = .ok (.getfield 9, 3) := by decide +kernel
theorem dJ0_charAt_5068e_20 : decode cJ0_charAt_5068e 20 = .ok (.iload_n 1, 1) := by decide +kernel
theorem dJ0_charAt_5068e_21 : decode cJ0_charAt_5068e 21 = .ok (.invokestatic 498, 3) := by decide +kernel
theorem dJ0_charAt_5068e_24 : decode cJ0_charAt_5068e 24 = .ok (.ireturn, 1) := by decide +kernel
theorem dJ0_coder_7d493_0 : decode cJ0_coder_7d493 0 = .ok (.getstatic 38, 3) := by decide +kernel
theorem dJ0_coder_7d493_3 : decode cJ0_coder_7d493 3 = .ok (.ifCond .eq 10, 3) := by decide +kernel
theorem dJ0_coder_7d493_6 : decode cJ0_coder_7d493 6 = .ok (.aload_n 0, 1) := by decide +kernel
theorem dJ0_coder_7d493_7 : decode cJ0_coder_7d493 7 = .ok (.getfield 15, 3) := by decide +kernel
theorem dJ0_coder_7d493_10 : decode cJ0_coder_7d493 10 = .ok (.goto 4, 3) := by decide +kernel
theorem dJ0_coder_7d493_13 : decode cJ0_coder_7d493 13 = .ok (.iconst 1, 1) := by decide +kernel
theorem dJ0_coder_7d493_14 : decode cJ0_coder_7d493 14 = .ok (.ireturn, 1) := by decide +kernel
theorem dJ0_isLatin1_aae02_0 : decode cJ0_isLatin1_aae02 0 = .ok (.getstatic 38, 3) := by decide +kernel
theorem dJ0_isLatin1_aae02_3 : decode cJ0_isLatin1_aae02 3 = .ok (.ifCond .eq 14, 3) := by decide +kernel
theorem dJ0_isLatin1_aae02_6 : decode cJ0_isLatin1_aae02 6 = .ok (.aload_n 0, 1) := by decide +kernel
theorem dJ0_isLatin1_aae02_7 : decode cJ0_isLatin1_aae02 7 = .ok (.getfield 15, 3) := by decide +kernel
theorem dJ0_isLatin1_aae02_10 : decode cJ0_isLatin1_aae02 10 = .ok (.ifCond .ne 7, 3) := by decide +kernel
theorem dJ0_isLatin1_aae02_13 : decode cJ0_isLatin1_aae02 13 = .ok (.iconst 1, 1) := by decide +kernel
theorem dJ0_isLatin1_aae02_14 : decode cJ0_isLatin1_aae02 14 = .ok (.goto 4, 3) := by decide +kernel
theorem dJ0_isLatin1_aae02_17 : decode cJ0_isLatin1_aae02 17 = .ok (.iconst 0, 1) := by decide +kernel
theorem dJ0_isLatin1_aae02_18 : decode cJ0_isLatin1_aae02 18 = .ok (.ireturn, 1) := by decide +kernel
theorem dJ0_checkIndex_df160_0 : decode cJ0_checkIndex_df160 0 = .ok (.iload_n 0, 1) := by decide +kernel
theorem dJ0_checkIndex_df160_1 : decode cJ0_checkIndex_df160 1 = .ok (.iload_n 1, 1) := by decide +kernel
theorem dJ0_checkIndex_df160_2 : decode cJ0_checkIndex_df160 2 = .ok (.getstatic 1053, 3) := by decide +kernel
theorem dJ0_checkIndex_df160_5 : decode cJ0_checkIndex_df160 5 = .ok (.invokestatic 1059, 3) := by decide +kernel
theorem dJ0_checkIndex_df160_8 : decode cJ0_checkIndex_df160 8 = .ok (.pop, 1) := by decide +kernel
theorem dJ0_checkIndex_df160_9 : decode cJ0_checkIndex_df160 9 = .ok (.return_, 1) := by decide +kernel
theorem dJ1_charAt_3b067_0 : decode cJ1_charAt_3b067 0 = .ok (.iload_n 1, 1) := by decide +kernel
theorem dJ1_charAt_3b067_1 : decode cJ1_charAt_3b067 1 = .ok (.aload_n 0, 1) := by decide +kernel
theorem dJ1_charAt_3b067_2 : decode cJ1_charAt_3b067 2 = .ok (.arraylength, 1) := by decide +kernel
theorem dJ1_charAt_3b067_3 : decode cJ1_charAt_3b067 3 = .ok (.invokestatic 9, 3) := by decide +kernel
theorem dJ1_charAt_3b067_6 : decode cJ1_charAt_3b067 6 = .ok (.aload_n 0, 1) := by decide +kernel
theorem dJ1_charAt_3b067_7 : decode cJ1_charAt_3b067 7 = .ok (.iload_n 1, 1) := by decide +kernel
theorem dJ1_charAt_3b067_8 : decode cJ1_charAt_3b067 8 = .ok (.baload, 1) := by decide +kernel
theorem dJ1_charAt_3b067_9 : decode cJ1_charAt_3b067 9 = .ok (.sipush 255, 3) := by decide +kernel
theorem dJ1_charAt_3b067_12 : decode cJ1_charAt_3b067 12 = .ok (.iand, 1) := by decide +kernel
theorem dJ1_charAt_3b067_13 : decode cJ1_charAt_3b067 13 = .ok (.i2c, 1) := by decide +kernel
theorem dJ1_charAt_3b067_14 : decode cJ1_charAt_3b067 14 = .ok (.ireturn, 1) := by decide +kernel
theorem dJ2_getChar_3b067_0 : decode cJ2_getChar_3b067 0 = .ok (.getstatic 44, 3) := by decide +kernel
theorem dJ2_getChar_3b067_3 : decode cJ2_getChar_3b067 3 = .ok (.ifCond .ne 25, 3) := by decide +kernel
theorem dJ2_getChar_3b067_6 : decode cJ2_getChar_3b067 6 = .ok (.iload_n 1, 1) := by decide +kernel
theorem dJ2_getChar_3b067_7 : decode cJ2_getChar_3b067 7 = .ok (.ifCond .lt 11, 3) := by decide +kernel
theorem dJ2_getChar_3b067_10 : decode cJ2_getChar_3b067 10 = .ok (.iload_n 1, 1) := by decide +kernel
theorem dJ2_getChar_3b067_11 : decode cJ2_getChar_3b067 11 = .ok (.aload_n 0, 1) := by decide +kernel
theorem dJ2_getChar_3b067_12 : decode cJ2_getChar_3b067 12 = .ok (.invokestatic 48, 3) := by decide +kernel
theorem dJ2_getChar_3b067_15 : decode cJ2_getChar_3b067 15 = .ok (.if_icmp .lt 13, 3) := by decide +kernel
theorem dJ2_getChar_3b067_18 : decode cJ2_getChar_3b067 18 = .ok (.new 52, 3) := by decide +kernel
theorem dJ2_getChar_3b067_21 : decode cJ2_getChar_3b067 21 = .ok (.dup, 1) := by decide +kernel
theorem dJ2_getChar_3b067_22 : decode cJ2_getChar_3b067 22 = .ok (.ldc 54, 2) := by decide +kernel
theorem dJ2_getChar_3b067_24 : decode cJ2_getChar_3b067 24 = .ok (.invokespecial 56, 3) := by decide +kernel
theorem dJ2_getChar_3b067_27 : decode cJ2_getChar_3b067 27 = .ok (.athrow, 1) := by decide +kernel
theorem dJ2_getChar_3b067_28 : decode cJ2_getChar_3b067 28 = .ok (.iload_n 1, 1) := by decide +kernel
theorem dJ2_getChar_3b067_29 : decode cJ2_getChar_3b067 29 = .ok (.iconst 1, 1) := by decide +kernel
theorem dJ2_getChar_3b067_30 : decode cJ2_getChar_3b067 30 = .ok (.ishl, 1) := by decide +kernel
theorem dJ2_getChar_3b067_31 : decode cJ2_getChar_3b067 31 = .ok (.istore_n 1, 1) := by decide +kernel
theorem dJ2_getChar_3b067_32 : decode cJ2_getChar_3b067 32 = .ok (.aload_n 0, 1) := by decide +kernel
theorem dJ2_getChar_3b067_33 : decode cJ2_getChar_3b067 33 = .ok (.iload_n 1, 1) := by decide +kernel
theorem dJ2_getChar_3b067_34 : decode cJ2_getChar_3b067 34 = .ok (.iinc 1 1, 3) := by decide +kernel
theorem dJ2_getChar_3b067_37 : decode cJ2_getChar_3b067 37 = .ok (.baload, 1) := by decide +kernel
theorem dJ2_getChar_3b067_38 : decode cJ2_getChar_3b067 38 = .ok (.sipush 255, 3) := by decide +kernel
theorem dJ2_getChar_3b067_41 : decode cJ2_getChar_3b067 41 = .ok (.iand, 1) := by decide +kernel
theorem dJ2_getChar_3b067_42 : decode cJ2_getChar_3b067 42 = .ok (.getstatic 59, 3) := by decide +kernel
theorem dJ2_getChar_3b067_45 : decode cJ2_getChar_3b067 45 = .ok (.ishl, 1) := by decide +kernel
theorem dJ2_getChar_3b067_46 : decode cJ2_getChar_3b067 46 = .ok (.aload_n 0, 1) := by decide +kernel
theorem dJ2_getChar_3b067_47 : decode cJ2_getChar_3b067 47 = .ok (.iload_n 1, 1) := by decide +kernel
theorem dJ2_getChar_3b067_48 : decode cJ2_getChar_3b067 48 = .ok (.baload, 1) := by decide +kernel
theorem dJ2_getChar_3b067_49 : decode cJ2_getChar_3b067 49 = .ok (.sipush 255, 3) := by decide +kernel
theorem dJ2_getChar_3b067_52 : decode cJ2_getChar_3b067 52 = .ok (.iand, 1) := by decide +kernel
theorem dJ2_getChar_3b067_53 : decode cJ2_getChar_3b067 53 = .ok (.getstatic 63, 3) := by decide +kernel
theorem dJ2_getChar_3b067_56 : decode cJ2_getChar_3b067 56 = .ok (.ishl, 1) := by decide +kernel
theorem dJ2_getChar_3b067_57 : decode cJ2_getChar_3b067 57 = .ok (.ior, 1) := by decide +kernel
theorem dJ2_getChar_3b067_58 : decode cJ2_getChar_3b067 58 = .ok (.i2c, 1) := by decide +kernel
theorem dJ2_getChar_3b067_59 : decode cJ2_getChar_3b067 59 = .ok (.ireturn, 1) := by decide +kernel
theorem dJ2_length_9d52b_0 : decode cJ2_length_9d52b 0 = .ok (.aload_n 0, 1) := by decide +kernel
theorem dJ2_length_9d52b_1 : decode cJ2_length_9d52b 1 = .ok (.arraylength, 1) := by decide +kernel
theorem dJ2_length_9d52b_2 : decode cJ2_length_9d52b 2 = .ok (.iconst 1, 1) := by decide +kernel
theorem dJ2_length_9d52b_3 : decode cJ2_length_9d52b 3 = .ok (.ishr, 1) := by decide +kernel
theorem dJ2_length_9d52b_4 : decode cJ2_length_9d52b 4 = .ok (.ireturn, 1) := by decide +kernel
theorem dJ2_charAt_3b067_0 : decode cJ2_charAt_3b067 0 = .ok (.iload_n 1, 1) := by decide +kernel
theorem dJ2_charAt_3b067_1 : decode cJ2_charAt_3b067 1 = .ok (.aload_n 0, 1) := by decide +kernel
theorem dJ2_charAt_3b067_2 : decode cJ2_charAt_3b067 2 = .ok (.invokestatic 67, 3) := by decide +kernel
theorem dJ2_charAt_3b067_5 : decode cJ2_charAt_3b067 5 = .ok (.aload_n 0, 1) := by decide +kernel
theorem dJ2_charAt_3b067_6 : decode cJ2_charAt_3b067 6 = .ok (.iload_n 1, 1) := by decide +kernel
theorem dJ2_charAt_3b067_7 : decode cJ2_charAt_3b067 7 = .ok (.invokestatic 71, 3) := by decide +kernel
theorem dJ2_charAt_3b067_10 : decode cJ2_charAt_3b067 10 = .ok (.ireturn, 1) := by decide +kernel
theorem dJ2_checkIndex_2214a_0 : decode cJ2_checkIndex_2214a 0 = .ok (.iload_n 0, 1) := by decide +kernel
theorem dJ2_checkIndex_2214a_1 : decode cJ2_checkIndex_2214a 1 = .ok (.aload_n 1, 1) := by decide +kernel
theorem dJ2_checkIndex_2214a_2 : decode cJ2_checkIndex_2214a 2 = .ok (.invokestatic 48, 3) := by decide +kernel
theorem dJ2_checkIndex_2214a_5 : decode cJ2_checkIndex_2214a 5 = .ok (.invokestatic 414, 3) := by decide +kernel
theorem dJ2_checkIndex_2214a_8 : decode cJ2_checkIndex_2214a 8 = .ok (.return_, 1) := by decide +kernel
theorem dJ7_fill_53178_0 : decode cJ7_fill_53178 0 = .ok (.iconst 0, 1) := by decide +kernel
theorem dJ7_fill_53178_1 : decode cJ7_fill_53178 1 = .ok (.istore_n 2, 1) := by decide +kernel
theorem dJ7_fill_53178_2 : decode cJ7_fill_53178 2 = .ok (.aload_n 0, 1) := by decide +kernel
theorem dJ7_fill_53178_3 : decode cJ7_fill_53178 3 = .ok (.arraylength, 1) := by decide +kernel
theorem dJ7_fill_53178_4 : decode cJ7_fill_53178 4 = .ok (.istore_n 3, 1) := by decide +kernel
theorem dJ7_fill_53178_5 : decode cJ7_fill_53178 5 = .ok (.iload_n 2, 1) := by decide +kernel
theorem dJ7_fill_53178_6 : decode cJ7_fill_53178 6 = .ok (.iload_n 3, 1) := by decide +kernel
theorem dJ7_fill_53178_7 : decode cJ7_fill_53178 7 = .ok (.if_icmp .ge 13, 3) := by decide +kernel
theorem dJ7_fill_53178_10 : decode cJ7_fill_53178 10 = .ok (.aload_n 0, 1) := by decide +kernel
theorem dJ7_fill_53178_11 : decode cJ7_fill_53178 11 = .ok (.iload_n 2, 1) := by decide +kernel
theorem dJ7_fill_53178_12 : decode cJ7_fill_53178 12 = .ok (.iload_n 1, 1) := by decide +kernel
theorem dJ7_fill_53178_13 : decode cJ7_fill_53178 13 = .ok (.iastore, 1) := by decide +kernel
theorem dJ7_fill_53178_14 : decode cJ7_fill_53178 14 = .ok (.iinc 2 1, 3) := by decide +kernel
theorem dJ7_fill_53178_17 : decode cJ7_fill_53178 17 = .ok (.goto (-12), 3) := by decide +kernel
theorem dJ7_fill_53178_20 : decode cJ7_fill_53178 20 = .ok (.return_, 1) := by decide +kernel
theorem dJ7_copyOf_9075b_0 : decode cJ7_copyOf_9075b 0 = .ok (.iload_n 1, 1) := by decide +kernel
theorem dJ7_copyOf_9075b_1 : decode cJ7_copyOf_9075b 1 = .ok (.aload_n 0, 1) := by decide +kernel
theorem dJ7_copyOf_9075b_2 : decode cJ7_copyOf_9075b 2 = .ok (.arraylength, 1) := by decide +kernel
theorem dJ7_copyOf_9075b_3 : decode cJ7_copyOf_9075b 3 = .ok (.if_icmp .ne 11, 3) := by decide +kernel
theorem dJ7_copyOf_9075b_6 : decode cJ7_copyOf_9075b 6 = .ok (.aload_n 0, 1) := by decide +kernel
theorem dJ7_copyOf_9075b_7 : decode cJ7_copyOf_9075b 7 = .ok (.invokevirtual 310, 3) := by decide +kernel
theorem dJ7_copyOf_9075b_10 : decode cJ7_copyOf_9075b 10 = .ok (.checkcast 311, 3) := by decide +kernel
theorem dJ7_copyOf_9075b_13 : decode cJ7_copyOf_9075b 13 = .ok (.areturn, 1) := by decide +kernel
theorem dJ7_copyOf_9075b_14 : decode cJ7_copyOf_9075b 14 = .ok (.iload_n 1, 1) := by decide +kernel
theorem dJ7_copyOf_9075b_15 : decode cJ7_copyOf_9075b 15 = .ok (.newarray .byte, 2) := by decide +kernel
theorem dJ7_copyOf_9075b_17 : decode cJ7_copyOf_9075b 17 = .ok (.astore_n 2, 1) := by decide +kernel
theorem dJ7_copyOf_9075b_18 : decode cJ7_copyOf_9075b 18 = .ok (.aload_n 0, 1) := by decide +kernel
theorem dJ7_copyOf_9075b_19 : decode cJ7_copyOf_9075b 19 = .ok (.iconst 0, 1) := by decide +kernel
theorem dJ7_copyOf_9075b_20 : decode cJ7_copyOf_9075b 20 = .ok (.aload_n 2, 1) := by decide +kernel
theorem dJ7_copyOf_9075b_21 : decode cJ7_copyOf_9075b 21 = .ok (.iconst 0, 1) := by decide +kernel
theorem dJ7_copyOf_9075b_22 : decode cJ7_copyOf_9075b 22 = .ok (.aload_n 0, 1) := by decide +kernel
theorem dJ7_copyOf_9075b_23 : decode cJ7_copyOf_9075b 23 = .ok (.arraylength, 1) := by decide +kernel
theorem dJ7_copyOf_9075b_24 : decode cJ7_copyOf_9075b 24 = .ok (.iload_n 1, 1) := by decide +kernel
theorem dJ7_copyOf_9075b_25 : decode cJ7_copyOf_9075b 25 = .ok (.invokestatic 304, 3) := by decide +kernel
theorem dJ7_copyOf_9075b_28 : decode cJ7_copyOf_9075b 28 = .ok (.invokestatic 150, 3) := by decide +kernel
theorem dJ7_copyOf_9075b_31 : decode cJ7_copyOf_9075b 31 = .ok (.aload_n 2, 1) := by decide +kernel
theorem dJ7_copyOf_9075b_32 : decode cJ7_copyOf_9075b 32 = .ok (.areturn, 1) := by decide +kernel
theorem dJ3_checkIndex_8e157_0 : decode cJ3_checkIndex_8e157 0 = .ok (.iload_n 0, 1) := by decide +kernel
theorem dJ3_checkIndex_8e157_1 : decode cJ3_checkIndex_8e157 1 = .ok (.ifCond .lt 8, 3) := by decide +kernel
theorem dJ3_checkIndex_8e157_4 : decode cJ3_checkIndex_8e157 4 = .ok (.iload_n 0, 1) := by decide +kernel
theorem dJ3_checkIndex_8e157_5 : decode cJ3_checkIndex_8e157 5 = .ok (.iload_n 1, 1) := by decide +kernel
theorem dJ3_checkIndex_8e157_6 : decode cJ3_checkIndex_8e157 6 = .ok (.if_icmp .lt 10, 3) := by decide +kernel
theorem dJ3_checkIndex_8e157_9 : decode cJ3_checkIndex_8e157 9 = .ok (.aload_n 2, 1) := by decide +kernel
theorem dJ3_checkIndex_8e157_10 : decode cJ3_checkIndex_8e157 10 = .ok (.iload_n 0, 1) := by decide +kernel
theorem dJ3_checkIndex_8e157_11 : decode cJ3_checkIndex_8e157 11 = .ok (.iload_n 1, 1) := by decide +kernel
theorem dJ3_checkIndex_8e157_12 : decode cJ3_checkIndex_8e157 12 = .ok (.invokestatic 95, 3) := by decide +kernel
theorem dJ3_checkIndex_8e157_15 : decode cJ3_checkIndex_8e157 15 = .ok (.athrow, 1) := by decide +kernel
theorem dJ3_checkIndex_8e157_16 : decode cJ3_checkIndex_8e157 16 = .ok (.iload_n 0, 1) := by decide +kernel
theorem dJ3_checkIndex_8e157_17 : decode cJ3_checkIndex_8e157 17 = .ok (.ireturn, 1) := by decide +kernel
theorem dL_title_0 : decode cL_title 0 = .ok (.aload_n 3, 1) := by decide +kernel
theorem dL_title_1 : decode cL_title 1 = .ok (.iconst 0, 1) := by decide +kernel
theorem dL_title_2 : decode cL_title 2 = .ok (.aload_n 0, 1) := by decide +kernel
theorem dL_title_3 : decode cL_title 3 = .ok (.iload_n 1, 1) := by decide +kernel
theorem dL_title_4 : decode cL_title 4 = .ok (.iload_n 2, 1) := by decide +kernel
theorem dL_title_5 : decode cL_title 5 = .ok (.invokevirtual 7, 3) := by decide +kernel
theorem dL_title_8 : decode cL_title 8 = .ok (.i2l, 1) := by decide +kernel
theorem dL_title_9 : decode cL_title 9 = .ok (.lastore, 1) := by decide +kernel
theorem dL_title_10 : decode cL_title 10 = .ok (.goto 11, 3) := by decide +kernel
theorem dL_title_13 : decode cL_title 13 = .ok (.astore 4, 2) := by decide +kernel
theorem dL_title_15 : decode cL_title 15 = .ok (.iconst 1, 1) := by decide +kernel
theorem dL_title_16 : decode cL_title 16 = .ok (.ireturn, 1) := by decide +kernel
theorem dL_title_17 : decode cL_title 17 = .ok (.astore 4, 2) := by decide +kernel
theorem dL_title_19 : decode cL_title 19 = .ok (.iconst 2, 1) := by decide +kernel
theorem dL_title_20 : decode cL_title 20 = .ok (.ireturn, 1) := by decide +kernel
theorem dL_title_21 : decode cL_title 21 = .ok (.iconst 0, 1) := by decide +kernel
theorem dL_title_22 : decode cL_title 22 = .ok (.ireturn, 1) := by decide +kernel
theorem dL_pages_0 : decode cL_pages 0 = .ok (.aload_n 3, 1) := by decide +kernel
theorem dL_pages_1 : decode cL_pages 1 = .ok (.iconst 0, 1) := by decide +kernel
theorem dL_pages_2 : decode cL_pages 2 = .ok (.aload_n 0, 1) := by decide +kernel
theorem dL_pages_3 : decode cL_pages 3 = .ok (.iload_n 1, 1) := by decide +kernel
theorem dL_pages_4 : decode cL_pages 4 = .ok (.iload_n 2, 1) := by decide +kernel
theorem dL_pages_5 : decode cL_pages 5 = .ok (.invokevirtual 17, 3) := by decide +kernel
theorem dL_pages_8 : decode cL_pages 8 = .ok (.i2l, 1) := by decide +kernel
theorem dL_pages_9 : decode cL_pages 9 = .ok (.lastore, 1) := by decide +kernel
theorem dL_pages_10 : decode cL_pages 10 = .ok (.goto 11, 3) := by decide +kernel
theorem dL_pages_13 : decode cL_pages 13 = .ok (.astore 4, 2) := by decide +kernel
theorem dL_pages_15 : decode cL_pages 15 = .ok (.iconst 1, 1) := by decide +kernel
theorem dL_pages_16 : decode cL_pages 16 = .ok (.ireturn, 1) := by decide +kernel
theorem dL_pages_17 : decode cL_pages 17 = .ok (.astore 4, 2) := by decide +kernel
theorem dL_pages_19 : decode cL_pages 19 = .ok (.iconst 2, 1) := by decide +kernel
theorem dL_pages_20 : decode cL_pages 20 = .ok (.ireturn, 1) := by decide +kernel
theorem dL_pages_21 : decode cL_pages 21 = .ok (.iconst 0, 1) := by decide +kernel
theorem dL_pages_22 : decode cL_pages 22 = .ok (.ireturn, 1) := by decide +kernel
theorem dL_price_0 : decode cL_price 0 = .ok (.aload_n 3, 1) := by decide +kernel
theorem dL_price_1 : decode cL_price 1 = .ok (.iconst 0, 1) := by decide +kernel
theorem dL_price_2 : decode cL_price 2 = .ok (.aload_n 0, 1) := by decide +kernel
theorem dL_price_3 : decode cL_price 3 = .ok (.iload_n 1, 1) := by decide +kernel
theorem dL_price_4 : decode cL_price 4 = .ok (.iload_n 2, 1) := by decide +kernel
theorem dL_price_5 : decode cL_price 5 = .ok (.invokevirtual 20, 3) := by decide +kernel
theorem dL_price_8 : decode cL_price 8 = .ok (.i2l, 1) := by decide +kernel
theorem dL_price_9 : decode cL_price 9 = .ok (.lastore, 1) := by decide +kernel
theorem dL_price_10 : decode cL_price 10 = .ok (.goto 11, 3) := by decide +kernel
theorem dL_price_13 : decode cL_price 13 = .ok (.astore 4, 2) := by decide +kernel
theorem dL_price_15 : decode cL_price 15 = .ok (.iconst 1, 1) := by decide +kernel
theorem dL_price_16 : decode cL_price 16 = .ok (.ireturn, 1) := by decide +kernel
theorem dL_price_17 : decode cL_price 17 = .ok (.astore 4, 2) := by decide +kernel
theorem dL_price_19 : decode cL_price 19 = .ok (.iconst 2, 1) := by decide +kernel
theorem dL_price_20 : decode cL_price 20 = .ok (.ireturn, 1) := by decide +kernel
theorem dL_price_21 : decode cL_price 21 = .ok (.iconst 0, 1) := by decide +kernel
theorem dL_price_22 : decode cL_price 22 = .ok (.ireturn, 1) := by decide +kernel
theorem dL_law_0 : decode cL_law 0 = .ok (.new 8, 3) := by decide +kernel
theorem dL_law_3 : decode cL_law 3 = .ok (.dup, 1) := by decide +kernel
theorem dL_law_4 : decode cL_law 4 = .ok (.invokespecial 23, 3) := by decide +kernel
theorem dL_law_7 : decode cL_law 7 = .ok (.astore_n 1, 1) := by decide +kernel
theorem dL_law_8 : decode cL_law 8 = .ok (.new 24, 3) := by decide +kernel
theorem dL_law_11 : decode cL_law 11 = .ok (.dup, 1) := by decide +kernel
theorem dL_law_12 : decode cL_law 12 = .ok (.invokespecial 26, 3) := by decide +kernel
theorem dL_law_15 : decode cL_law 15 = .ok (.astore_n 2, 1) := by decide +kernel
theorem dL_law_16 : decode cL_law 16 = .ok (.iconst 1, 1) := by decide +kernel
theorem dL_law_17 : decode cL_law 17 = .ok (.newarray .long, 2) := by decide +kernel
theorem dL_law_19 : decode cL_law 19 = .ok (.astore_n 3, 1) := by decide +kernel
theorem dL_law_20 : decode cL_law 20 = .ok (.iconst 0, 1) := by decide +kernel
theorem dL_law_21 : decode cL_law 21 = .ok (.istore 4, 2) := by decide +kernel
theorem dL_law_23 : decode cL_law 23 = .ok (.iload 4, 2) := by decide +kernel
theorem dL_law_25 : decode cL_law 25 = .ok (.aload_n 0, 1) := by decide +kernel
theorem dL_law_26 : decode cL_law 26 = .ok (.arraylength, 1) := by decide +kernel
theorem dL_law_27 : decode cL_law 27 = .ok (.bipush 6, 2) := by decide +kernel
theorem dL_law_29 : decode cL_law 29 = .ok (.isub, 1) := by decide +kernel
theorem dL_law_30 : decode cL_law 30 = .ok (.if_icmp .gt 782, 3) := by decide +kernel
theorem dL_law_33 : decode cL_law 33 = .ok (.aload_n 0, 1) := by decide +kernel
theorem dL_law_34 : decode cL_law 34 = .ok (.iload 4, 2) := by decide +kernel
theorem dL_law_36 : decode cL_law 36 = .ok (.iaload, 1) := by decide +kernel
theorem dL_law_37 : decode cL_law 37 = .ok (.bipush 15, 2) := by decide +kernel
theorem dL_law_39 : decode cL_law 39 = .ok (.iand, 1) := by decide +kernel
theorem dL_law_40 : decode cL_law 40 = .ok (.tableswitch 766 0 14 #[76, 149, 174, 199, 210, 263, 312, 337, 390, 458, 526, 594, 667, 692, 741], 76) := by decide +kernel
theorem dL_law_116 : decode cL_law 116 = .ok (.aload_n 1, 1) := by decide +kernel
theorem dL_law_117 : decode cL_law 117 = .ok (.aload_n 0, 1) := by decide +kernel
theorem dL_law_118 : decode cL_law 118 = .ok (.iload 4, 2) := by decide +kernel
theorem dL_law_120 : decode cL_law 120 = .ok (.iconst 1, 1) := by decide +kernel
theorem dL_law_121 : decode cL_law 121 = .ok (.iadd, 1) := by decide +kernel
theorem dL_law_122 : decode cL_law 122 = .ok (.iaload, 1) := by decide +kernel
theorem dL_law_123 : decode cL_law 123 = .ok (.aload_n 0, 1) := by decide +kernel
theorem dL_law_124 : decode cL_law 124 = .ok (.iload 4, 2) := by decide +kernel
theorem dL_law_126 : decode cL_law 126 = .ok (.iconst 2, 1) := by decide +kernel
theorem dL_law_127 : decode cL_law 127 = .ok (.iadd, 1) := by decide +kernel
theorem dL_law_128 : decode cL_law 128 = .ok (.iaload, 1) := by decide +kernel
theorem dL_law_129 : decode cL_law 129 = .ok (.aload_n 0, 1) := by decide +kernel
theorem dL_law_130 : decode cL_law 130 = .ok (.iload 4, 2) := by decide +kernel
theorem dL_law_132 : decode cL_law 132 = .ok (.iconst 3, 1) := by decide +kernel
theorem dL_law_133 : decode cL_law 133 = .ok (.iadd, 1) := by decide +kernel
theorem dL_law_134 : decode cL_law 134 = .ok (.iaload, 1) := by decide +kernel
theorem dL_law_135 : decode cL_law 135 = .ok (.aload_n 0, 1) := by decide +kernel
theorem dL_law_136 : decode cL_law 136 = .ok (.iload 4, 2) := by decide +kernel
theorem dL_law_138 : decode cL_law 138 = .ok (.iconst 4, 1) := by decide +kernel
theorem dL_law_139 : decode cL_law 139 = .ok (.iadd, 1) := by decide +kernel
theorem dL_law_140 : decode cL_law 140 = .ok (.iaload, 1) := by decide +kernel
theorem dL_law_141 : decode cL_law 141 = .ok (.aload_n 0, 1) := by decide +kernel
theorem dL_law_142 : decode cL_law 142 = .ok (.iload 4, 2) := by decide +kernel
theorem dL_law_144 : decode cL_law 144 = .ok (.iconst 5, 1) := by decide +kernel
theorem dL_law_145 : decode cL_law 145 = .ok (.iadd, 1) := by decide +kernel
theorem dL_law_146 : decode cL_law 146 = .ok (.iaload, 1) := by decide +kernel
theorem dL_law_147 : decode cL_law 147 = .ok (.invokevirtual 27, 3) := by decide +kernel
theorem dL_law_150 : decode cL_law 150 = .ok (.aload_n 2, 1) := by decide +kernel
theorem dL_law_151 : decode cL_law 151 = .ok (.aload_n 0, 1) := by decide +kernel
theorem dL_law_152 : decode cL_law 152 = .ok (.iload 4, 2) := by decide +kernel
theorem dL_law_154 : decode cL_law 154 = .ok (.iconst 1, 1) := by decide +kernel
theorem dL_law_155 : decode cL_law 155 = .ok (.iadd, 1) := by decide +kernel
theorem dL_law_156 : decode cL_law 156 = .ok (.iaload, 1) := by decide +kernel
theorem dL_law_157 : decode cL_law 157 = .ok (.aload_n 0, 1) := by decide +kernel
theorem dL_law_158 : decode cL_law 158 = .ok (.iload 4, 2) := by decide +kernel
theorem dL_law_160 : decode cL_law 160 = .ok (.iconst 2, 1) := by decide +kernel
theorem dL_law_161 : decode cL_law 161 = .ok (.iadd, 1) := by decide +kernel
theorem dL_law_162 : decode cL_law 162 = .ok (.iaload, 1) := by decide +kernel
theorem dL_law_163 : decode cL_law 163 = .ok (.aload_n 0, 1) := by decide +kernel
theorem dL_law_164 : decode cL_law 164 = .ok (.iload 4, 2) := by decide +kernel
theorem dL_law_166 : decode cL_law 166 = .ok (.iconst 3, 1) := by decide +kernel
theorem dL_law_167 : decode cL_law 167 = .ok (.iadd, 1) := by decide +kernel
theorem dL_law_168 : decode cL_law 168 = .ok (.iaload, 1) := by decide +kernel
theorem dL_law_169 : decode cL_law 169 = .ok (.aload_n 0, 1) := by decide +kernel
theorem dL_law_170 : decode cL_law 170 = .ok (.iload 4, 2) := by decide +kernel
theorem dL_law_172 : decode cL_law 172 = .ok (.iconst 4, 1) := by decide +kernel
theorem dL_law_173 : decode cL_law 173 = .ok (.iadd, 1) := by decide +kernel
theorem dL_law_174 : decode cL_law 174 = .ok (.iaload, 1) := by decide +kernel
theorem dL_law_175 : decode cL_law 175 = .ok (.aload_n 0, 1) := by decide +kernel
theorem dL_law_176 : decode cL_law 176 = .ok (.iload 4, 2) := by decide +kernel
theorem dL_law_178 : decode cL_law 178 = .ok (.iconst 5, 1) := by decide +kernel
theorem dL_law_179 : decode cL_law 179 = .ok (.iadd, 1) := by decide +kernel
theorem dL_law_180 : decode cL_law 180 = .ok (.iaload, 1) := by decide +kernel
theorem dL_law_181 : decode cL_law 181 = .ok (.invokevirtual 31, 3) := by decide +kernel
theorem dL_law_184 : decode cL_law 184 = .ok (.if_icmp .eq 622, 3) := by decide +kernel
theorem dL_law_187 : decode cL_law 187 = .ok (.iconst 0, 1) := by decide +kernel
theorem dL_law_188 : decode cL_law 188 = .ok (.ireturn, 1) := by decide +kernel
theorem dL_law_189 : decode cL_law 189 = .ok (.aload_n 1, 1) := by decide +kernel
theorem dL_law_190 : decode cL_law 190 = .ok (.aload_n 0, 1) := by decide +kernel
theorem dL_law_191 : decode cL_law 191 = .ok (.iload 4, 2) := by decide +kernel
theorem dL_law_193 : decode cL_law 193 = .ok (.iconst 1, 1) := by decide +kernel
theorem dL_law_194 : decode cL_law 194 = .ok (.iadd, 1) := by decide +kernel
theorem dL_law_195 : decode cL_law 195 = .ok (.iaload, 1) := by decide +kernel
theorem dL_law_196 : decode cL_law 196 = .ok (.invokevirtual 32, 3) := by decide +kernel
theorem dL_law_199 : decode cL_law 199 = .ok (.aload_n 2, 1) := by decide +kernel
theorem dL_law_200 : decode cL_law 200 = .ok (.aload_n 0, 1) := by decide +kernel
theorem dL_law_201 : decode cL_law 201 = .ok (.iload 4, 2) := by decide +kernel
theorem dL_law_203 : decode cL_law 203 = .ok (.iconst 1, 1) := by decide +kernel
theorem dL_law_204 : decode cL_law 204 = .ok (.iadd, 1) := by decide +kernel
theorem dL_law_205 : decode cL_law 205 = .ok (.iaload, 1) := by decide +kernel
theorem dL_law_206 : decode cL_law 206 = .ok (.invokevirtual 36, 3) := by decide +kernel
theorem dL_law_209 : decode cL_law 209 = .ok (.if_icmp .eq 597, 3) := by decide +kernel
theorem dL_law_212 : decode cL_law 212 = .ok (.iconst 0, 1) := by decide +kernel
theorem dL_law_213 : decode cL_law 213 = .ok (.ireturn, 1) := by decide +kernel
theorem dL_law_214 : decode cL_law 214 = .ok (.aload_n 1, 1) := by decide +kernel
theorem dL_law_215 : decode cL_law 215 = .ok (.aload_n 0, 1) := by decide +kernel
theorem dL_law_216 : decode cL_law 216 = .ok (.iload 4, 2) := by decide +kernel
theorem dL_law_218 : decode cL_law 218 = .ok (.iconst 1, 1) := by decide +kernel
theorem dL_law_219 : decode cL_law 219 = .ok (.iadd, 1) := by decide +kernel
theorem dL_law_220 : decode cL_law 220 = .ok (.iaload, 1) := by decide +kernel
theorem dL_law_221 : decode cL_law 221 = .ok (.invokevirtual 37, 3) := by decide +kernel
theorem dL_law_224 : decode cL_law 224 = .ok (.aload_n 2, 1) := by decide +kernel
theorem dL_law_225 : decode cL_law 225 = .ok (.aload_n 0, 1) := by decide +kernel
theorem dL_law_226 : decode cL_law 226 = .ok (.iload 4, 2) := by decide +kernel
theorem dL_law_228 : decode cL_law 228 = .ok (.iconst 1, 1) := by decide +kernel
theorem dL_law_229 : decode cL_law 229 = .ok (.iadd, 1) := by decide +kernel
theorem dL_law_230 : decode cL_law 230 = .ok (.iaload, 1) := by decide +kernel
theorem dL_law_231 : decode cL_law 231 = .ok (.invokevirtual 40, 3) := by decide +kernel
theorem dL_law_234 : decode cL_law 234 = .ok (.if_icmp .eq 572, 3) := by decide +kernel
theorem dL_law_237 : decode cL_law 237 = .ok (.iconst 0, 1) := by decide +kernel
theorem dL_law_238 : decode cL_law 238 = .ok (.ireturn, 1) := by decide +kernel
theorem dL_law_239 : decode cL_law 239 = .ok (.aload_n 1, 1) := by decide +kernel
theorem dL_law_240 : decode cL_law 240 = .ok (.invokevirtual 41, 3) := by decide +kernel
theorem dL_law_243 : decode cL_law 243 = .ok (.aload_n 2, 1) := by decide +kernel
theorem dL_law_244 : decode cL_law 244 = .ok (.invokevirtual 44, 3) := by decide +kernel
theorem dL_law_247 : decode cL_law 247 = .ok (.goto 559, 3) := by decide +kernel
theorem dL_law_250 : decode cL_law 250 = .ok (.aload_n 1, 1) := by decide +kernel
theorem dL_law_251 : decode cL_law 251 = .ok (.aload_n 0, 1) := by decide +kernel
theorem dL_law_252 : decode cL_law 252 = .ok (.iload 4, 2) := by decide +kernel
theorem dL_law_254 : decode cL_law 254 = .ok (.iconst 1, 1) := by decide +kernel
theorem dL_law_255 : decode cL_law 255 = .ok (.iadd, 1) := by decide +kernel
theorem dL_law_256 : decode cL_law 256 = .ok (.iaload, 1) := by decide +kernel
theorem dL_law_257 : decode cL_law 257 = .ok (.aload_n 0, 1) := by decide +kernel
theorem dL_law_258 : decode cL_law 258 = .ok (.iload 4, 2) := by decide +kernel
theorem dL_law_260 : decode cL_law 260 = .ok (.iconst 2, 1) := by decide +kernel
theorem dL_law_261 : decode cL_law 261 = .ok (.iadd, 1) := by decide +kernel
theorem dL_law_262 : decode cL_law 262 = .ok (.iaload, 1) := by decide +kernel
theorem dL_law_263 : decode cL_law 263 = .ok (.ifCond .eq 7, 3) := by decide +kernel
theorem dL_law_266 : decode cL_law 266 = .ok (.iconst 1, 1) := by decide +kernel
theorem dL_law_267 : decode cL_law 267 = .ok (.goto 4, 3) := by decide +kernel
theorem dL_law_270 : decode cL_law 270 = .ok (.iconst 0, 1) := by decide +kernel
theorem dL_law_271 : decode cL_law 271 = .ok (.invokevirtual 45, 3) := by decide +kernel
theorem dL_law_274 : decode cL_law 274 = .ok (.aload_n 2, 1) := by decide +kernel
theorem dL_law_275 : decode cL_law 275 = .ok (.aload_n 0, 1) := by decide +kernel
theorem dL_law_276 : decode cL_law 276 = .ok (.iload 4, 2) := by decide +kernel
theorem dL_law_278 : decode cL_law 278 = .ok (.iconst 1, 1) := by decide +kernel
theorem dL_law_279 : decode cL_law 279 = .ok (.iadd, 1) := by decide +kernel
theorem dL_law_280 : decode cL_law 280 = .ok (.iaload, 1) := by decide +kernel
theorem dL_law_281 : decode cL_law 281 = .ok (.aload_n 0, 1) := by decide +kernel
theorem dL_law_282 : decode cL_law 282 = .ok (.iload 4, 2) := by decide +kernel
theorem dL_law_284 : decode cL_law 284 = .ok (.iconst 2, 1) := by decide +kernel
theorem dL_law_285 : decode cL_law 285 = .ok (.iadd, 1) := by decide +kernel
theorem dL_law_286 : decode cL_law 286 = .ok (.iaload, 1) := by decide +kernel
theorem dL_law_287 : decode cL_law 287 = .ok (.ifCond .eq 7, 3) := by decide +kernel
theorem dL_law_290 : decode cL_law 290 = .ok (.iconst 1, 1) := by decide +kernel
theorem dL_law_291 : decode cL_law 291 = .ok (.goto 4, 3) := by decide +kernel
theorem dL_law_294 : decode cL_law 294 = .ok (.iconst 0, 1) := by decide +kernel
theorem dL_law_295 : decode cL_law 295 = .ok (.invokevirtual 49, 3) := by decide +kernel
theorem dL_law_298 : decode cL_law 298 = .ok (.if_icmp .eq 508, 3) := by decide +kernel
theorem dL_law_301 : decode cL_law 301 = .ok (.iconst 0, 1) := by decide +kernel
theorem dL_law_302 : decode cL_law 302 = .ok (.ireturn, 1) := by decide +kernel
theorem dL_law_303 : decode cL_law 303 = .ok (.aload_n 1, 1) := by decide +kernel
theorem dL_law_304 : decode cL_law 304 = .ok (.aload_n 0, 1) := by decide +kernel
theorem dL_law_305 : decode cL_law 305 = .ok (.iload 4, 2) := by decide +kernel
theorem dL_law_307 : decode cL_law 307 = .ok (.iconst 1, 1) := by decide +kernel
theorem dL_law_308 : decode cL_law 308 = .ok (.iadd, 1) := by decide +kernel
theorem dL_law_309 : decode cL_law 309 = .ok (.iaload, 1) := by decide +kernel
theorem dL_law_310 : decode cL_law 310 = .ok (.aload_n 0, 1) := by decide +kernel
theorem dL_law_311 : decode cL_law 311 = .ok (.iload 4, 2) := by decide +kernel
theorem dL_law_313 : decode cL_law 313 = .ok (.iconst 2, 1) := by decide +kernel
theorem dL_law_314 : decode cL_law 314 = .ok (.iadd, 1) := by decide +kernel
theorem dL_law_315 : decode cL_law 315 = .ok (.iaload, 1) := by decide +kernel
theorem dL_law_316 : decode cL_law 316 = .ok (.aload_n 0, 1) := by decide +kernel
theorem dL_law_317 : decode cL_law 317 = .ok (.iload 4, 2) := by decide +kernel
theorem dL_law_319 : decode cL_law 319 = .ok (.iconst 3, 1) := by decide +kernel
theorem dL_law_320 : decode cL_law 320 = .ok (.iadd, 1) := by decide +kernel
theorem dL_law_321 : decode cL_law 321 = .ok (.iaload, 1) := by decide +kernel
theorem dL_law_322 : decode cL_law 322 = .ok (.invokevirtual 50, 3) := by decide +kernel
theorem dL_law_325 : decode cL_law 325 = .ok (.aload_n 2, 1) := by decide +kernel
theorem dL_law_326 : decode cL_law 326 = .ok (.aload_n 0, 1) := by decide +kernel
theorem dL_law_327 : decode cL_law 327 = .ok (.iload 4, 2) := by decide +kernel
theorem dL_law_329 : decode cL_law 329 = .ok (.iconst 1, 1) := by decide +kernel
theorem dL_law_330 : decode cL_law 330 = .ok (.iadd, 1) := by decide +kernel
theorem dL_law_331 : decode cL_law 331 = .ok (.iaload, 1) := by decide +kernel
theorem dL_law_332 : decode cL_law 332 = .ok (.aload_n 0, 1) := by decide +kernel
theorem dL_law_333 : decode cL_law 333 = .ok (.iload 4, 2) := by decide +kernel
theorem dL_law_335 : decode cL_law 335 = .ok (.iconst 2, 1) := by decide +kernel
theorem dL_law_336 : decode cL_law 336 = .ok (.iadd, 1) := by decide +kernel
theorem dL_law_337 : decode cL_law 337 = .ok (.iaload, 1) := by decide +kernel
theorem dL_law_338 : decode cL_law 338 = .ok (.aload_n 0, 1) := by decide +kernel
theorem dL_law_339 : decode cL_law 339 = .ok (.iload 4, 2) := by decide +kernel
theorem dL_law_341 : decode cL_law 341 = .ok (.iconst 3, 1) := by decide +kernel
theorem dL_law_342 : decode cL_law 342 = .ok (.iadd, 1) := by decide +kernel
theorem dL_law_343 : decode cL_law 343 = .ok (.iaload, 1) := by decide +kernel
theorem dL_law_344 : decode cL_law 344 = .ok (.invokevirtual 54, 3) := by decide +kernel
theorem dL_law_347 : decode cL_law 347 = .ok (.if_icmp .eq 459, 3) := by decide +kernel
theorem dL_law_350 : decode cL_law 350 = .ok (.iconst 0, 1) := by decide +kernel
theorem dL_law_351 : decode cL_law 351 = .ok (.ireturn, 1) := by decide +kernel
theorem dL_law_352 : decode cL_law 352 = .ok (.aload_n 1, 1) := by decide +kernel
theorem dL_law_353 : decode cL_law 353 = .ok (.aload_n 0, 1) := by decide +kernel
theorem dL_law_354 : decode cL_law 354 = .ok (.iload 4, 2) := by decide +kernel
theorem dL_law_356 : decode cL_law 356 = .ok (.iconst 1, 1) := by decide +kernel
theorem dL_law_357 : decode cL_law 357 = .ok (.iadd, 1) := by decide +kernel
theorem dL_law_358 : decode cL_law 358 = .ok (.iaload, 1) := by decide +kernel
theorem dL_law_359 : decode cL_law 359 = .ok (.invokevirtual 55, 3) := by decide +kernel
theorem dL_law_362 : decode cL_law 362 = .ok (.aload_n 2, 1) := by decide +kernel
theorem dL_law_363 : decode cL_law 363 = .ok (.aload_n 0, 1) := by decide +kernel
theorem dL_law_364 : decode cL_law 364 = .ok (.iload 4, 2) := by decide +kernel
theorem dL_law_366 : decode cL_law 366 = .ok (.iconst 1, 1) := by decide +kernel
theorem dL_law_367 : decode cL_law 367 = .ok (.iadd, 1) := by decide +kernel
theorem dL_law_368 : decode cL_law 368 = .ok (.iaload, 1) := by decide +kernel
theorem dL_law_369 : decode cL_law 369 = .ok (.invokevirtual 58, 3) := by decide +kernel
theorem dL_law_372 : decode cL_law 372 = .ok (.if_icmp .eq 434, 3) := by decide +kernel
theorem dL_law_375 : decode cL_law 375 = .ok (.iconst 0, 1) := by decide +kernel
theorem dL_law_376 : decode cL_law 376 = .ok (.ireturn, 1) := by decide +kernel
theorem dL_law_377 : decode cL_law 377 = .ok (.aload_n 1, 1) := by decide +kernel
theorem dL_law_378 : decode cL_law 378 = .ok (.aload_n 0, 1) := by decide +kernel
theorem dL_law_379 : decode cL_law 379 = .ok (.iload 4, 2) := by decide +kernel
theorem dL_law_381 : decode cL_law 381 = .ok (.iconst 1, 1) := by decide +kernel
theorem dL_law_382 : decode cL_law 382 = .ok (.iadd, 1) := by decide +kernel
theorem dL_law_383 : decode cL_law 383 = .ok (.iaload, 1) := by decide +kernel
theorem dL_law_384 : decode cL_law 384 = .ok (.aload_n 0, 1) := by decide +kernel
theorem dL_law_385 : decode cL_law 385 = .ok (.iload 4, 2) := by decide +kernel
theorem dL_law_387 : decode cL_law 387 = .ok (.iconst 2, 1) := by decide +kernel
theorem dL_law_388 : decode cL_law 388 = .ok (.iadd, 1) := by decide +kernel
theorem dL_law_389 : decode cL_law 389 = .ok (.iaload, 1) := by decide +kernel
theorem dL_law_390 : decode cL_law 390 = .ok (.ifCond .eq 7, 3) := by decide +kernel
theorem dL_law_393 : decode cL_law 393 = .ok (.iconst 1, 1) := by decide +kernel
theorem dL_law_394 : decode cL_law 394 = .ok (.goto 4, 3) := by decide +kernel
theorem dL_law_397 : decode cL_law 397 = .ok (.iconst 0, 1) := by decide +kernel
theorem dL_law_398 : decode cL_law 398 = .ok (.invokevirtual 59, 3) := by decide +kernel
theorem dL_law_401 : decode cL_law 401 = .ok (.aload_n 2, 1) := by decide +kernel
theorem dL_law_402 : decode cL_law 402 = .ok (.aload_n 0, 1) := by decide +kernel
theorem dL_law_403 : decode cL_law 403 = .ok (.iload 4, 2) := by decide +kernel
theorem dL_law_405 : decode cL_law 405 = .ok (.iconst 1, 1) := by decide +kernel
theorem dL_law_406 : decode cL_law 406 = .ok (.iadd, 1) := by decide +kernel
theorem dL_law_407 : decode cL_law 407 = .ok (.iaload, 1) := by decide +kernel
theorem dL_law_408 : decode cL_law 408 = .ok (.aload_n 0, 1) := by decide +kernel
theorem dL_law_409 : decode cL_law 409 = .ok (.iload 4, 2) := by decide +kernel
theorem dL_law_411 : decode cL_law 411 = .ok (.iconst 2, 1) := by decide +kernel
theorem dL_law_412 : decode cL_law 412 = .ok (.iadd, 1) := by decide +kernel
theorem dL_law_413 : decode cL_law 413 = .ok (.iaload, 1) := by decide +kernel
theorem dL_law_414 : decode cL_law 414 = .ok (.ifCond .eq 7, 3) := by decide +kernel
theorem dL_law_417 : decode cL_law 417 = .ok (.iconst 1, 1) := by decide +kernel
theorem dL_law_418 : decode cL_law 418 = .ok (.goto 4, 3) := by decide +kernel
theorem dL_law_421 : decode cL_law 421 = .ok (.iconst 0, 1) := by decide +kernel
theorem dL_law_422 : decode cL_law 422 = .ok (.invokevirtual 63, 3) := by decide +kernel
theorem dL_law_425 : decode cL_law 425 = .ok (.if_icmp .eq 381, 3) := by decide +kernel
theorem dL_law_428 : decode cL_law 428 = .ok (.iconst 0, 1) := by decide +kernel
theorem dL_law_429 : decode cL_law 429 = .ok (.ireturn, 1) := by decide +kernel
theorem dL_law_430 : decode cL_law 430 = .ok (.aload_n 1, 1) := by decide +kernel
theorem dL_law_431 : decode cL_law 431 = .ok (.aload_n 0, 1) := by decide +kernel
theorem dL_law_432 : decode cL_law 432 = .ok (.iload 4, 2) := by decide +kernel
theorem dL_law_434 : decode cL_law 434 = .ok (.iconst 1, 1) := by decide +kernel
theorem dL_law_435 : decode cL_law 435 = .ok (.iadd, 1) := by decide +kernel
theorem dL_law_436 : decode cL_law 436 = .ok (.iaload, 1) := by decide +kernel
theorem dL_law_437 : decode cL_law 437 = .ok (.aload_n 0, 1) := by decide +kernel
theorem dL_law_438 : decode cL_law 438 = .ok (.iload 4, 2) := by decide +kernel
theorem dL_law_440 : decode cL_law 440 = .ok (.iconst 2, 1) := by decide +kernel
theorem dL_law_441 : decode cL_law 441 = .ok (.iadd, 1) := by decide +kernel
theorem dL_law_442 : decode cL_law 442 = .ok (.iaload, 1) := by decide +kernel
theorem dL_law_443 : decode cL_law 443 = .ok (.aload_n 3, 1) := by decide +kernel
theorem dL_law_444 : decode cL_law 444 = .ok (.invokestatic 64, 3) := by decide +kernel
theorem dL_law_447 : decode cL_law 447 = .ok (.istore 5, 2) := by decide +kernel
theorem dL_law_449 : decode cL_law 449 = .ok (.aload_n 2, 1) := by decide +kernel
theorem dL_law_450 : decode cL_law 450 = .ok (.aload_n 0, 1) := by decide +kernel
theorem dL_law_451 : decode cL_law 451 = .ok (.iload 4, 2) := by decide +kernel
theorem dL_law_453 : decode cL_law 453 = .ok (.iconst 1, 1) := by decide +kernel
theorem dL_law_454 : decode cL_law 454 = .ok (.iadd, 1) := by decide +kernel
theorem dL_law_455 : decode cL_law 455 = .ok (.iaload, 1) := by decide +kernel
theorem dL_law_456 : decode cL_law 456 = .ok (.aload_n 0, 1) := by decide +kernel
theorem dL_law_457 : decode cL_law 457 = .ok (.iload 4, 2) := by decide +kernel
theorem dL_law_459 : decode cL_law 459 = .ok (.iconst 2, 1) := by decide +kernel
theorem dL_law_460 : decode cL_law 460 = .ok (.iadd, 1) := by decide +kernel
theorem dL_law_461 : decode cL_law 461 = .ok (.iaload, 1) := by decide +kernel
theorem dL_law_462 : decode cL_law 462 = .ok (.invokevirtual 69, 3) := by decide +kernel
theorem dL_law_465 : decode cL_law 465 = .ok (.istore 6, 2) := by decide +kernel
theorem dL_law_467 : decode cL_law 467 = .ok (.aload_n 2, 1) := by decide +kernel
theorem dL_law_468 : decode cL_law 468 = .ok (.invokevirtual 70, 3) := by decide +kernel
theorem dL_law_471 : decode cL_law 471 = .ok (.iload 5, 2) := by decide +kernel
theorem dL_law_473 : decode cL_law 473 = .ok (.if_icmp .eq 5, 3) := by decide +kernel
theorem dL_law_476 : decode cL_law 476 = .ok (.iconst 0, 1) := by decide +kernel
theorem dL_law_477 : decode cL_law 477 = .ok (.ireturn, 1) := by decide +kernel
theorem dL_law_478 : decode cL_law 478 = .ok (.iload 5, 2) := by decide +kernel
theorem dL_law_480 : decode cL_law 480 = .ok (.ifCond .ne 15, 3) := by decide +kernel
theorem dL_law_483 : decode cL_law 483 = .ok (.aload_n 3, 1) := by decide +kernel
theorem dL_law_484 : decode cL_law 484 = .ok (.iconst 0, 1) := by decide +kernel
theorem dL_law_485 : decode cL_law 485 = .ok (.laload, 1) := by decide +kernel
theorem dL_law_486 : decode cL_law 486 = .ok (.iload 6, 2) := by decide +kernel
theorem dL_law_488 : decode cL_law 488 = .ok (.i2l, 1) := by decide +kernel
theorem dL_law_489 : decode cL_law 489 = .ok (.lcmp, 1) := by decide +kernel
theorem dL_law_490 : decode cL_law 490 = .ok (.ifCond .eq 5, 3) := by decide +kernel
theorem dL_law_493 : decode cL_law 493 = .ok (.iconst 0, 1) := by decide +kernel
theorem dL_law_494 : decode cL_law 494 = .ok (.ireturn, 1) := by decide +kernel
theorem dL_law_495 : decode cL_law 495 = .ok (.goto 311, 3) := by decide +kernel
theorem dL_law_498 : decode cL_law 498 = .ok (.aload_n 1, 1) := by decide +kernel
theorem dL_law_499 : decode cL_law 499 = .ok (.aload_n 0, 1) := by decide +kernel
theorem dL_law_500 : decode cL_law 500 = .ok (.iload 4, 2) := by decide +kernel
theorem dL_law_502 : decode cL_law 502 = .ok (.iconst 1, 1) := by decide +kernel
theorem dL_law_503 : decode cL_law 503 = .ok (.iadd, 1) := by decide +kernel
theorem dL_law_504 : decode cL_law 504 = .ok (.iaload, 1) := by decide +kernel
theorem dL_law_505 : decode cL_law 505 = .ok (.aload_n 0, 1) := by decide +kernel
theorem dL_law_506 : decode cL_law 506 = .ok (.iload 4, 2) := by decide +kernel
theorem dL_law_508 : decode cL_law 508 = .ok (.iconst 2, 1) := by decide +kernel
theorem dL_law_509 : decode cL_law 509 = .ok (.iadd, 1) := by decide +kernel
theorem dL_law_510 : decode cL_law 510 = .ok (.iaload, 1) := by decide +kernel
theorem dL_law_511 : decode cL_law 511 = .ok (.aload_n 3, 1) := by decide +kernel
theorem dL_law_512 : decode cL_law 512 = .ok (.invokestatic 74, 3) := by decide +kernel
theorem dL_law_515 : decode cL_law 515 = .ok (.istore 5, 2) := by decide +kernel
theorem dL_law_517 : decode cL_law 517 = .ok (.aload_n 2, 1) := by decide +kernel
theorem dL_law_518 : decode cL_law 518 = .ok (.aload_n 0, 1) := by decide +kernel
theorem dL_law_519 : decode cL_law 519 = .ok (.iload 4, 2) := by decide +kernel
theorem dL_law_521 : decode cL_law 521 = .ok (.iconst 1, 1) := by decide +kernel
theorem dL_law_522 : decode cL_law 522 = .ok (.iadd, 1) := by decide +kernel
theorem dL_law_523 : decode cL_law 523 = .ok (.iaload, 1) := by decide +kernel
theorem dL_law_524 : decode cL_law 524 = .ok (.aload_n 0, 1) := by decide +kernel
theorem dL_law_525 : decode cL_law 525 = .ok (.iload 4, 2) := by decide +kernel
theorem dL_law_527 : decode cL_law 527 = .ok (.iconst 2, 1) := by decide +kernel
theorem dL_law_528 : decode cL_law 528 = .ok (.iadd, 1) := by decide +kernel
theorem dL_law_529 : decode cL_law 529 = .ok (.iaload, 1) := by decide +kernel
theorem dL_law_530 : decode cL_law 530 = .ok (.invokevirtual 76, 3) := by decide +kernel
theorem dL_law_533 : decode cL_law 533 = .ok (.istore 6, 2) := by decide +kernel
theorem dL_law_535 : decode cL_law 535 = .ok (.aload_n 2, 1) := by decide +kernel
theorem dL_law_536 : decode cL_law 536 = .ok (.invokevirtual 70, 3) := by decide +kernel
theorem dL_law_539 : decode cL_law 539 = .ok (.iload 5, 2) := by decide +kernel
theorem dL_law_541 : decode cL_law 541 = .ok (.if_icmp .eq 5, 3) := by decide +kernel
theorem dL_law_544 : decode cL_law 544 = .ok (.iconst 0, 1) := by decide +kernel
theorem dL_law_545 : decode cL_law 545 = .ok (.ireturn, 1) := by decide +kernel
theorem dL_law_546 : decode cL_law 546 = .ok (.iload 5, 2) := by decide +kernel
theorem dL_law_548 : decode cL_law 548 = .ok (.ifCond .ne 15, 3) := by decide +kernel
theorem dL_law_551 : decode cL_law 551 = .ok (.aload_n 3, 1) := by decide +kernel
theorem dL_law_552 : decode cL_law 552 = .ok (.iconst 0, 1) := by decide +kernel
theorem dL_law_553 : decode cL_law 553 = .ok (.laload, 1) := by decide +kernel
theorem dL_law_554 : decode cL_law 554 = .ok (.iload 6, 2) := by decide +kernel
theorem dL_law_556 : decode cL_law 556 = .ok (.i2l, 1) := by decide +kernel
theorem dL_law_557 : decode cL_law 557 = .ok (.lcmp, 1) := by decide +kernel
theorem dL_law_558 : decode cL_law 558 = .ok (.ifCond .eq 5, 3) := by decide +kernel
theorem dL_law_561 : decode cL_law 561 = .ok (.iconst 0, 1) := by decide +kernel
theorem dL_law_562 : decode cL_law 562 = .ok (.ireturn, 1) := by decide +kernel
theorem dL_law_563 : decode cL_law 563 = .ok (.goto 243, 3) := by decide +kernel
theorem dL_law_566 : decode cL_law 566 = .ok (.aload_n 1, 1) := by decide +kernel
theorem dL_law_567 : decode cL_law 567 = .ok (.aload_n 0, 1) := by decide +kernel
theorem dL_law_568 : decode cL_law 568 = .ok (.iload 4, 2) := by decide +kernel
theorem dL_law_570 : decode cL_law 570 = .ok (.iconst 1, 1) := by decide +kernel
theorem dL_law_571 : decode cL_law 571 = .ok (.iadd, 1) := by decide +kernel
theorem dL_law_572 : decode cL_law 572 = .ok (.iaload, 1) := by decide +kernel
theorem dL_law_573 : decode cL_law 573 = .ok (.aload_n 0, 1) := by decide +kernel
theorem dL_law_574 : decode cL_law 574 = .ok (.iload 4, 2) := by decide +kernel
theorem dL_law_576 : decode cL_law 576 = .ok (.iconst 2, 1) := by decide +kernel
theorem dL_law_577 : decode cL_law 577 = .ok (.iadd, 1) := by decide +kernel
theorem dL_law_578 : decode cL_law 578 = .ok (.iaload, 1) := by decide +kernel
theorem dL_law_579 : decode cL_law 579 = .ok (.aload_n 3, 1) := by decide +kernel
theorem dL_law_580 : decode cL_law 580 = .ok (.invokestatic 77, 3) := by decide +kernel
theorem dL_law_583 : decode cL_law 583 = .ok (.istore 5, 2) := by decide +kernel
theorem dL_law_585 : decode cL_law 585 = .ok (.aload_n 2, 1) := by decide +kernel
theorem dL_law_586 : decode cL_law 586 = .ok (.aload_n 0, 1) := by decide +kernel
theorem dL_law_587 : decode cL_law 587 = .ok (.iload 4, 2) := by decide +kernel
theorem dL_law_589 : decode cL_law 589 = .ok (.iconst 1, 1) := by decide +kernel
theorem dL_law_590 : decode cL_law 590 = .ok (.iadd, 1) := by decide +kernel
theorem dL_law_591 : decode cL_law 591 = .ok (.iaload, 1) := by decide +kernel
theorem dL_law_592 : decode cL_law 592 = .ok (.aload_n 0, 1) := by decide +kernel
theorem dL_law_593 : decode cL_law 593 = .ok (.iload 4, 2) := by decide +kernel
theorem dL_law_595 : decode cL_law 595 = .ok (.iconst 2, 1) := by decide +kernel
theorem dL_law_596 : decode cL_law 596 = .ok (.iadd, 1) := by decide +kernel
theorem dL_law_597 : decode cL_law 597 = .ok (.iaload, 1) := by decide +kernel
theorem dL_law_598 : decode cL_law 598 = .ok (.invokevirtual 79, 3) := by decide +kernel
theorem dL_law_601 : decode cL_law 601 = .ok (.istore 6, 2) := by decide +kernel
theorem dL_law_603 : decode cL_law 603 = .ok (.aload_n 2, 1) := by decide +kernel
theorem dL_law_604 : decode cL_law 604 = .ok (.invokevirtual 70, 3) := by decide +kernel
theorem dL_law_607 : decode cL_law 607 = .ok (.iload 5, 2) := by decide +kernel
theorem dL_law_609 : decode cL_law 609 = .ok (.if_icmp .eq 5, 3) := by decide +kernel
theorem dL_law_612 : decode cL_law 612 = .ok (.iconst 0, 1) := by decide +kernel
theorem dL_law_613 : decode cL_law 613 = .ok (.ireturn, 1) := by decide +kernel
theorem dL_law_614 : decode cL_law 614 = .ok (.iload 5, 2) := by decide +kernel
theorem dL_law_616 : decode cL_law 616 = .ok (.ifCond .ne 15, 3) := by decide +kernel
theorem dL_law_619 : decode cL_law 619 = .ok (.aload_n 3, 1) := by decide +kernel
theorem dL_law_620 : decode cL_law 620 = .ok (.iconst 0, 1) := by decide +kernel
theorem dL_law_621 : decode cL_law 621 = .ok (.laload, 1) := by decide +kernel
theorem dL_law_622 : decode cL_law 622 = .ok (.iload 6, 2) := by decide +kernel
theorem dL_law_624 : decode cL_law 624 = .ok (.i2l, 1) := by decide +kernel
theorem dL_law_625 : decode cL_law 625 = .ok (.lcmp, 1) := by decide +kernel
theorem dL_law_626 : decode cL_law 626 = .ok (.ifCond .eq 5, 3) := by decide +kernel
theorem dL_law_629 : decode cL_law 629 = .ok (.iconst 0, 1) := by decide +kernel
theorem dL_law_630 : decode cL_law 630 = .ok (.ireturn, 1) := by decide +kernel
theorem dL_law_631 : decode cL_law 631 = .ok (.goto 175, 3) := by decide +kernel
theorem dL_law_634 : decode cL_law 634 = .ok (.aload_n 1, 1) := by decide +kernel
theorem dL_law_635 : decode cL_law 635 = .ok (.aload_n 0, 1) := by decide +kernel
theorem dL_law_636 : decode cL_law 636 = .ok (.iload 4, 2) := by decide +kernel
theorem dL_law_638 : decode cL_law 638 = .ok (.iconst 1, 1) := by decide +kernel
theorem dL_law_639 : decode cL_law 639 = .ok (.iadd, 1) := by decide +kernel
theorem dL_law_640 : decode cL_law 640 = .ok (.iaload, 1) := by decide +kernel
theorem dL_law_641 : decode cL_law 641 = .ok (.aload_n 0, 1) := by decide +kernel
theorem dL_law_642 : decode cL_law 642 = .ok (.iload 4, 2) := by decide +kernel
theorem dL_law_644 : decode cL_law 644 = .ok (.iconst 2, 1) := by decide +kernel
theorem dL_law_645 : decode cL_law 645 = .ok (.iadd, 1) := by decide +kernel
theorem dL_law_646 : decode cL_law 646 = .ok (.iaload, 1) := by decide +kernel
theorem dL_law_647 : decode cL_law 647 = .ok (.aload_n 0, 1) := by decide +kernel
theorem dL_law_648 : decode cL_law 648 = .ok (.iload 4, 2) := by decide +kernel
theorem dL_law_650 : decode cL_law 650 = .ok (.iconst 3, 1) := by decide +kernel
theorem dL_law_651 : decode cL_law 651 = .ok (.iadd, 1) := by decide +kernel
theorem dL_law_652 : decode cL_law 652 = .ok (.iaload, 1) := by decide +kernel
theorem dL_law_653 : decode cL_law 653 = .ok (.aload_n 0, 1) := by decide +kernel
theorem dL_law_654 : decode cL_law 654 = .ok (.iload 4, 2) := by decide +kernel
theorem dL_law_656 : decode cL_law 656 = .ok (.iconst 4, 1) := by decide +kernel
theorem dL_law_657 : decode cL_law 657 = .ok (.iadd, 1) := by decide +kernel
theorem dL_law_658 : decode cL_law 658 = .ok (.iaload, 1) := by decide +kernel
theorem dL_law_659 : decode cL_law 659 = .ok (.aload_n 0, 1) := by decide +kernel
theorem dL_law_660 : decode cL_law 660 = .ok (.iload 4, 2) := by decide +kernel
theorem dL_law_662 : decode cL_law 662 = .ok (.iconst 5, 1) := by decide +kernel
theorem dL_law_663 : decode cL_law 663 = .ok (.iadd, 1) := by decide +kernel
theorem dL_law_664 : decode cL_law 664 = .ok (.iaload, 1) := by decide +kernel
theorem dL_law_665 : decode cL_law 665 = .ok (.invokevirtual 80, 3) := by decide +kernel
theorem dL_law_668 : decode cL_law 668 = .ok (.aload_n 2, 1) := by decide +kernel
theorem dL_law_669 : decode cL_law 669 = .ok (.aload_n 0, 1) := by decide +kernel
theorem dL_law_670 : decode cL_law 670 = .ok (.iload 4, 2) := by decide +kernel
theorem dL_law_672 : decode cL_law 672 = .ok (.iconst 1, 1) := by decide +kernel
theorem dL_law_673 : decode cL_law 673 = .ok (.iadd, 1) := by decide +kernel
theorem dL_law_674 : decode cL_law 674 = .ok (.iaload, 1) := by decide +kernel
theorem dL_law_675 : decode cL_law 675 = .ok (.aload_n 0, 1) := by decide +kernel
theorem dL_law_676 : decode cL_law 676 = .ok (.iload 4, 2) := by decide +kernel
theorem dL_law_678 : decode cL_law 678 = .ok (.iconst 2, 1) := by decide +kernel
theorem dL_law_679 : decode cL_law 679 = .ok (.iadd, 1) := by decide +kernel
theorem dL_law_680 : decode cL_law 680 = .ok (.iaload, 1) := by decide +kernel
theorem dL_law_681 : decode cL_law 681 = .ok (.aload_n 0, 1) := by decide +kernel
theorem dL_law_682 : decode cL_law 682 = .ok (.iload 4, 2) := by decide +kernel
theorem dL_law_684 : decode cL_law 684 = .ok (.iconst 3, 1) := by decide +kernel
theorem dL_law_685 : decode cL_law 685 = .ok (.iadd, 1) := by decide +kernel
theorem dL_law_686 : decode cL_law 686 = .ok (.iaload, 1) := by decide +kernel
theorem dL_law_687 : decode cL_law 687 = .ok (.aload_n 0, 1) := by decide +kernel
theorem dL_law_688 : decode cL_law 688 = .ok (.iload 4, 2) := by decide +kernel
theorem dL_law_690 : decode cL_law 690 = .ok (.iconst 4, 1) := by decide +kernel
theorem dL_law_691 : decode cL_law 691 = .ok (.iadd, 1) := by decide +kernel
theorem dL_law_692 : decode cL_law 692 = .ok (.iaload, 1) := by decide +kernel
theorem dL_law_693 : decode cL_law 693 = .ok (.aload_n 0, 1) := by decide +kernel
theorem dL_law_694 : decode cL_law 694 = .ok (.iload 4, 2) := by decide +kernel
theorem dL_law_696 : decode cL_law 696 = .ok (.iconst 5, 1) := by decide +kernel
theorem dL_law_697 : decode cL_law 697 = .ok (.iadd, 1) := by decide +kernel
theorem dL_law_698 : decode cL_law 698 = .ok (.iaload, 1) := by decide +kernel
theorem dL_law_699 : decode cL_law 699 = .ok (.invokevirtual 83, 3) := by decide +kernel
theorem dL_law_702 : decode cL_law 702 = .ok (.if_icmp .eq 104, 3) := by decide +kernel
theorem dL_law_705 : decode cL_law 705 = .ok (.iconst 0, 1) := by decide +kernel
theorem dL_law_706 : decode cL_law 706 = .ok (.ireturn, 1) := by decide +kernel
theorem dL_law_707 : decode cL_law 707 = .ok (.aload_n 1, 1) := by decide +kernel
theorem dL_law_708 : decode cL_law 708 = .ok (.aload_n 0, 1) := by decide +kernel
theorem dL_law_709 : decode cL_law 709 = .ok (.iload 4, 2) := by decide +kernel
theorem dL_law_711 : decode cL_law 711 = .ok (.iconst 1, 1) := by decide +kernel
theorem dL_law_712 : decode cL_law 712 = .ok (.iadd, 1) := by decide +kernel
theorem dL_law_713 : decode cL_law 713 = .ok (.iaload, 1) := by decide +kernel
theorem dL_law_714 : decode cL_law 714 = .ok (.invokevirtual 84, 3) := by decide +kernel
theorem dL_law_717 : decode cL_law 717 = .ok (.aload_n 2, 1) := by decide +kernel
theorem dL_law_718 : decode cL_law 718 = .ok (.aload_n 0, 1) := by decide +kernel
theorem dL_law_719 : decode cL_law 719 = .ok (.iload 4, 2) := by decide +kernel
theorem dL_law_721 : decode cL_law 721 = .ok (.iconst 1, 1) := by decide +kernel
theorem dL_law_722 : decode cL_law 722 = .ok (.iadd, 1) := by decide +kernel
theorem dL_law_723 : decode cL_law 723 = .ok (.iaload, 1) := by decide +kernel
theorem dL_law_724 : decode cL_law 724 = .ok (.invokevirtual 87, 3) := by decide +kernel
theorem dL_law_727 : decode cL_law 727 = .ok (.if_icmp .eq 79, 3) := by decide +kernel
theorem dL_law_730 : decode cL_law 730 = .ok (.iconst 0, 1) := by decide +kernel
theorem dL_law_731 : decode cL_law 731 = .ok (.ireturn, 1) := by decide +kernel
theorem dL_law_732 : decode cL_law 732 = .ok (.aload_n 1, 1) := by decide +kernel
theorem dL_law_733 : decode cL_law 733 = .ok (.aload_n 0, 1) := by decide +kernel
theorem dL_law_734 : decode cL_law 734 = .ok (.iload 4, 2) := by decide +kernel
theorem dL_law_736 : decode cL_law 736 = .ok (.iconst 1, 1) := by decide +kernel
theorem dL_law_737 : decode cL_law 737 = .ok (.iadd, 1) := by decide +kernel
theorem dL_law_738 : decode cL_law 738 = .ok (.iaload, 1) := by decide +kernel
theorem dL_law_739 : decode cL_law 739 = .ok (.aload_n 0, 1) := by decide +kernel
theorem dL_law_740 : decode cL_law 740 = .ok (.iload 4, 2) := by decide +kernel
theorem dL_law_742 : decode cL_law 742 = .ok (.iconst 2, 1) := by decide +kernel
theorem dL_law_743 : decode cL_law 743 = .ok (.iadd, 1) := by decide +kernel
theorem dL_law_744 : decode cL_law 744 = .ok (.iaload, 1) := by decide +kernel
theorem dL_law_745 : decode cL_law 745 = .ok (.aload_n 0, 1) := by decide +kernel
theorem dL_law_746 : decode cL_law 746 = .ok (.iload 4, 2) := by decide +kernel
theorem dL_law_748 : decode cL_law 748 = .ok (.iconst 3, 1) := by decide +kernel
theorem dL_law_749 : decode cL_law 749 = .ok (.iadd, 1) := by decide +kernel
theorem dL_law_750 : decode cL_law 750 = .ok (.iaload, 1) := by decide +kernel
theorem dL_law_751 : decode cL_law 751 = .ok (.invokevirtual 88, 3) := by decide +kernel
theorem dL_law_754 : decode cL_law 754 = .ok (.aload_n 2, 1) := by decide +kernel
theorem dL_law_755 : decode cL_law 755 = .ok (.aload_n 0, 1) := by decide +kernel
theorem dL_law_756 : decode cL_law 756 = .ok (.iload 4, 2) := by decide +kernel
theorem dL_law_758 : decode cL_law 758 = .ok (.iconst 1, 1) := by decide +kernel
theorem dL_law_759 : decode cL_law 759 = .ok (.iadd, 1) := by decide +kernel
theorem dL_law_760 : decode cL_law 760 = .ok (.iaload, 1) := by decide +kernel
theorem dL_law_761 : decode cL_law 761 = .ok (.aload_n 0, 1) := by decide +kernel
theorem dL_law_762 : decode cL_law 762 = .ok (.iload 4, 2) := by decide +kernel
theorem dL_law_764 : decode cL_law 764 = .ok (.iconst 2, 1) := by decide +kernel
theorem dL_law_765 : decode cL_law 765 = .ok (.iadd, 1) := by decide +kernel
theorem dL_law_766 : decode cL_law 766 = .ok (.iaload, 1) := by decide +kernel
theorem dL_law_767 : decode cL_law 767 = .ok (.aload_n 0, 1) := by decide +kernel
theorem dL_law_768 : decode cL_law 768 = .ok (.iload 4, 2) := by decide +kernel
theorem dL_law_770 : decode cL_law 770 = .ok (.iconst 3, 1) := by decide +kernel
theorem dL_law_771 : decode cL_law 771 = .ok (.iadd, 1) := by decide +kernel
theorem dL_law_772 : decode cL_law 772 = .ok (.iaload, 1) := by decide +kernel
theorem dL_law_773 : decode cL_law 773 = .ok (.invokevirtual 92, 3) := by decide +kernel
theorem dL_law_776 : decode cL_law 776 = .ok (.if_icmp .eq 30, 3) := by decide +kernel
theorem dL_law_779 : decode cL_law 779 = .ok (.iconst 0, 1) := by decide +kernel
theorem dL_law_780 : decode cL_law 780 = .ok (.ireturn, 1) := by decide +kernel
theorem dL_law_781 : decode cL_law 781 = .ok (.aload_n 1, 1) := by decide +kernel
theorem dL_law_782 : decode cL_law 782 = .ok (.aload_n 0, 1) := by decide +kernel
theorem dL_law_783 : decode cL_law 783 = .ok (.iload 4, 2) := by decide +kernel
theorem dL_law_785 : decode cL_law 785 = .ok (.iconst 1, 1) := by decide +kernel
theorem dL_law_786 : decode cL_law 786 = .ok (.iadd, 1) := by decide +kernel
theorem dL_law_787 : decode cL_law 787 = .ok (.iaload, 1) := by decide +kernel
theorem dL_law_788 : decode cL_law 788 = .ok (.invokevirtual 93, 3) := by decide +kernel
theorem dL_law_791 : decode cL_law 791 = .ok (.aload_n 2, 1) := by decide +kernel
theorem dL_law_792 : decode cL_law 792 = .ok (.aload_n 0, 1) := by decide +kernel
theorem dL_law_793 : decode cL_law 793 = .ok (.iload 4, 2) := by decide +kernel
theorem dL_law_795 : decode cL_law 795 = .ok (.iconst 1, 1) := by decide +kernel
theorem dL_law_796 : decode cL_law 796 = .ok (.iadd, 1) := by decide +kernel
theorem dL_law_797 : decode cL_law 797 = .ok (.iaload, 1) := by decide +kernel
theorem dL_law_798 : decode cL_law 798 = .ok (.invokevirtual 96, 3) := by decide +kernel
theorem dL_law_801 : decode cL_law 801 = .ok (.if_icmp .eq 5, 3) := by decide +kernel
theorem dL_law_804 : decode cL_law 804 = .ok (.iconst 0, 1) := by decide +kernel
theorem dL_law_805 : decode cL_law 805 = .ok (.ireturn, 1) := by decide +kernel
theorem dL_law_806 : decode cL_law 806 = .ok (.iinc 4 6, 3) := by decide +kernel
theorem dL_law_809 : decode cL_law 809 = .ok (.goto (-786), 3) := by decide +kernel
theorem dL_law_812 : decode cL_law 812 = .ok (.iconst 1, 1) := by decide +kernel
theorem dL_law_813 : decode cL_law 813 = .ok (.ireturn, 1) := by decide +kernel
end
section
/-! the words of the tables that a callee may take over, by their places -/
def WA : List Cond := lw_tbl.filter goodWord
theorem wa_of {w : Cond} {k : Nat} (h : lw_tbl[k]? = some w) (hg : goodWord w = true) : w ∈ WA := List.mem_filter.mpr ⟨List.mem_of_getElem? h, hg⟩
theorem WA_good : WA.all goodWord = true := List.all_eq_true.mpr (fun w h => (List.mem_filter.mp h).2)
abbrev WS (y : MethodName) (c : ByteArray) (n : Nat) (r : Option FieldType) : List Cond := Cond.code y c n r :: WA
theorem gi_V {yc y : MethodName} {cc c : ByteArray} {nc n idx : Nat} {rc r : Option FieldType} {own C : String} (h1 : Cond.methodLink own idx y ∈ WA) (h2 : Cond.instanceMethod y ∈ WA) (h3 : Cond.selects C y y ∈ WA) (h4 : Cond.initialized C ∈ WA) (h5 : Cond.code y c n r ∈ WA) : GoodIn (WS yc cc nc rc) (wsV own idx C y (WS y c n r)) := by
  refine goodIn_sub (fun w h => List.mem_cons_of_mem _ ?_) ?_
  · simp only [wsV, List.mem_append, List.mem_cons, List.not_mem_nil, or_false] at h
    rcases h with (rfl | rfl | rfl | rfl) | rfl | h <;> assumption
  · refine List.all_eq_true.mpr (fun w h => ?_)
    simp only [wsV, List.mem_append, List.mem_cons, List.not_mem_nil, or_false] at h
    rcases h with (rfl | rfl | rfl | rfl) | rfl | h <;> first | exact List.all_eq_true.mp WA_good _ h1 | exact List.all_eq_true.mp WA_good _ h2 | exact List.all_eq_true.mp WA_good _ h3 | exact List.all_eq_true.mp WA_good _ h4 | exact List.all_eq_true.mp WA_good _ h5 | exact List.all_eq_true.mp WA_good _ h
theorem gi_S {yc y : MethodName} {cc c : ByteArray} {nc n idx : Nat} {rc r : Option FieldType} {own : String} (h1 : Cond.methodLink own idx y ∈ WA) (h2 : Cond.static y ∈ WA) (h4 : Cond.initialized y.cls ∈ WA) (h5 : Cond.code y c n r ∈ WA) : GoodIn (WS yc cc nc rc) (va_wsS own idx y (WS y c n r)) := by
  refine goodIn_sub (fun w h => List.mem_cons_of_mem _ ?_) ?_
  · simp only [va_wsS, List.mem_append, List.mem_cons, List.not_mem_nil, or_false] at h
    rcases h with (rfl | rfl | rfl) | rfl | h <;> assumption
  · refine List.all_eq_true.mpr (fun w h => ?_)
    simp only [va_wsS, List.mem_append, List.mem_cons, List.not_mem_nil, or_false] at h
    rcases h with (rfl | rfl | rfl) | rfl | h <;> first | exact List.all_eq_true.mp WA_good _ h1 | exact List.all_eq_true.mp WA_good _ h2 | exact List.all_eq_true.mp WA_good _ h4 | exact List.all_eq_true.mp WA_good _ h5 | exact List.all_eq_true.mp WA_good _ h
theorem fl_RX0_11 : Cond.fieldLink RX0 11 "TitleDesk$Board" "wordings" "[LTitleDesk$Wording;" ∈ WA := wa_of (k := 314) (by decide +kernel) rfl
theorem fl_RX0_20 : Cond.fieldLink RX0 20 "TitleDesk$Board" "breaker" "LTitleDesk$Breaker;" ∈ WA := wa_of (k := 316) (by decide +kernel) rfl
theorem fl_RX0_24 : Cond.fieldLink RX0 24 "TitleDesk$Board" "script" "LTitleDesk$Script;" ∈ WA := wa_of (k := 317) (by decide +kernel) rfl
theorem fl_RX0_28 : Cond.fieldLink RX0 28 "TitleDesk$Board" "textSigns" "[B" ∈ WA := wa_of (k := 318) (by decide +kernel) rfl
theorem fl_RX0_35 : Cond.fieldLink RX0 35 "TitleDesk$Board" "noWording" "LTitleDesk$Wording;" ∈ WA := wa_of (k := 315) (by decide +kernel) rfl
theorem fl_RX0_39 : Cond.fieldLink RX0 39 "TitleDesk$Script" "titles" "I" ∈ WA := wa_of (k := 134) (by decide +kernel) rfl
theorem fl_RX0_45 : Cond.fieldLink RX0 45 "TitleDesk$Script" "tongues" "I" ∈ WA := wa_of (k := 130) (by decide +kernel) rfl
theorem fl_RX0_56 : Cond.fieldLink RX0 56 "TitleDesk$Wording" "isChanged" "Z" ∈ WA := wa_of (k := 291) (by decide +kernel) rfl
theorem fl_RX0_90 : Cond.fieldLink RX0 90 "TitleDesk$Wording" "pages" "I" ∈ WA := wa_of (k := 293) (by decide +kernel) rfl
theorem fl_RX1_9 : Cond.fieldLink RX1 9 "TitleDesk$Breaker" "wordBegins" "[I" ∈ WA := wa_of (k := 251) (by decide +kernel) rfl
theorem fl_RX1_15 : Cond.fieldLink RX1 15 "TitleDesk$Breaker" "wordEnds" "[I" ∈ WA := wa_of (k := 252) (by decide +kernel) rfl
theorem fl_RX1_18 : Cond.fieldLink RX1 18 "TitleDesk$Breaker" "rowStops" "[I" ∈ WA := wa_of (k := 253) (by decide +kernel) rfl
theorem fl_RX1_21 : Cond.fieldLink RX1 21 "TitleDesk$Breaker" "leastRows" "[I" ∈ WA := wa_of (k := 254) (by decide +kernel) rfl
theorem fl_RX1_24 : Cond.fieldLink RX1 24 "TitleDesk$Breaker" "mostAhead" "[I" ∈ WA := wa_of (k := 255) (by decide +kernel) rfl
theorem fl_RX1_29 : Cond.fieldLink RX1 29 "TitleDesk$Breaker" "prices" "[[I" ∈ WA := wa_of (k := 256) (by decide +kernel) rfl
theorem fl_RX1_32 : Cond.fieldLink RX1 32 "TitleDesk$Breaker" "width" "I" ∈ WA := wa_of (k := 258) (by decide +kernel) rfl
theorem fl_RX1_49 : Cond.fieldLink RX1 49 "TitleDesk$Breaker" "slots" "I" ∈ WA := wa_of (k := 259) (by decide +kernel) rfl
theorem fl_RX1_61 : Cond.fieldLink RX1 61 "TitleDesk$Breaker" "words" "I" ∈ WA := wa_of (k := 257) (by decide +kernel) rfl
theorem fl_RX1_64 : Cond.fieldLink RX1 64 "TitleDesk$Wording" "length" "I" ∈ WA := wa_of (k := 289) (by decide +kernel) rfl
theorem fl_RX1_69 : Cond.fieldLink RX1 69 "TitleDesk$Wording" "from" "I" ∈ WA := wa_of (k := 287) (by decide +kernel) rfl
theorem fl_RX1_72 : Cond.fieldLink RX1 72 "TitleDesk$Wording" "signs" "[B" ∈ WA := wa_of (k := 285) (by decide +kernel) rfl
theorem fl_RX1_91 : Cond.fieldLink RX1 91 "TitleDesk$Wording" "pages" "I" ∈ WA := wa_of (k := 294) (by decide +kernel) rfl
theorem fl_RX1_94 : Cond.fieldLink RX1 94 "TitleDesk$Wording" "price" "I" ∈ WA := wa_of (k := 296) (by decide +kernel) rfl
theorem fl_RX10_7 : Cond.fieldLink RX10 7 "TitleDeskModel" "tape" "[I" ∈ WA := wa_of (k := 1044) (by decide +kernel) rfl
theorem fl_RX10_13 : Cond.fieldLink RX10 13 "TitleDeskModel" "tongues" "I" ∈ WA := wa_of (k := 1047) (by decide +kernel) rfl
theorem fl_RX10_17 : Cond.fieldLink RX10 17 "TitleDeskModel" "width" "[I" ∈ WA := wa_of (k := 1048) (by decide +kernel) rfl
theorem fl_RX10_20 : Cond.fieldLink RX10 20 "TitleDeskModel" "speed" "[I" ∈ WA := wa_of (k := 1049) (by decide +kernel) rfl
theorem fl_RX10_23 : Cond.fieldLink RX10 23 "TitleDeskModel" "beats" "I" ∈ WA := wa_of (k := 1050) (by decide +kernel) rfl
theorem fl_RX10_26 : Cond.fieldLink RX10 26 "TitleDeskModel" "itemBar" "[I" ∈ WA := wa_of (k := 1053) (by decide +kernel) rfl
theorem fl_RX10_29 : Cond.fieldLink RX10 29 "TitleDeskModel" "itemTitle" "[I" ∈ WA := wa_of (k := 1054) (by decide +kernel) rfl
theorem fl_RX10_32 : Cond.fieldLink RX10 32 "TitleDeskModel" "titleItem" "[I" ∈ WA := wa_of (k := 1055) (by decide +kernel) rfl
theorem fl_RX10_35 : Cond.fieldLink RX10 35 "TitleDeskModel" "cutFrom" "[I" ∈ WA := wa_of (k := 1056) (by decide +kernel) rfl
theorem fl_RX10_38 : Cond.fieldLink RX10 38 "TitleDeskModel" "cutTo" "[I" ∈ WA := wa_of (k := 1057) (by decide +kernel) rfl
theorem fl_RX10_42 : Cond.fieldLink RX10 42 "TitleDeskModel" "signs" "[I" ∈ WA := wa_of (k := 1059) (by decide +kernel) rfl
theorem fl_RX10_45 : Cond.fieldLink RX10 45 "TitleDeskModel" "sizes" "[I" ∈ WA := wa_of (k := 1060) (by decide +kernel) rfl
theorem fl_RX10_48 : Cond.fieldLink RX10 48 "TitleDeskModel" "own" "[Z" ∈ WA := wa_of (k := 1061) (by decide +kernel) rfl
theorem fl_RX10_52 : Cond.fieldLink RX10 52 "TitleDeskModel" "isOn" "[Z" ∈ WA := wa_of (k := 1062) (by decide +kernel) rfl
theorem fl_RX10_55 : Cond.fieldLink RX10 55 "TitleDeskModel" "changed" "[Z" ∈ WA := wa_of (k := 1063) (by decide +kernel) rfl
theorem fl_RX10_58 : Cond.fieldLink RX10 58 "TitleDeskModel" "tonight" "[I" ∈ WA := wa_of (k := 1064) (by decide +kernel) rfl
theorem fl_RX10_61 : Cond.fieldLink RX10 61 "TitleDeskModel" "tonightSize" "[I" ∈ WA := wa_of (k := 1065) (by decide +kernel) rfl
theorem fl_RX10_64 : Cond.fieldLink RX10 64 "TitleDeskModel" "following" "Z" ∈ WA := wa_of (k := 1067) (by decide +kernel) rfl
theorem fl_RX10_68 : Cond.fieldLink RX10 68 "TitleDeskModel" "hand" "[I" ∈ WA := wa_of (k := 1070) (by decide +kernel) rfl
theorem fl_RX10_71 : Cond.fieldLink RX10 71 "TitleDeskModel" "wordFrom" "[I" ∈ WA := wa_of (k := 1071) (by decide +kernel) rfl
theorem fl_RX10_74 : Cond.fieldLink RX10 74 "TitleDeskModel" "wordTo" "[I" ∈ WA := wa_of (k := 1072) (by decide +kernel) rfl
theorem fl_RX10_77 : Cond.fieldLink RX10 77 "TitleDeskModel" "least" "[I" ∈ WA := wa_of (k := 1074) (by decide +kernel) rfl
theorem fl_RX10_80 : Cond.fieldLink RX10 80 "TitleDeskModel" "rowMany" "[I" ∈ WA := wa_of (k := 1075) (by decide +kernel) rfl
theorem fl_RX10_83 : Cond.fieldLink RX10 83 "TitleDeskModel" "faultPlace" "I" ∈ WA := wa_of (k := 1084) (by decide +kernel) rfl
theorem fl_RX10_86 : Cond.fieldLink RX10 86 "TitleDeskModel" "rWidth" "[I" ∈ WA := wa_of (k := 1086) (by decide +kernel) rfl
theorem fl_RX10_89 : Cond.fieldLink RX10 89 "TitleDeskModel" "rSpeed" "[I" ∈ WA := wa_of (k := 1087) (by decide +kernel) rfl
theorem fl_RX10_92 : Cond.fieldLink RX10 92 "TitleDeskModel" "rBar" "[I" ∈ WA := wa_of (k := 1091) (by decide +kernel) rfl
theorem fl_RX10_95 : Cond.fieldLink RX10 95 "TitleDeskModel" "rTitle" "[I" ∈ WA := wa_of (k := 1092) (by decide +kernel) rfl
theorem fl_RX10_98 : Cond.fieldLink RX10 98 "TitleDeskModel" "rCutFrom" "[I" ∈ WA := wa_of (k := 1093) (by decide +kernel) rfl
theorem fl_RX10_101 : Cond.fieldLink RX10 101 "TitleDeskModel" "rCutTo" "[I" ∈ WA := wa_of (k := 1094) (by decide +kernel) rfl
theorem fl_RX10_104 : Cond.fieldLink RX10 104 "TitleDeskModel" "rFrom" "[I" ∈ WA := wa_of (k := 1096) (by decide +kernel) rfl
theorem fl_RX10_107 : Cond.fieldLink RX10 107 "TitleDeskModel" "rSize" "[I" ∈ WA := wa_of (k := 1097) (by decide +kernel) rfl
theorem fl_RX10_110 : Cond.fieldLink RX10 110 "TitleDeskModel" "wordRow" "[I" ∈ WA := wa_of (k := 1098) (by decide +kernel) rfl
theorem fl_RX10_113 : Cond.fieldLink RX10 113 "TitleDeskModel" "thrown" "I" ∈ WA := wa_of (k := 1046) (by decide +kernel) rfl
theorem fl_RX10_116 : Cond.fieldLink RX10 116 "TitleDeskModel" "tapeSize" "I" ∈ WA := wa_of (k := 1045) (by decide +kernel) rfl
theorem fl_RX10_119 : Cond.fieldLink RX10 119 "TitleDeskModel" "words" "I" ∈ WA := wa_of (k := 1073) (by decide +kernel) rfl
theorem fl_RX10_133 : Cond.fieldLink RX10 133 "TitleDeskModel" "pageMany" "I" ∈ WA := wa_of (k := 1076) (by decide +kernel) rfl
theorem fl_RX10_141 : Cond.fieldLink RX10 141 "TitleDeskModel" "priceOf" "I" ∈ WA := wa_of (k := 1077) (by decide +kernel) rfl
theorem fl_RX10_151 : Cond.fieldLink RX10 151 "TitleDeskModel" "fault" "I" ∈ WA := wa_of (k := 1083) (by decide +kernel) rfl
theorem fl_RX10_154 : Cond.fieldLink RX10 154 "TitleDeskModel" "size" "I" ∈ WA := wa_of (k := 1078) (by decide +kernel) rfl
theorem fl_RX10_157 : Cond.fieldLink RX10 157 "TitleDeskModel" "next" "I" ∈ WA := wa_of (k := 1079) (by decide +kernel) rfl
theorem fl_RX10_160 : Cond.fieldLink RX10 160 "TitleDeskModel" "place" "I" ∈ WA := wa_of (k := 1082) (by decide +kernel) rfl
theorem fl_RX10_163 : Cond.fieldLink RX10 163 "TitleDeskModel" "kind" "I" ∈ WA := wa_of (k := 1080) (by decide +kernel) rfl
theorem fl_RX10_173 : Cond.fieldLink RX10 173 "TitleDeskModel" "which" "I" ∈ WA := wa_of (k := 1081) (by decide +kernel) rfl
theorem fl_RX10_186 : Cond.fieldLink RX10 186 "TitleDeskModel" "told" "I" ∈ WA := wa_of (k := 1099) (by decide +kernel) rfl
theorem fl_RX10_192 : Cond.fieldLink RX10 192 "TitleDeskModel" "rBeats" "I" ∈ WA := wa_of (k := 1088) (by decide +kernel) rfl
theorem fl_RX10_202 : Cond.fieldLink RX10 202 "TitleDeskModel" "rTongues" "I" ∈ WA := wa_of (k := 1085) (by decide +kernel) rfl
theorem fl_RX10_205 : Cond.fieldLink RX10 205 "TitleDeskModel" "rItems" "I" ∈ WA := wa_of (k := 1089) (by decide +kernel) rfl
theorem fl_RX10_214 : Cond.fieldLink RX10 214 "TitleDeskModel" "rTitles" "I" ∈ WA := wa_of (k := 1090) (by decide +kernel) rfl
theorem fl_RX10_217 : Cond.fieldLink RX10 217 "TitleDeskModel" "rCuts" "I" ∈ WA := wa_of (k := 1095) (by decide +kernel) rfl
theorem fl_RX10_235 : Cond.fieldLink RX10 235 "TitleDeskModel" "items" "I" ∈ WA := wa_of (k := 1051) (by decide +kernel) rfl
theorem fl_RX10_238 : Cond.fieldLink RX10 238 "TitleDeskModel" "titles" "I" ∈ WA := wa_of (k := 1052) (by decide +kernel) rfl
theorem fl_RX10_241 : Cond.fieldLink RX10 241 "TitleDeskModel" "cuts" "I" ∈ WA := wa_of (k := 1058) (by decide +kernel) rfl
theorem fl_RX10_247 : Cond.fieldLink RX10 247 "TitleDeskModel" "pos" "I" ∈ WA := wa_of (k := 1066) (by decide +kernel) rfl
theorem fl_RX10_250 : Cond.fieldLink RX10 250 "TitleDeskModel" "doubts" "I" ∈ WA := wa_of (k := 1068) (by decide +kernel) rfl
theorem fl_RX10_265 : Cond.fieldLink RX10 265 "TitleDeskModel" "lastDoubt" "I" ∈ WA := wa_of (k := 1069) (by decide +kernel) rfl
theorem fl_RX2_9 : Cond.fieldLink RX2 9 "TitleDesk$Evening" "following" "Z" ∈ WA := wa_of (k := 338) (by decide +kernel) rfl
theorem fl_RX2_15 : Cond.fieldLink RX2 15 "TitleDesk$Evening" "latestInDoubt" "I" ∈ WA := wa_of (k := 342) (by decide +kernel) rfl
theorem fl_RX2_19 : Cond.fieldLink RX2 19 "TitleDesk$Evening" "cutsOn" "[Z" ∈ WA := wa_of (k := 343) (by decide +kernel) rfl
theorem fl_RX2_23 : Cond.fieldLink RX2 23 "TitleDesk$Evening" "script" "LTitleDesk$Script;" ∈ WA := wa_of (k := 344) (by decide +kernel) rfl
theorem fl_RX2_27 : Cond.fieldLink RX2 27 "TitleDesk$Evening" "pos" "I" ∈ WA := wa_of (k := 336) (by decide +kernel) rfl
theorem fl_RX2_30 : Cond.fieldLink RX2 30 "TitleDesk$Evening" "doubts" "I" ∈ WA := wa_of (k := 340) (by decide +kernel) rfl
theorem fl_RX3_9 : Cond.fieldLink RX3 9 "TitleDesk$Reader" "faultPlace" "I" ∈ WA := wa_of (k := 216) (by decide +kernel) rfl
theorem fl_RX3_15 : Cond.fieldLink RX3 15 "TitleDesk$Reader" "script" "LTitleDesk$Script;" ∈ WA := wa_of (k := 219) (by decide +kernel) rfl
theorem fl_RX3_24 : Cond.fieldLink RX3 24 "TitleDesk$Reader" "scanner" "LTitleDesk$Scanner;" ∈ WA := wa_of (k := 218) (by decide +kernel) rfl
theorem fl_RX3_28 : Cond.fieldLink RX3 28 "TitleDesk$Reader" "faultNumber" "I" ∈ WA := wa_of (k := 214) (by decide +kernel) rfl
theorem fl_RX3_57 : Cond.fieldLink RX3 57 "TitleDesk$Scanner" "place" "I" ∈ WA := wa_of (k := 196) (by decide +kernel) rfl
theorem fl_RX3_70 : Cond.fieldLink RX3 70 "TitleDesk$Reader" "number" "I" ∈ WA := wa_of (k := 220) (by decide +kernel) rfl
theorem fl_RX3_73 : Cond.fieldLink RX3 73 "TitleDesk$Script" "tongues" "I" ∈ WA := wa_of (k := 131) (by decide +kernel) rfl
theorem fl_RX3_78 : Cond.fieldLink RX3 78 "TitleDesk$Scanner" "kind" "I" ∈ WA := wa_of (k := 194) (by decide +kernel) rfl
theorem fl_RX3_81 : Cond.fieldLink RX3 81 "TitleDesk$Scanner" "value" "I" ∈ WA := wa_of (k := 198) (by decide +kernel) rfl
theorem fl_RX3_84 : Cond.fieldLink RX3 84 "TitleDesk$Reader" "numberPlace" "I" ∈ WA := wa_of (k := 221) (by decide +kernel) rfl
theorem fl_RX3_89 : Cond.fieldLink RX3 89 "TitleDesk$Script" "widths" "[I" ∈ WA := wa_of (k := 142) (by decide +kernel) rfl
theorem fl_RX3_99 : Cond.fieldLink RX3 99 "TitleDesk$Script" "speeds" "[I" ∈ WA := wa_of (k := 144) (by decide +kernel) rfl
theorem fl_RX3_156 : Cond.fieldLink RX3 156 "TitleDesk$Scanner" "signs" "[B" ∈ WA := wa_of (k := 192) (by decide +kernel) rfl
theorem fl_RX3_180 : Cond.fieldLink RX3 180 "TitleDesk$Script" "titles" "I" ∈ WA := wa_of (k := 136) (by decide +kernel) rfl
theorem fl_RX4_9 : Cond.fieldLink RX4 9 "TitleDesk$Scanner" "signs" "[B" ∈ WA := wa_of (k := 191) (by decide +kernel) rfl
theorem fl_RX4_24 : Cond.fieldLink RX4 24 "TitleDesk$Scanner" "length" "I" ∈ WA := wa_of (k := 199) (by decide +kernel) rfl
theorem fl_RX4_28 : Cond.fieldLink RX4 28 "TitleDesk$Scanner" "behind" "I" ∈ WA := wa_of (k := 200) (by decide +kernel) rfl
theorem fl_RX4_34 : Cond.fieldLink RX4 34 "TitleDesk$Scanner" "place" "I" ∈ WA := wa_of (k := 195) (by decide +kernel) rfl
theorem fl_RX4_37 : Cond.fieldLink RX4 37 "TitleDesk$Scanner" "kind" "I" ∈ WA := wa_of (k := 193) (by decide +kernel) rfl
theorem fl_RX4_53 : Cond.fieldLink RX4 53 "TitleDesk$Scanner" "value" "I" ∈ WA := wa_of (k := 197) (by decide +kernel) rfl
theorem fl_RX5_9 : Cond.fieldLink RX5 9 "TitleDesk$Script" "tongues" "I" ∈ WA := wa_of (k := 129) (by decide +kernel) rfl
theorem fl_RX5_15 : Cond.fieldLink RX5 15 "TitleDesk$Script" "widths" "[I" ∈ WA := wa_of (k := 141) (by decide +kernel) rfl
theorem fl_RX5_19 : Cond.fieldLink RX5 19 "TitleDesk$Script" "speeds" "[I" ∈ WA := wa_of (k := 143) (by decide +kernel) rfl
theorem fl_RX5_22 : Cond.fieldLink RX5 22 "TitleDesk$Script" "cutFirsts" "[I" ∈ WA := wa_of (k := 145) (by decide +kernel) rfl
theorem fl_RX5_25 : Cond.fieldLink RX5 25 "TitleDesk$Script" "cutBehinds" "[I" ∈ WA := wa_of (k := 146) (by decide +kernel) rfl
theorem fl_RX5_28 : Cond.fieldLink RX5 28 "TitleDesk$Script" "markBars" "[I" ∈ WA := wa_of (k := 147) (by decide +kernel) rfl
theorem fl_RX5_31 : Cond.fieldLink RX5 31 "TitleDesk$Script" "titleMarks" "[I" ∈ WA := wa_of (k := 148) (by decide +kernel) rfl
theorem fl_RX5_34 : Cond.fieldLink RX5 34 "TitleDesk$Script" "stringFroms" "[I" ∈ WA := wa_of (k := 149) (by decide +kernel) rfl
theorem fl_RX5_37 : Cond.fieldLink RX5 37 "TitleDesk$Script" "stringLengths" "[I" ∈ WA := wa_of (k := 150) (by decide +kernel) rfl
theorem fl_RX5_40 : Cond.fieldLink RX5 40 "TitleDesk$Script" "titles" "I" ∈ WA := wa_of (k := 133) (by decide +kernel) rfl
theorem fl_RX5_43 : Cond.fieldLink RX5 43 "TitleDesk$Script" "cuts" "I" ∈ WA := wa_of (k := 137) (by decide +kernel) rfl
theorem fl_RX5_46 : Cond.fieldLink RX5 46 "TitleDesk$Script" "marks" "I" ∈ WA := wa_of (k := 139) (by decide +kernel) rfl
theorem fl_RX5_49 : Cond.fieldLink RX5 49 "TitleDesk$Script" "beats" "I" ∈ WA := wa_of (k := 140) (by decide +kernel) rfl
theorem fl_RX6_9 : Cond.fieldLink RX6 9 "TitleDesk$Tape" "signs" "[B" ∈ WA := wa_of (k := 113) (by decide +kernel) rfl
theorem fl_RX6_15 : Cond.fieldLink RX6 15 "TitleDesk$Tape" "size" "I" ∈ WA := wa_of (k := 115) (by decide +kernel) rfl
theorem fl_RX7_9 : Cond.fieldLink RX7 9 "TitleDesk$Wording" "rowEnds" "[I" ∈ WA := wa_of (k := 298) (by decide +kernel) rfl
theorem fl_RX7_15 : Cond.fieldLink RX7 15 "TitleDesk$Wording" "signs" "[B" ∈ WA := wa_of (k := 284) (by decide +kernel) rfl
theorem fl_RX7_19 : Cond.fieldLink RX7 19 "TitleDesk$Wording" "from" "I" ∈ WA := wa_of (k := 286) (by decide +kernel) rfl
theorem fl_RX7_23 : Cond.fieldLink RX7 23 "TitleDesk$Wording" "length" "I" ∈ WA := wa_of (k := 288) (by decide +kernel) rfl
theorem fl_RX7_26 : Cond.fieldLink RX7 26 "TitleDesk$Wording" "isChanged" "Z" ∈ WA := wa_of (k := 290) (by decide +kernel) rfl
theorem fl_RX7_40 : Cond.fieldLink RX7 40 "TitleDesk$Wording" "pages" "I" ∈ WA := wa_of (k := 292) (by decide +kernel) rfl
theorem fl_RX9_12 : Cond.fieldLink RX9 12 "TitleDesk" "tape" "LTitleDesk$Tape;" ∈ WA := wa_of (k := 359) (by decide +kernel) rfl
theorem fl_RX9_16 : Cond.fieldLink RX9 16 "TitleDesk" "textTape" "LTitleDesk$Tape;" ∈ WA := wa_of (k := 360) (by decide +kernel) rfl
theorem fl_RX9_22 : Cond.fieldLink RX9 22 "TitleDesk" "script" "LTitleDesk$Script;" ∈ WA := wa_of (k := 361) (by decide +kernel) rfl
theorem fl_RX9_26 : Cond.fieldLink RX9 26 "TitleDesk" "draft" "LTitleDesk$Script;" ∈ WA := wa_of (k := 362) (by decide +kernel) rfl
theorem fl_RX9_31 : Cond.fieldLink RX9 31 "TitleDesk$Tape" "signs" "[B" ∈ WA := wa_of (k := 114) (by decide +kernel) rfl
theorem fl_RX9_38 : Cond.fieldLink RX9 38 "TitleDesk" "reader" "LTitleDesk$Reader;" ∈ WA := wa_of (k := 363) (by decide +kernel) rfl
theorem fl_RX9_45 : Cond.fieldLink RX9 45 "TitleDesk" "board" "LTitleDesk$Board;" ∈ WA := wa_of (k := 364) (by decide +kernel) rfl
theorem fl_RX9_54 : Cond.fieldLink RX9 54 "TitleDesk" "evening" "LTitleDesk$Evening;" ∈ WA := wa_of (k := 365) (by decide +kernel) rfl
theorem fl_RX9_66 : Cond.fieldLink RX9 66 "TitleDesk$Tape" "size" "I" ∈ WA := wa_of (k := 116) (by decide +kernel) rfl
theorem fl_RX9_90 : Cond.fieldLink RX9 90 "TitleDesk$Script" "titles" "I" ∈ WA := wa_of (k := 135) (by decide +kernel) rfl
theorem fl_RX9_93 : Cond.fieldLink RX9 93 "TitleDesk$Reader" "faultNumber" "I" ∈ WA := wa_of (k := 215) (by decide +kernel) rfl
theorem fl_RX9_96 : Cond.fieldLink RX9 96 "TitleDesk$Reader" "faultPlace" "I" ∈ WA := wa_of (k := 217) (by decide +kernel) rfl
theorem fl_RX9_143 : Cond.fieldLink RX9 143 "TitleDesk$Evening" "following" "Z" ∈ WA := wa_of (k := 339) (by decide +kernel) rfl
theorem fl_RX9_150 : Cond.fieldLink RX9 150 "TitleDesk$Evening" "pos" "I" ∈ WA := wa_of (k := 337) (by decide +kernel) rfl
theorem fl_RX9_191 : Cond.fieldLink RX9 191 "TitleDesk$Wording" "pages" "I" ∈ WA := wa_of (k := 295) (by decide +kernel) rfl
theorem fl_RX9_196 : Cond.fieldLink RX9 196 "TitleDesk$Wording" "price" "I" ∈ WA := wa_of (k := 297) (by decide +kernel) rfl
theorem fl_RX9_214 : Cond.fieldLink RX9 214 "TitleDesk$Script" "tongues" "I" ∈ WA := wa_of (k := 132) (by decide +kernel) rfl
theorem fl_RX9_217 : Cond.fieldLink RX9 217 "TitleDesk$Script" "cuts" "I" ∈ WA := wa_of (k := 138) (by decide +kernel) rfl
theorem fl_RX9_220 : Cond.fieldLink RX9 220 "TitleDesk$Evening" "doubts" "I" ∈ WA := wa_of (k := 341) (by decide +kernel) rfl
theorem ml_RJ0_335 : Cond.methodLink RJ0 335 yJ0_coder_7d493 ∈ WA := wa_of (k := 456) (by decide +kernel) rfl
theorem ml_RJ0_492 : Cond.methodLink RJ0 492 yJ0_isLatin1_aae02 ∈ WA := wa_of (k := 466) (by decide +kernel) rfl
theorem ml_RJ0_495 : Cond.methodLink RJ0 495 yJ1_charAt_3b067 ∈ WA := wa_of (k := 470) (by decide +kernel) rfl
theorem ml_RJ0_498 : Cond.methodLink RJ0 498 yJ2_charAt_3b067 ∈ WA := wa_of (k := 481) (by decide +kernel) rfl
theorem ml_RJ0_1059 : Cond.methodLink RJ0 1059 yJ3_checkIndex_8e157 ∈ WA := wa_of (k := 478) (by decide +kernel) rfl
theorem ml_RJ1_9 : Cond.methodLink RJ1 9 yJ0_checkIndex_df160 ∈ WA := wa_of (k := 473) (by decide +kernel) rfl
theorem ml_RJ2_48 : Cond.methodLink RJ2 48 yJ2_length_9d52b ∈ WA := wa_of (k := 487) (by decide +kernel) rfl
theorem ml_RJ2_67 : Cond.methodLink RJ2 67 yJ2_checkIndex_2214a ∈ WA := wa_of (k := 484) (by decide +kernel) rfl
theorem ml_RJ2_71 : Cond.methodLink RJ2 71 yJ2_getChar_3b067 ∈ WA := wa_of (k := 491) (by decide +kernel) rfl
theorem ml_RJ2_414 : Cond.methodLink RJ2 414 yJ0_checkIndex_df160 ∈ WA := wa_of (k := 490) (by decide +kernel) rfl
theorem ml_RJ7_304 : Cond.methodLink RJ7 304 Lib.Math.min.name ∈ WA := wa_of (k := 786) (by decide +kernel) rfl
theorem ml_RL_7 : Cond.methodLink RL 7 yX9_title ∈ WA := wa_of (k := 914) (by decide +kernel) rfl
theorem ml_RL_17 : Cond.methodLink RL 17 yX9_pages ∈ WA := wa_of (k := 1021) (by decide +kernel) rfl
theorem ml_RL_20 : Cond.methodLink RL 20 yX9_price ∈ WA := wa_of (k := 1033) (by decide +kernel) rfl
theorem ml_RL_23 : Cond.methodLink RL 23 yX9_init ∈ WA := wa_of (k := 101) (by decide +kernel) rfl
theorem ml_RL_26 : Cond.methodLink RL 26 yX10_init ∈ WA := wa_of (k := 1039) (by decide +kernel) rfl
theorem ml_RL_27 : Cond.methodLink RL 27 yX9_feed ∈ WA := wa_of (k := 381) (by decide +kernel) rfl
theorem ml_RL_31 : Cond.methodLink RL 31 yX10_feed ∈ WA := wa_of (k := 1217) (by decide +kernel) rfl
theorem ml_RL_32 : Cond.methodLink RL 32 yX9_text ∈ WA := wa_of (k := 393) (by decide +kernel) rfl
theorem ml_RL_36 : Cond.methodLink RL 36 yX10_text ∈ WA := wa_of (k := 1221) (by decide +kernel) rfl
theorem ml_RL_37 : Cond.methodLink RL 37 yX9_fault ∈ WA := wa_of (k := 732) (by decide +kernel) rfl
theorem ml_RL_40 : Cond.methodLink RL 40 yX10_fault ∈ WA := wa_of (k := 1315) (by decide +kernel) rfl
theorem ml_RL_41 : Cond.methodLink RL 41 yX9_begin ∈ WA := wa_of (k := 736) (by decide +kernel) rfl
theorem ml_RL_44 : Cond.methodLink RL 44 yX10_begin ∈ WA := wa_of (k := 1319) (by decide +kernel) rfl
theorem ml_RL_45 : Cond.methodLink RL 45 yX9_cut ∈ WA := wa_of (k := 744) (by decide +kernel) rfl
theorem ml_RL_49 : Cond.methodLink RL 49 yX10_cut ∈ WA := wa_of (k := 1323) (by decide +kernel) rfl
theorem ml_RL_50 : Cond.methodLink RL 50 yX9_change ∈ WA := wa_of (k := 766) (by decide +kernel) rfl
theorem ml_RL_54 : Cond.methodLink RL 54 yX10_change ∈ WA := wa_of (k := 1335) (by decide +kernel) rfl
theorem ml_RL_55 : Cond.methodLink RL 55 yX9_heard ∈ WA := wa_of (k := 794) (by decide +kernel) rfl
theorem ml_RL_58 : Cond.methodLink RL 58 yX10_heard ∈ WA := wa_of (k := 1347) (by decide +kernel) rfl
theorem ml_RL_59 : Cond.methodLink RL 59 yX9_hand ∈ WA := wa_of (k := 806) (by decide +kernel) rfl
theorem ml_RL_63 : Cond.methodLink RL 63 yX10_hand ∈ WA := wa_of (k := 1351) (by decide +kernel) rfl
theorem ml_RL_64 : Cond.methodLink RL 64 yL_title ∈ WA := wa_of (k := 909) (by decide +kernel) rfl
theorem ml_RL_69 : Cond.methodLink RL 69 yX10_title_ ∈ WA := wa_of (k := 1355) (by decide +kernel) rfl
theorem ml_RL_70 : Cond.methodLink RL 70 yX10_thrown ∈ WA := wa_of (k := 1213) (by decide +kernel) rfl
theorem ml_RL_74 : Cond.methodLink RL 74 yL_pages ∈ WA := wa_of (k := 1018) (by decide +kernel) rfl
theorem ml_RL_76 : Cond.methodLink RL 76 yX10_pages ∈ WA := wa_of (k := 1387) (by decide +kernel) rfl
theorem ml_RL_77 : Cond.methodLink RL 77 yL_price ∈ WA := wa_of (k := 1030) (by decide +kernel) rfl
theorem ml_RL_79 : Cond.methodLink RL 79 yX10_price ∈ WA := wa_of (k := 1391) (by decide +kernel) rfl
theorem ml_RL_80 : Cond.methodLink RL 80 yX9_sign ∈ WA := wa_of (k := 814) (by decide +kernel) rfl
theorem ml_RL_83 : Cond.methodLink RL 83 yX10_sign ∈ WA := wa_of (k := 1395) (by decide +kernel) rfl
theorem ml_RL_84 : Cond.methodLink RL 84 yX9_shown ∈ WA := wa_of (k := 832) (by decide +kernel) rfl
theorem ml_RL_87 : Cond.methodLink RL 87 yX10_shown ∈ WA := wa_of (k := 1403) (by decide +kernel) rfl
theorem ml_RL_88 : Cond.methodLink RL 88 yX9_now ∈ WA := wa_of (k := 892) (by decide +kernel) rfl
theorem ml_RL_92 : Cond.methodLink RL 92 yX10_now ∈ WA := wa_of (k := 1419) (by decide +kernel) rfl
theorem ml_RL_93 : Cond.methodLink RL 93 yX9_count ∈ WA := wa_of (k := 896) (by decide +kernel) rfl
theorem ml_RL_96 : Cond.methodLink RL 96 yX10_count ∈ WA := wa_of (k := 1423) (by decide +kernel) rfl
theorem ml_RX0_32 : Cond.methodLink RX0 32 yX7_init ∈ WA := wa_of (k := 280) (by decide +kernel) rfl
theorem ml_RX0_48 : Cond.methodLink RX0 48 yX0_restore ∈ WA := wa_of (k := 658) (by decide +kernel) rfl
theorem ml_RX0_52 : Cond.methodLink RX0 52 yX0_wordingOf ∈ WA := wa_of (k := 671) (by decide +kernel) rfl
theorem ml_RX0_60 : Cond.methodLink RX0 60 yX0_isThere ∈ WA := wa_of (k := 662) (by decide +kernel) rfl
theorem ml_RX0_64 : Cond.methodLink RX0 64 yX5_stringFrom ∈ WA := wa_of (k := 675) (by decide +kernel) rfl
theorem ml_RX0_68 : Cond.methodLink RX0 68 yX5_stringLength ∈ WA := wa_of (k := 676) (by decide +kernel) rfl
theorem ml_RX0_71 : Cond.methodLink RX0 71 yX7_setString ∈ WA := wa_of (k := 677) (by decide +kernel) rfl
theorem ml_RX0_75 : Cond.methodLink RX0 75 yX5_widthOf ∈ WA := wa_of (k := 681) (by decide +kernel) rfl
theorem ml_RX0_79 : Cond.methodLink RX0 79 yX1_layOut ∈ WA := wa_of (k := 682) (by decide +kernel) rfl
theorem ml_RX0_83 : Cond.methodLink RX0 83 yX5_hasTitle ∈ WA := wa_of (k := 666) (by decide +kernel) rfl
theorem ml_RX0_87 : Cond.methodLink RX0 87 yX5_hasTongue ∈ WA := wa_of (k := 670) (by decide +kernel) rfl
theorem ml_RX0_93 : Cond.methodLink RX0 93 Lib.Math.max.name ∈ WA := wa_of (k := 880) (by decide +kernel) rfl
theorem ml_RX0_98 : Cond.methodLink RX0 98 yX0_stepsOf ∈ WA := wa_of (k := 876) (by decide +kernel) rfl
theorem ml_RX0_105 : Cond.methodLink RX0 105 yX5_speedOf ∈ WA := wa_of (k := 989) (by decide +kernel) rfl
theorem ml_RX0_108 : Cond.methodLink RX0 108 yX7_signsOf ∈ WA := wa_of (k := 990) (by decide +kernel) rfl
theorem ml_RX0_111 : Cond.methodLink RX0 111 yX5_beatsOfBar ∈ WA := wa_of (k := 994) (by decide +kernel) rfl
theorem ml_RX0_115 : Cond.methodLink RX0 115 yX0_barsOfPage ∈ WA := wa_of (k := 995) (by decide +kernel) rfl
theorem ml_RX1_36 : Cond.methodLink RX1 36 yX1_findWords ∈ WA := wa_of (k := 686) (by decide +kernel) rfl
theorem ml_RX1_40 : Cond.methodLink RX1 40 yX1_fillRows ∈ WA := wa_of (k := 690) (by decide +kernel) rfl
theorem ml_RX1_43 : Cond.methodLink RX1 43 Lib.Math.min.name ∈ WA := wa_of (k := 694) (by decide +kernel) rfl
theorem ml_RX1_52 : Cond.methodLink RX1 52 yX1_forgetPrices ∈ WA := wa_of (k := 695) (by decide +kernel) rfl
theorem ml_RX1_55 : Cond.methodLink RX1 55 yX1_priceWays ∈ WA := wa_of (k := 700) (by decide +kernel) rfl
theorem ml_RX1_58 : Cond.methodLink RX1 58 yX1_writeRows ∈ WA := wa_of (k := 712) (by decide +kernel) rfl
theorem ml_RX1_77 : Cond.methodLink RX1 77 yX1_leastPrice ∈ WA := wa_of (k := 704) (by decide +kernel) rfl
theorem ml_RX1_80 : Cond.methodLink RX1 80 yX1_priceWith ∈ WA := wa_of (k := 708) (by decide +kernel) rfl
theorem ml_RX1_84 : Cond.methodLink RX1 84 yX1_longestStop ∈ WA := wa_of (k := 716) (by decide +kernel) rfl
theorem ml_RX1_87 : Cond.methodLink RX1 87 yX7_setRowEnd ∈ WA := wa_of (k := 720) (by decide +kernel) rfl
theorem ml_RX10_122 : Cond.methodLink RX10 122 yX10_rowLength ∈ WA := wa_of (k := 1298) (by decide +kernel) rfl
theorem ml_RX10_126 : Cond.methodLink RX10 126 yX10_cutWords ∈ WA := wa_of (k := 1290) (by decide +kernel) rfl
theorem ml_RX10_130 : Cond.methodLink RX10 130 yX10_fits ∈ WA := wa_of (k := 1294) (by decide +kernel) rfl
theorem ml_RX10_137 : Cond.methodLink RX10 137 yX10_best ∈ WA := wa_of (k := 1303) (by decide +kernel) rfl
theorem ml_RX10_144 : Cond.methodLink RX10 144 yX10_paid ∈ WA := wa_of (k := 1307) (by decide +kernel) rfl
theorem ml_RX10_147 : Cond.methodLink RX10 147 yX10_lay ∈ WA := wa_of (k := 1286) (by decide +kernel) rfl
theorem ml_RX10_166 : Cond.methodLink RX10 166 yX10_isSmall ∈ WA := wa_of (k := 1233) (by decide +kernel) rfl
theorem ml_RX10_170 : Cond.methodLink RX10 170 yX10_wordAt ∈ WA := wa_of (k := 1237) (by decide +kernel) rfl
theorem ml_RX10_176 : Cond.methodLink RX10 176 yX10_isDigit ∈ WA := wa_of (k := 1241) (by decide +kernel) rfl
theorem ml_RX10_180 : Cond.methodLink RX10 180 yX10_string ∈ WA := wa_of (k := 1246) (by decide +kernel) rfl
theorem ml_RX10_183 : Cond.methodLink RX10 183 yX10_wrong ∈ WA := wa_of (k := 1250) (by decide +kernel) rfl
theorem ml_RX10_189 : Cond.methodLink RX10 189 yX10_take ∈ WA := wa_of (k := 1229) (by decide +kernel) rfl
theorem ml_RX10_195 : Cond.methodLink RX10 195 yX10_number ∈ WA := wa_of (k := 1254) (by decide +kernel) rfl
theorem ml_RX10_198 : Cond.methodLink RX10 198 yX10_semi ∈ WA := wa_of (k := 1258) (by decide +kernel) rfl
theorem ml_RX10_208 : Cond.methodLink RX10 208 yX10_bar ∈ WA := wa_of (k := 1278) (by decide +kernel) rfl
theorem ml_RX10_211 : Cond.methodLink RX10 211 yX10_areWords ∈ WA := wa_of (k := 1282) (by decide +kernel) rfl
theorem ml_RX10_220 : Cond.methodLink RX10 220 yX10_cutItem ∈ WA := wa_of (k := 1270) (by decide +kernel) rfl
theorem ml_RX10_223 : Cond.methodLink RX10 223 yX10_title ∈ WA := wa_of (k := 1274) (by decide +kernel) rfl
theorem ml_RX10_226 : Cond.methodLink RX10 226 yX10_setting ∈ WA := wa_of (k := 1262) (by decide +kernel) rfl
theorem ml_RX10_229 : Cond.methodLink RX10 229 yX10_item ∈ WA := wa_of (k := 1266) (by decide +kernel) rfl
theorem ml_RX10_232 : Cond.methodLink RX10 232 yX10_reads ∈ WA := wa_of (k := 1225) (by decide +kernel) rfl
theorem ml_RX10_244 : Cond.methodLink RX10 244 yX10_opens ∈ WA := wa_of (k := 1311) (by decide +kernel) rfl
theorem ml_RX10_253 : Cond.methodLink RX10 253 yX10_isCut ∈ WA := wa_of (k := 1331) (by decide +kernel) rfl
theorem ml_RX10_256 : Cond.methodLink RX10 256 yX10_goesOn ∈ WA := wa_of (k := 1327) (by decide +kernel) rfl
theorem ml_RX10_259 : Cond.methodLink RX10 259 yX10_isTitle ∈ WA := wa_of (k := 1339) (by decide +kernel) rfl
theorem ml_RX10_262 : Cond.methodLink RX10 262 yX10_isTongue ∈ WA := wa_of (k := 1343) (by decide +kernel) rfl
theorem ml_RX10_268 : Cond.methodLink RX10 268 yX10_layTongue ∈ WA := wa_of (k := 1367) (by decide +kernel) rfl
theorem ml_RX10_272 : Cond.methodLink RX10 272 yX10_steps ∈ WA := wa_of (k := 1363) (by decide +kernel) rfl
theorem ml_RX10_276 : Cond.methodLink RX10 276 yX10_endOf ∈ WA := wa_of (k := 1371) (by decide +kernel) rfl
theorem ml_RX10_279 : Cond.methodLink RX10 279 yX10_bars ∈ WA := wa_of (k := 1375) (by decide +kernel) rfl
theorem ml_RX10_282 : Cond.methodLink RX10 282 yX10_stepAt ∈ WA := wa_of (k := 1383) (by decide +kernel) rfl
theorem ml_RX10_285 : Cond.methodLink RX10 285 yX10_fails ∈ WA := wa_of (k := 1359) (by decide +kernel) rfl
theorem ml_RX10_288 : Cond.methodLink RX10 288 yX10_shortOf ∈ WA := wa_of (k := 1379) (by decide +kernel) rfl
theorem ml_RX10_291 : Cond.methodLink RX10 291 yX10_signOf ∈ WA := wa_of (k := 1399) (by decide +kernel) rfl
theorem ml_RX10_295 : Cond.methodLink RX10 295 yX10_stepNow ∈ WA := wa_of (k := 1411) (by decide +kernel) rfl
theorem ml_RX10_298 : Cond.methodLink RX10 298 yX10_standing ∈ WA := wa_of (k := 1407) (by decide +kernel) rfl
theorem ml_RX10_302 : Cond.methodLink RX10 302 yX10_pageNow ∈ WA := wa_of (k := 1415) (by decide +kernel) rfl
theorem ml_RX2_33 : Cond.methodLink RX2 33 yX2_goTo ∈ WA := wa_of (k := 802) (by decide +kernel) rfl
theorem ml_RX2_37 : Cond.methodLink RX2 37 yX2_behindCuts ∈ WA := wa_of (k := 753) (by decide +kernel) rfl
theorem ml_RX2_41 : Cond.methodLink RX2 41 yX5_cutTakes ∈ WA := wa_of (k := 757) (by decide +kernel) rfl
theorem ml_RX2_47 : Cond.methodLink RX2 47 yX5_cutBehind ∈ WA := wa_of (k := 762) (by decide +kernel) rfl
theorem ml_RX2_50 : Cond.methodLink RX2 50 yX5_cutFirst ∈ WA := wa_of (k := 863) (by decide +kernel) rfl
theorem ml_RX2_53 : Cond.methodLink RX2 53 Lib.Math.min.name ∈ WA := wa_of (k := 858) (by decide +kernel) rfl
theorem ml_RX2_59 : Cond.methodLink RX2 59 yX2_nextCut ∈ WA := wa_of (k := 859) (by decide +kernel) rfl
theorem ml_RX3_21 : Cond.methodLink RX3 21 yX4_init ∈ WA := wa_of (k := 187) (by decide +kernel) rfl
theorem ml_RX3_31 : Cond.methodLink RX3 31 yX5_clear ∈ WA := wa_of (k := 405) (by decide +kernel) rfl
theorem ml_RX3_36 : Cond.methodLink RX3 36 yX4_open ∈ WA := wa_of (k := 412) (by decide +kernel) rfl
theorem ml_RX3_40 : Cond.methodLink RX3 40 yX3_readTongues ∈ WA := wa_of (k := 443) (by decide +kernel) rfl
theorem ml_RX3_44 : Cond.methodLink RX3 44 yX3_readSettings ∈ WA := wa_of (k := 513) (by decide +kernel) rfl
theorem ml_RX3_48 : Cond.methodLink RX3 48 yX3_readItems ∈ WA := wa_of (k := 548) (by decide +kernel) rfl
theorem ml_RX3_53 : Cond.methodLink RX3 53 yX4_isWord ∈ WA := wa_of (k := 448) (by decide +kernel) rfl
theorem ml_RX3_60 : Cond.methodLink RX3 60 yX3_fail ∈ WA := wa_of (k := 500) (by decide +kernel) rfl
theorem ml_RX3_64 : Cond.methodLink RX3 64 yX4_step ∈ WA := wa_of (k := 504) (by decide +kernel) rfl
theorem ml_RX3_67 : Cond.methodLink RX3 67 yX3_readNumber ∈ WA := wa_of (k := 505) (by decide +kernel) rfl
theorem ml_RX3_75 : Cond.methodLink RX3 75 yX3_readSemicolon ∈ WA := wa_of (k := 509) (by decide +kernel) rfl
theorem ml_RX3_93 : Cond.methodLink RX3 93 yX3_readTongueSetting ∈ WA := wa_of (k := 518) (by decide +kernel) rfl
theorem ml_RX3_104 : Cond.methodLink RX3 104 yX3_readBeats ∈ WA := wa_of (k := 536) (by decide +kernel) rfl
theorem ml_RX3_107 : Cond.methodLink RX3 107 yX5_tells ∈ WA := wa_of (k := 522) (by decide +kernel) rfl
theorem ml_RX3_111 : Cond.methodLink RX3 111 yX5_tell ∈ WA := wa_of (k := 530) (by decide +kernel) rfl
theorem ml_RX3_115 : Cond.methodLink RX3 115 yX5_tellsBeats ∈ WA := wa_of (k := 540) (by decide +kernel) rfl
theorem ml_RX3_118 : Cond.methodLink RX3 118 yX5_tellBeats ∈ WA := wa_of (k := 544) (by decide +kernel) rfl
theorem ml_RX3_124 : Cond.methodLink RX3 124 yX3_readMark ∈ WA := wa_of (k := 553) (by decide +kernel) rfl
theorem ml_RX3_127 : Cond.methodLink RX3 127 yX3_readStrings ∈ WA := wa_of (k := 574) (by decide +kernel) rfl
theorem ml_RX3_130 : Cond.methodLink RX3 130 yX3_stringsFit ∈ WA := wa_of (k := 609) (by decide +kernel) rfl
theorem ml_RX3_137 : Cond.methodLink RX3 137 yX3_readCut ∈ WA := wa_of (k := 634) (by decide +kernel) rfl
theorem ml_RX3_140 : Cond.methodLink RX3 140 yX5_isFullOfMarks ∈ WA := wa_of (k := 557) (by decide +kernel) rfl
theorem ml_RX3_143 : Cond.methodLink RX3 143 yX5_latestBar ∈ WA := wa_of (k := 561) (by decide +kernel) rfl
theorem ml_RX3_147 : Cond.methodLink RX3 147 yX5_addMark ∈ WA := wa_of (k := 569) (by decide +kernel) rfl
theorem ml_RX3_150 : Cond.methodLink RX3 150 yX4_stringFrom ∈ WA := wa_of (k := 578) (by decide +kernel) rfl
theorem ml_RX3_153 : Cond.methodLink RX3 153 yX4_stringLength ∈ WA := wa_of (k := 582) (by decide +kernel) rfl
theorem ml_RX3_160 : Cond.methodLink RX3 160 yX8_areProper ∈ WA := wa_of (k := 586) (by decide +kernel) rfl
theorem ml_RX3_166 : Cond.methodLink RX3 166 yX5_addTitle ∈ WA := wa_of (k := 592) (by decide +kernel) rfl
theorem ml_RX3_170 : Cond.methodLink RX3 170 yX3_readFurtherString ∈ WA := wa_of (k := 603) (by decide +kernel) rfl
theorem ml_RX3_173 : Cond.methodLink RX3 173 yX5_hasTongue ∈ WA := wa_of (k := 607) (by decide +kernel) rfl
theorem ml_RX3_176 : Cond.methodLink RX3 176 yX5_setString ∈ WA := wa_of (k := 608) (by decide +kernel) rfl
theorem ml_RX3_183 : Cond.methodLink RX3 183 yX5_stringFrom ∈ WA := wa_of (k := 613) (by decide +kernel) rfl
theorem ml_RX3_186 : Cond.methodLink RX3 186 yX5_stringLength ∈ WA := wa_of (k := 617) (by decide +kernel) rfl
theorem ml_RX3_188 : Cond.methodLink RX3 188 yX5_widthOf ∈ WA := wa_of (k := 621) (by decide +kernel) rfl
theorem ml_RX3_192 : Cond.methodLink RX3 192 yX8_fit ∈ WA := wa_of (k := 626) (by decide +kernel) rfl
theorem ml_RX3_196 : Cond.methodLink RX3 196 yX5_isFullOfCuts ∈ WA := wa_of (k := 638) (by decide +kernel) rfl
theorem ml_RX3_199 : Cond.methodLink RX3 199 yX5_hasCut ∈ WA := wa_of (k := 642) (by decide +kernel) rfl
theorem ml_RX3_202 : Cond.methodLink RX3 202 yX5_addCut ∈ WA := wa_of (k := 646) (by decide +kernel) rfl
theorem ml_RX4_15 : Cond.methodLink RX4 15 Lib.Math.min.name ∈ WA := wa_of (k := 416) (by decide +kernel) rfl
theorem ml_RX4_21 : Cond.methodLink RX4 21 Lib.Math.max.name ∈ WA := wa_of (k := 419) (by decide +kernel) rfl
theorem ml_RX4_31 : Cond.methodLink RX4 31 yX4_step ∈ WA := wa_of (k := 422) (by decide +kernel) rfl
theorem ml_RX4_40 : Cond.methodLink RX4 40 yX4_takeWord ∈ WA := wa_of (k := 426) (by decide +kernel) rfl
theorem ml_RX4_43 : Cond.methodLink RX4 43 yX4_takeNumber ∈ WA := wa_of (k := 430) (by decide +kernel) rfl
theorem ml_RX4_46 : Cond.methodLink RX4 46 yX4_takeString ∈ WA := wa_of (k := 435) (by decide +kernel) rfl
theorem ml_RX4_49 : Cond.methodLink RX4 49 yX4_takeSingle ∈ WA := wa_of (k := 439) (by decide +kernel) rfl
theorem ml_RX4_57 : Cond.methodLink RX4 57 yJ0_length_8abf5 ∈ WA := wa_of (k := 452) (by decide +kernel) rfl
theorem ml_RX4_62 : Cond.methodLink RX4 62 yJ0_charAt_5068e ∈ WA := wa_of (k := 462) (by decide +kernel) rfl
theorem ml_RX5_52 : Cond.methodLink RX5 52 yJ7_fill_53178 ∈ WA := wa_of (k := 409) (by decide +kernel) rfl
theorem ml_RX5_58 : Cond.methodLink RX5 58 yX5_hasTongue ∈ WA := wa_of (k := 526) (by decide +kernel) rfl
theorem ml_RX5_62 : Cond.methodLink RX5 62 yX5_tells ∈ WA := wa_of (k := 625) (by decide +kernel) rfl
theorem ml_RX5_66 : Cond.methodLink RX5 66 yX5_tellsBeats ∈ WA := wa_of (k := 908) (by decide +kernel) rfl
theorem ml_RX5_70 : Cond.methodLink RX5 70 yX5_isFullOfMarks ∈ WA := wa_of (k := 573) (by decide +kernel) rfl
theorem ml_RX5_73 : Cond.methodLink RX5 73 yX5_setString ∈ WA := wa_of (k := 596) (by decide +kernel) rfl
theorem ml_RX5_77 : Cond.methodLink RX5 77 yX5_slotOf ∈ WA := wa_of (k := 600) (by decide +kernel) rfl
theorem ml_RX5_81 : Cond.methodLink RX5 81 yX5_barOfMark ∈ WA := wa_of (k := 565) (by decide +kernel) rfl
theorem ml_RX5_84 : Cond.methodLink RX5 84 yX5_hasTitle ∈ WA := wa_of (k := 844) (by decide +kernel) rfl
theorem ml_RX5_87 : Cond.methodLink RX5 87 yX5_barOf ∈ WA := wa_of (k := 840) (by decide +kernel) rfl
theorem ml_RX5_91 : Cond.methodLink RX5 91 yX5_endOf ∈ WA := wa_of (k := 845) (by decide +kernel) rfl
theorem ml_RX5_94 : Cond.methodLink RX5 94 yX5_hasCut ∈ WA := wa_of (k := 761) (by decide +kernel) rfl
theorem ml_RX7_30 : Cond.methodLink RX7 30 yX7_rowBegin ∈ WA := wa_of (k := 827) (by decide +kernel) rfl
theorem ml_RX7_34 : Cond.methodLink RX7 34 Lib.Math.max.name ∈ WA := wa_of (k := 831) (by decide +kernel) rfl
theorem ml_RX7_43 : Cond.methodLink RX7 43 yX7_rowLength ∈ WA := wa_of (k := 823) (by decide +kernel) rfl
theorem ml_RX8_9 : Cond.methodLink RX8 9 yX8_areWithin ∈ WA := wa_of (k := 589) (by decide +kernel) rfl
theorem ml_RX8_15 : Cond.methodLink RX8 15 yX8_leastRows ∈ WA := wa_of (k := 629) (by decide +kernel) rfl
theorem ml_RX9_35 : Cond.methodLink RX9 35 yX3_init ∈ WA := wa_of (k := 181) (by decide +kernel) rfl
theorem ml_RX9_44 : Cond.methodLink RX9 44 yX0_init ∈ WA := wa_of (k := 237) (by decide +kernel) rfl
theorem ml_RX9_51 : Cond.methodLink RX9 51 yX2_init ∈ WA := wa_of (k := 332) (by decide +kernel) rfl
theorem ml_RX9_58 : Cond.methodLink RX9 58 yX6_hasRoom ∈ WA := wa_of (k := 385) (by decide +kernel) rfl
theorem ml_RX9_62 : Cond.methodLink RX9 62 yX6_append ∈ WA := wa_of (k := 389) (by decide +kernel) rfl
theorem ml_RX9_70 : Cond.methodLink RX9 70 yX6_holds ∈ WA := wa_of (k := 397) (by decide +kernel) rfl
theorem ml_RX9_74 : Cond.methodLink RX9 74 yX3_read ∈ WA := wa_of (k := 401) (by decide +kernel) rfl
theorem ml_RX9_78 : Cond.methodLink RX9 78 yX9_takeDraft ∈ WA := wa_of (k := 650) (by decide +kernel) rfl
theorem ml_RX9_81 : Cond.methodLink RX9 81 yX0_useScript ∈ WA := wa_of (k := 654) (by decide +kernel) rfl
theorem ml_RX9_84 : Cond.methodLink RX9 84 yX2_start ∈ WA := wa_of (k := 724) (by decide +kernel) rfl
theorem ml_RX9_87 : Cond.methodLink RX9 87 yX6_clear ∈ WA := wa_of (k := 728) (by decide +kernel) rfl
theorem ml_RX9_99 : Cond.methodLink RX9 99 yX0_restoreAll ∈ WA := wa_of (k := 740) (by decide +kernel) rfl
theorem ml_RX9_102 : Cond.methodLink RX9 102 yX5_hasCut ∈ WA := wa_of (k := 748) (by decide +kernel) rfl
theorem ml_RX9_105 : Cond.methodLink RX9 105 yX2_switchCut ∈ WA := wa_of (k := 749) (by decide +kernel) rfl
theorem ml_RX9_109 : Cond.methodLink RX9 109 yX5_hasTitle ∈ WA := wa_of (k := 770) (by decide +kernel) rfl
theorem ml_RX9_112 : Cond.methodLink RX9 112 yX5_hasTongue ∈ WA := wa_of (k := 771) (by decide +kernel) rfl
theorem ml_RX9_115 : Cond.methodLink RX9 115 yX0_restore ∈ WA := wa_of (k := 772) (by decide +kernel) rfl
theorem ml_RX9_119 : Cond.methodLink RX9 119 yX8_areProper ∈ WA := wa_of (k := 773) (by decide +kernel) rfl
theorem ml_RX9_125 : Cond.methodLink RX9 125 yX5_widthOf ∈ WA := wa_of (k := 774) (by decide +kernel) rfl
theorem ml_RX9_129 : Cond.methodLink RX9 129 yX8_fit ∈ WA := wa_of (k := 775) (by decide +kernel) rfl
theorem ml_RX9_133 : Cond.methodLink RX9 133 yJ7_copyOf_9075b ∈ WA := wa_of (k := 776) (by decide +kernel) rfl
theorem ml_RX9_139 : Cond.methodLink RX9 139 yX0_replace ∈ WA := wa_of (k := 790) (by decide +kernel) rfl
theorem ml_RX9_147 : Cond.methodLink RX9 147 yX2_hear ∈ WA := wa_of (k := 798) (by decide +kernel) rfl
theorem ml_RX9_153 : Cond.methodLink RX9 153 yX2_lead ∈ WA := wa_of (k := 810) (by decide +kernel) rfl
theorem ml_RX9_163 : Cond.methodLink RX9 163 yX5_barOf ∈ WA := wa_of (k := 853) (by decide +kernel) rfl
theorem ml_RX9_166 : Cond.methodLink RX9 166 yX0_stepsOf ∈ WA := wa_of (k := 984) (by decide +kernel) rfl
theorem ml_RX9_169 : Cond.methodLink RX9 169 yX9_countedBarsOf ∈ WA := wa_of (k := 867) (by decide +kernel) rfl
theorem ml_RX9_172 : Cond.methodLink RX9 172 yX0_shortOf ∈ WA := wa_of (k := 985) (by decide +kernel) rfl
theorem ml_RX9_176 : Cond.methodLink RX9 176 yX0_isChanged ∈ WA := wa_of (k := 998) (by decide +kernel) rfl
theorem ml_RX9_184 : Cond.methodLink RX9 184 yX9_refuseUnknown ∈ WA := wa_of (k := 1025) (by decide +kernel) rfl
theorem ml_RX9_187 : Cond.methodLink RX9 187 yX0_wordingOf ∈ WA := wa_of (k := 818) (by decide +kernel) rfl
theorem ml_RX9_201 : Cond.methodLink RX9 201 yX7_signAt ∈ WA := wa_of (k := 819) (by decide +kernel) rfl
theorem ml_RX9_205 : Cond.methodLink RX9 205 yX5_titleAt ∈ WA := wa_of (k := 836) (by decide +kernel) rfl
theorem ml_RX9_208 : Cond.methodLink RX9 208 yX9_shownStep ∈ WA := wa_of (k := 849) (by decide +kernel) rfl
theorem ml_RX9_211 : Cond.methodLink RX9 211 yX9_shownPage ∈ WA := wa_of (k := 884) (by decide +kernel) rfl
theorem ml_RX9_223 : Cond.methodLink RX9 223 yX5_speedOf ∈ WA := wa_of (k := 900) (by decide +kernel) rfl
theorem ml_RX9_226 : Cond.methodLink RX9 226 yX5_beatsOfBar ∈ WA := wa_of (k := 904) (by decide +kernel) rfl
theorem ml_RX9_230 : Cond.methodLink RX9 230 yX5_endOf ∈ WA := wa_of (k := 871) (by decide +kernel) rfl
theorem ml_RX9_233 : Cond.methodLink RX9 233 yX2_countedBars ∈ WA := wa_of (k := 854) (by decide +kernel) rfl
theorem ml_RX9_236 : Cond.methodLink RX9 236 yX0_stepBehind ∈ WA := wa_of (k := 872) (by decide +kernel) rfl
theorem ml_RX9_239 : Cond.methodLink RX9 239 yX0_pageInStep ∈ WA := wa_of (k := 888) (by decide +kernel) rfl
theorem cn_RX1_76 : Cond.constant RX1 76 (1000000) ∈ WA := wa_of (k := 699) (by decide +kernel) rfl
theorem cn_RX10_41 : Cond.constant RX10 41 (80000) ∈ WA := wa_of (k := 1043) (by decide +kernel) rfl
theorem cn_RX10_136 : Cond.constant RX10 136 (1000000) ∈ WA := wa_of (k := 1302) (by decide +kernel) rfl
theorem cn_RX10_179 : Cond.constant RX10 179 (99999) ∈ WA := wa_of (k := 1245) (by decide +kernel) rfl
theorem cn_RX4_56 : Cond.constant RX4 56 (100000) ∈ WA := wa_of (k := 434) (by decide +kernel) rfl
theorem cd_X0_barsOfPage : Cond.code yX0_barsOfPage cX0_barsOfPage 6 (some .int) ∈ WA := wa_of (k := 997) (by decide +kernel) rfl
theorem sm_X0_barsOfPage : Cond.static yX0_barsOfPage ∈ WA := wa_of (k := 996) (by decide +kernel) rfl
theorem cd_X0_init : Cond.code yX0_init cX0_init 4 none ∈ WA := wa_of (k := 239) (by decide +kernel) rfl
theorem im_X0_init : Cond.instanceMethod yX0_init ∈ WA := wa_of (k := 238) (by decide +kernel) rfl
theorem cd_X0_isChanged : Cond.code yX0_isChanged cX0_isChanged 3 (some .boolean) ∈ WA := wa_of (k := 1001) (by decide +kernel) rfl
theorem im_X0_isChanged : Cond.instanceMethod yX0_isChanged ∈ WA := wa_of (k := 999) (by decide +kernel) rfl
theorem se_X0_isChanged : Cond.selects RX0 yX0_isChanged yX0_isChanged ∈ WA := wa_of (k := 1000) (by decide +kernel) rfl
theorem cd_X0_isThere : Cond.code yX0_isThere cX0_isThere 3 (some .boolean) ∈ WA := wa_of (k := 665) (by decide +kernel) rfl
theorem im_X0_isThere : Cond.instanceMethod yX0_isThere ∈ WA := wa_of (k := 664) (by decide +kernel) rfl
theorem se_X0_isThere : Cond.selects RX0 yX0_isThere yX0_isThere ∈ WA := wa_of (k := 19) (by decide +kernel) rfl
theorem cd_X0_pageInStep : Cond.code yX0_pageInStep cX0_pageInStep 4 (some .int) ∈ WA := wa_of (k := 891) (by decide +kernel) rfl
theorem im_X0_pageInStep : Cond.instanceMethod yX0_pageInStep ∈ WA := wa_of (k := 889) (by decide +kernel) rfl
theorem se_X0_pageInStep : Cond.selects RX0 yX0_pageInStep yX0_pageInStep ∈ WA := wa_of (k := 890) (by decide +kernel) rfl
theorem cd_X0_replace : Cond.code yX0_replace cX0_replace 5 none ∈ WA := wa_of (k := 793) (by decide +kernel) rfl
theorem im_X0_replace : Cond.instanceMethod yX0_replace ∈ WA := wa_of (k := 791) (by decide +kernel) rfl
theorem se_X0_replace : Cond.selects RX0 yX0_replace yX0_replace ∈ WA := wa_of (k := 792) (by decide +kernel) rfl
theorem cd_X0_restore : Cond.code yX0_restore cX0_restore 5 none ∈ WA := wa_of (k := 661) (by decide +kernel) rfl
theorem im_X0_restore : Cond.instanceMethod yX0_restore ∈ WA := wa_of (k := 659) (by decide +kernel) rfl
theorem se_X0_restore : Cond.selects RX0 yX0_restore yX0_restore ∈ WA := wa_of (k := 660) (by decide +kernel) rfl
theorem cd_X0_restoreAll : Cond.code yX0_restoreAll cX0_restoreAll 3 none ∈ WA := wa_of (k := 743) (by decide +kernel) rfl
theorem im_X0_restoreAll : Cond.instanceMethod yX0_restoreAll ∈ WA := wa_of (k := 741) (by decide +kernel) rfl
theorem se_X0_restoreAll : Cond.selects RX0 yX0_restoreAll yX0_restoreAll ∈ WA := wa_of (k := 742) (by decide +kernel) rfl
theorem cd_X0_shortOf : Cond.code yX0_shortOf cX0_shortOf 11 (some .int) ∈ WA := wa_of (k := 988) (by decide +kernel) rfl
theorem im_X0_shortOf : Cond.instanceMethod yX0_shortOf ∈ WA := wa_of (k := 986) (by decide +kernel) rfl
theorem se_X0_shortOf : Cond.selects RX0 yX0_shortOf yX0_shortOf ∈ WA := wa_of (k := 987) (by decide +kernel) rfl
theorem cd_X0_stepBehind : Cond.code yX0_stepBehind cX0_stepBehind 6 (some .int) ∈ WA := wa_of (k := 875) (by decide +kernel) rfl
theorem im_X0_stepBehind : Cond.instanceMethod yX0_stepBehind ∈ WA := wa_of (k := 873) (by decide +kernel) rfl
theorem se_X0_stepBehind : Cond.selects RX0 yX0_stepBehind yX0_stepBehind ∈ WA := wa_of (k := 874) (by decide +kernel) rfl
theorem cd_X0_stepsOf : Cond.code yX0_stepsOf cX0_stepsOf 4 (some .int) ∈ WA := wa_of (k := 879) (by decide +kernel) rfl
theorem im_X0_stepsOf : Cond.instanceMethod yX0_stepsOf ∈ WA := wa_of (k := 877) (by decide +kernel) rfl
theorem se_X0_stepsOf : Cond.selects RX0 yX0_stepsOf yX0_stepsOf ∈ WA := wa_of (k := 878) (by decide +kernel) rfl
theorem cd_X0_useScript : Cond.code yX0_useScript cX0_useScript 5 none ∈ WA := wa_of (k := 657) (by decide +kernel) rfl
theorem im_X0_useScript : Cond.instanceMethod yX0_useScript ∈ WA := wa_of (k := 655) (by decide +kernel) rfl
theorem se_X0_useScript : Cond.selects RX0 yX0_useScript yX0_useScript ∈ WA := wa_of (k := 656) (by decide +kernel) rfl
theorem cd_X0_wordingOf : Cond.code yX0_wordingOf cX0_wordingOf 3 (some (.object "TitleDesk$Wording")) ∈ WA := wa_of (k := 674) (by decide +kernel) rfl
theorem im_X0_wordingOf : Cond.instanceMethod yX0_wordingOf ∈ WA := wa_of (k := 672) (by decide +kernel) rfl
theorem se_X0_wordingOf : Cond.selects RX0 yX0_wordingOf yX0_wordingOf ∈ WA := wa_of (k := 673) (by decide +kernel) rfl
theorem cd_X10_areWords : Cond.code yX10_areWords cX10_areWords 4 (some .boolean) ∈ WA := wa_of (k := 1285) (by decide +kernel) rfl
theorem im_X10_areWords : Cond.instanceMethod yX10_areWords ∈ WA := wa_of (k := 1284) (by decide +kernel) rfl
theorem se_X10_areWords : Cond.selects RX10 yX10_areWords yX10_areWords ∈ WA := wa_of (k := 52) (by decide +kernel) rfl
theorem cd_X10_bar : Cond.code yX10_bar cX10_bar 2 (some .boolean) ∈ WA := wa_of (k := 1281) (by decide +kernel) rfl
theorem im_X10_bar : Cond.instanceMethod yX10_bar ∈ WA := wa_of (k := 1280) (by decide +kernel) rfl
theorem se_X10_bar : Cond.selects RX10 yX10_bar yX10_bar ∈ WA := wa_of (k := 51) (by decide +kernel) rfl
theorem cd_X10_bars : Cond.code yX10_bars cX10_bars 5 (some .int) ∈ WA := wa_of (k := 1378) (by decide +kernel) rfl
theorem im_X10_bars : Cond.instanceMethod yX10_bars ∈ WA := wa_of (k := 1377) (by decide +kernel) rfl
theorem se_X10_bars : Cond.selects RX10 yX10_bars yX10_bars ∈ WA := wa_of (k := 68) (by decide +kernel) rfl
theorem cd_X10_begin : Cond.code yX10_begin cX10_begin 1 none ∈ WA := wa_of (k := 1322) (by decide +kernel) rfl
theorem im_X10_begin : Cond.instanceMethod yX10_begin ∈ WA := wa_of (k := 1320) (by decide +kernel) rfl
theorem se_X10_begin : Cond.selects RX10 yX10_begin yX10_begin ∈ WA := wa_of (k := 1321) (by decide +kernel) rfl
theorem cd_X10_best : Cond.code yX10_best cX10_best 10 (some .int) ∈ WA := wa_of (k := 1306) (by decide +kernel) rfl
theorem im_X10_best : Cond.instanceMethod yX10_best ∈ WA := wa_of (k := 1305) (by decide +kernel) rfl
theorem se_X10_best : Cond.selects RX10 yX10_best yX10_best ∈ WA := wa_of (k := 57) (by decide +kernel) rfl
theorem cd_X10_change : Cond.code yX10_change cX10_change 6 (some .boolean) ∈ WA := wa_of (k := 1338) (by decide +kernel) rfl
theorem im_X10_change : Cond.instanceMethod yX10_change ∈ WA := wa_of (k := 1336) (by decide +kernel) rfl
theorem se_X10_change : Cond.selects RX10 yX10_change yX10_change ∈ WA := wa_of (k := 1337) (by decide +kernel) rfl
theorem cd_X10_count : Cond.code yX10_count cX10_count 2 (some .int) ∈ WA := wa_of (k := 1426) (by decide +kernel) rfl
theorem im_X10_count : Cond.instanceMethod yX10_count ∈ WA := wa_of (k := 1424) (by decide +kernel) rfl
theorem se_X10_count : Cond.selects RX10 yX10_count yX10_count ∈ WA := wa_of (k := 1425) (by decide +kernel) rfl
theorem cd_X10_cut : Cond.code yX10_cut cX10_cut 3 (some .boolean) ∈ WA := wa_of (k := 1326) (by decide +kernel) rfl
theorem im_X10_cut : Cond.instanceMethod yX10_cut ∈ WA := wa_of (k := 1324) (by decide +kernel) rfl
theorem se_X10_cut : Cond.selects RX10 yX10_cut yX10_cut ∈ WA := wa_of (k := 1325) (by decide +kernel) rfl
theorem cd_X10_cutItem : Cond.code yX10_cutItem cX10_cutItem 4 (some .boolean) ∈ WA := wa_of (k := 1273) (by decide +kernel) rfl
theorem im_X10_cutItem : Cond.instanceMethod yX10_cutItem ∈ WA := wa_of (k := 1272) (by decide +kernel) rfl
theorem se_X10_cutItem : Cond.selects RX10 yX10_cutItem yX10_cutItem ∈ WA := wa_of (k := 49) (by decide +kernel) rfl
theorem cd_X10_cutWords : Cond.code yX10_cutWords cX10_cutWords 4 none ∈ WA := wa_of (k := 1293) (by decide +kernel) rfl
theorem im_X10_cutWords : Cond.instanceMethod yX10_cutWords ∈ WA := wa_of (k := 1292) (by decide +kernel) rfl
theorem se_X10_cutWords : Cond.selects RX10 yX10_cutWords yX10_cutWords ∈ WA := wa_of (k := 54) (by decide +kernel) rfl
theorem cd_X10_endOf : Cond.code yX10_endOf cX10_endOf 2 (some .int) ∈ WA := wa_of (k := 1374) (by decide +kernel) rfl
theorem im_X10_endOf : Cond.instanceMethod yX10_endOf ∈ WA := wa_of (k := 1373) (by decide +kernel) rfl
theorem se_X10_endOf : Cond.selects RX10 yX10_endOf yX10_endOf ∈ WA := wa_of (k := 67) (by decide +kernel) rfl
theorem cd_X10_fails : Cond.code yX10_fails cX10_fails 2 (some .int) ∈ WA := wa_of (k := 1362) (by decide +kernel) rfl
theorem im_X10_fails : Cond.instanceMethod yX10_fails ∈ WA := wa_of (k := 1361) (by decide +kernel) rfl
theorem se_X10_fails : Cond.selects RX10 yX10_fails yX10_fails ∈ WA := wa_of (k := 64) (by decide +kernel) rfl
theorem cd_X10_fault : Cond.code yX10_fault cX10_fault 2 (some .int) ∈ WA := wa_of (k := 1318) (by decide +kernel) rfl
theorem im_X10_fault : Cond.instanceMethod yX10_fault ∈ WA := wa_of (k := 1316) (by decide +kernel) rfl
theorem se_X10_fault : Cond.selects RX10 yX10_fault yX10_fault ∈ WA := wa_of (k := 1317) (by decide +kernel) rfl
theorem cd_X10_feed : Cond.code yX10_feed cX10_feed 8 (some .int) ∈ WA := wa_of (k := 1220) (by decide +kernel) rfl
theorem im_X10_feed : Cond.instanceMethod yX10_feed ∈ WA := wa_of (k := 1218) (by decide +kernel) rfl
theorem se_X10_feed : Cond.selects RX10 yX10_feed yX10_feed ∈ WA := wa_of (k := 1219) (by decide +kernel) rfl
theorem cd_X10_fits : Cond.code yX10_fits cX10_fits 4 (some .int) ∈ WA := wa_of (k := 1297) (by decide +kernel) rfl
theorem im_X10_fits : Cond.instanceMethod yX10_fits ∈ WA := wa_of (k := 1296) (by decide +kernel) rfl
theorem se_X10_fits : Cond.selects RX10 yX10_fits yX10_fits ∈ WA := wa_of (k := 55) (by decide +kernel) rfl
theorem cd_X10_goesOn : Cond.code yX10_goesOn cX10_goesOn 1 none ∈ WA := wa_of (k := 1330) (by decide +kernel) rfl
theorem im_X10_goesOn : Cond.instanceMethod yX10_goesOn ∈ WA := wa_of (k := 1329) (by decide +kernel) rfl
theorem se_X10_goesOn : Cond.selects RX10 yX10_goesOn yX10_goesOn ∈ WA := wa_of (k := 60) (by decide +kernel) rfl
theorem cd_X10_hand : Cond.code yX10_hand cX10_hand 3 (some .int) ∈ WA := wa_of (k := 1354) (by decide +kernel) rfl
theorem im_X10_hand : Cond.instanceMethod yX10_hand ∈ WA := wa_of (k := 1352) (by decide +kernel) rfl
theorem se_X10_hand : Cond.selects RX10 yX10_hand yX10_hand ∈ WA := wa_of (k := 1353) (by decide +kernel) rfl
theorem cd_X10_heard : Cond.code yX10_heard cX10_heard 2 (some .int) ∈ WA := wa_of (k := 1350) (by decide +kernel) rfl
theorem im_X10_heard : Cond.instanceMethod yX10_heard ∈ WA := wa_of (k := 1348) (by decide +kernel) rfl
theorem se_X10_heard : Cond.selects RX10 yX10_heard yX10_heard ∈ WA := wa_of (k := 1349) (by decide +kernel) rfl
theorem cd_X10_init : Cond.code yX10_init cX10_init 1 none ∈ WA := wa_of (k := 1041) (by decide +kernel) rfl
theorem im_X10_init : Cond.instanceMethod yX10_init ∈ WA := wa_of (k := 1040) (by decide +kernel) rfl
theorem cd_X10_isCut : Cond.code yX10_isCut cX10_isCut 4 (some .boolean) ∈ WA := wa_of (k := 1334) (by decide +kernel) rfl
theorem im_X10_isCut : Cond.instanceMethod yX10_isCut ∈ WA := wa_of (k := 1333) (by decide +kernel) rfl
theorem se_X10_isCut : Cond.selects RX10 yX10_isCut yX10_isCut ∈ WA := wa_of (k := 61) (by decide +kernel) rfl
theorem cd_X10_isDigit : Cond.code yX10_isDigit cX10_isDigit 2 (some .boolean) ∈ WA := wa_of (k := 1244) (by decide +kernel) rfl
theorem im_X10_isDigit : Cond.instanceMethod yX10_isDigit ∈ WA := wa_of (k := 1243) (by decide +kernel) rfl
theorem se_X10_isDigit : Cond.selects RX10 yX10_isDigit yX10_isDigit ∈ WA := wa_of (k := 42) (by decide +kernel) rfl
theorem cd_X10_isSmall : Cond.code yX10_isSmall cX10_isSmall 2 (some .boolean) ∈ WA := wa_of (k := 1236) (by decide +kernel) rfl
theorem im_X10_isSmall : Cond.instanceMethod yX10_isSmall ∈ WA := wa_of (k := 1235) (by decide +kernel) rfl
theorem se_X10_isSmall : Cond.selects RX10 yX10_isSmall yX10_isSmall ∈ WA := wa_of (k := 40) (by decide +kernel) rfl
theorem cd_X10_isTitle : Cond.code yX10_isTitle cX10_isTitle 2 (some .boolean) ∈ WA := wa_of (k := 1342) (by decide +kernel) rfl
theorem im_X10_isTitle : Cond.instanceMethod yX10_isTitle ∈ WA := wa_of (k := 1341) (by decide +kernel) rfl
theorem se_X10_isTitle : Cond.selects RX10 yX10_isTitle yX10_isTitle ∈ WA := wa_of (k := 62) (by decide +kernel) rfl
theorem cd_X10_isTongue : Cond.code yX10_isTongue cX10_isTongue 2 (some .boolean) ∈ WA := wa_of (k := 1346) (by decide +kernel) rfl
theorem im_X10_isTongue : Cond.instanceMethod yX10_isTongue ∈ WA := wa_of (k := 1345) (by decide +kernel) rfl
theorem se_X10_isTongue : Cond.selects RX10 yX10_isTongue yX10_isTongue ∈ WA := wa_of (k := 63) (by decide +kernel) rfl
theorem cd_X10_item : Cond.code yX10_item cX10_item 2 (some .boolean) ∈ WA := wa_of (k := 1269) (by decide +kernel) rfl
theorem im_X10_item : Cond.instanceMethod yX10_item ∈ WA := wa_of (k := 1268) (by decide +kernel) rfl
theorem se_X10_item : Cond.selects RX10 yX10_item yX10_item ∈ WA := wa_of (k := 48) (by decide +kernel) rfl
theorem cd_X10_lay : Cond.code yX10_lay cX10_lay 10 (some .boolean) ∈ WA := wa_of (k := 1289) (by decide +kernel) rfl
theorem im_X10_lay : Cond.instanceMethod yX10_lay ∈ WA := wa_of (k := 1288) (by decide +kernel) rfl
theorem se_X10_lay : Cond.selects RX10 yX10_lay yX10_lay ∈ WA := wa_of (k := 53) (by decide +kernel) rfl
theorem cd_X10_layTongue : Cond.code yX10_layTongue cX10_layTongue 7 none ∈ WA := wa_of (k := 1370) (by decide +kernel) rfl
theorem im_X10_layTongue : Cond.instanceMethod yX10_layTongue ∈ WA := wa_of (k := 1369) (by decide +kernel) rfl
theorem se_X10_layTongue : Cond.selects RX10 yX10_layTongue yX10_layTongue ∈ WA := wa_of (k := 66) (by decide +kernel) rfl
theorem cd_X10_now : Cond.code yX10_now cX10_now 5 (some .int) ∈ WA := wa_of (k := 1422) (by decide +kernel) rfl
theorem im_X10_now : Cond.instanceMethod yX10_now ∈ WA := wa_of (k := 1420) (by decide +kernel) rfl
theorem se_X10_now : Cond.selects RX10 yX10_now yX10_now ∈ WA := wa_of (k := 1421) (by decide +kernel) rfl
theorem cd_X10_number : Cond.code yX10_number cX10_number 3 (some .boolean) ∈ WA := wa_of (k := 1257) (by decide +kernel) rfl
theorem im_X10_number : Cond.instanceMethod yX10_number ∈ WA := wa_of (k := 1256) (by decide +kernel) rfl
theorem se_X10_number : Cond.selects RX10 yX10_number yX10_number ∈ WA := wa_of (k := 45) (by decide +kernel) rfl
theorem cd_X10_opens : Cond.code yX10_opens cX10_opens 2 none ∈ WA := wa_of (k := 1314) (by decide +kernel) rfl
theorem im_X10_opens : Cond.instanceMethod yX10_opens ∈ WA := wa_of (k := 1313) (by decide +kernel) rfl
theorem se_X10_opens : Cond.selects RX10 yX10_opens yX10_opens ∈ WA := wa_of (k := 59) (by decide +kernel) rfl
theorem cd_X10_pageNow : Cond.code yX10_pageNow cX10_pageNow 5 (some .int) ∈ WA := wa_of (k := 1418) (by decide +kernel) rfl
theorem im_X10_pageNow : Cond.instanceMethod yX10_pageNow ∈ WA := wa_of (k := 1417) (by decide +kernel) rfl
theorem se_X10_pageNow : Cond.selects RX10 yX10_pageNow yX10_pageNow ∈ WA := wa_of (k := 74) (by decide +kernel) rfl
theorem cd_X10_pages : Cond.code yX10_pages cX10_pages 3 (some .int) ∈ WA := wa_of (k := 1390) (by decide +kernel) rfl
theorem im_X10_pages : Cond.instanceMethod yX10_pages ∈ WA := wa_of (k := 1388) (by decide +kernel) rfl
theorem se_X10_pages : Cond.selects RX10 yX10_pages yX10_pages ∈ WA := wa_of (k := 1389) (by decide +kernel) rfl
theorem cd_X10_paid : Cond.code yX10_paid cX10_paid 5 (some .int) ∈ WA := wa_of (k := 1310) (by decide +kernel) rfl
theorem im_X10_paid : Cond.instanceMethod yX10_paid ∈ WA := wa_of (k := 1309) (by decide +kernel) rfl
theorem se_X10_paid : Cond.selects RX10 yX10_paid yX10_paid ∈ WA := wa_of (k := 58) (by decide +kernel) rfl
theorem cd_X10_price : Cond.code yX10_price cX10_price 3 (some .int) ∈ WA := wa_of (k := 1394) (by decide +kernel) rfl
theorem im_X10_price : Cond.instanceMethod yX10_price ∈ WA := wa_of (k := 1392) (by decide +kernel) rfl
theorem se_X10_price : Cond.selects RX10 yX10_price yX10_price ∈ WA := wa_of (k := 1393) (by decide +kernel) rfl
theorem cd_X10_reads : Cond.code yX10_reads cX10_reads 2 (some .boolean) ∈ WA := wa_of (k := 1228) (by decide +kernel) rfl
theorem im_X10_reads : Cond.instanceMethod yX10_reads ∈ WA := wa_of (k := 1227) (by decide +kernel) rfl
theorem se_X10_reads : Cond.selects RX10 yX10_reads yX10_reads ∈ WA := wa_of (k := 38) (by decide +kernel) rfl
theorem cd_X10_rowLength : Cond.code yX10_rowLength cX10_rowLength 3 (some .int) ∈ WA := wa_of (k := 1301) (by decide +kernel) rfl
theorem im_X10_rowLength : Cond.instanceMethod yX10_rowLength ∈ WA := wa_of (k := 1300) (by decide +kernel) rfl
theorem se_X10_rowLength : Cond.selects RX10 yX10_rowLength yX10_rowLength ∈ WA := wa_of (k := 56) (by decide +kernel) rfl
theorem cd_X10_semi : Cond.code yX10_semi cX10_semi 1 (some .boolean) ∈ WA := wa_of (k := 1261) (by decide +kernel) rfl
theorem im_X10_semi : Cond.instanceMethod yX10_semi ∈ WA := wa_of (k := 1260) (by decide +kernel) rfl
theorem se_X10_semi : Cond.selects RX10 yX10_semi yX10_semi ∈ WA := wa_of (k := 46) (by decide +kernel) rfl
theorem cd_X10_setting : Cond.code yX10_setting cX10_setting 4 (some .boolean) ∈ WA := wa_of (k := 1265) (by decide +kernel) rfl
theorem im_X10_setting : Cond.instanceMethod yX10_setting ∈ WA := wa_of (k := 1264) (by decide +kernel) rfl
theorem se_X10_setting : Cond.selects RX10 yX10_setting yX10_setting ∈ WA := wa_of (k := 47) (by decide +kernel) rfl
theorem cd_X10_shortOf : Cond.code yX10_shortOf cX10_shortOf 12 (some .int) ∈ WA := wa_of (k := 1382) (by decide +kernel) rfl
theorem im_X10_shortOf : Cond.instanceMethod yX10_shortOf ∈ WA := wa_of (k := 1381) (by decide +kernel) rfl
theorem se_X10_shortOf : Cond.selects RX10 yX10_shortOf yX10_shortOf ∈ WA := wa_of (k := 69) (by decide +kernel) rfl
theorem cd_X10_shown : Cond.code yX10_shown cX10_shown 3 (some .int) ∈ WA := wa_of (k := 1406) (by decide +kernel) rfl
theorem im_X10_shown : Cond.instanceMethod yX10_shown ∈ WA := wa_of (k := 1404) (by decide +kernel) rfl
theorem se_X10_shown : Cond.selects RX10 yX10_shown yX10_shown ∈ WA := wa_of (k := 1405) (by decide +kernel) rfl
theorem cd_X10_sign : Cond.code yX10_sign cX10_sign 6 (some .int) ∈ WA := wa_of (k := 1398) (by decide +kernel) rfl
theorem im_X10_sign : Cond.instanceMethod yX10_sign ∈ WA := wa_of (k := 1396) (by decide +kernel) rfl
theorem se_X10_sign : Cond.selects RX10 yX10_sign yX10_sign ∈ WA := wa_of (k := 1397) (by decide +kernel) rfl
theorem cd_X10_signOf : Cond.code yX10_signOf cX10_signOf 8 (some .int) ∈ WA := wa_of (k := 1402) (by decide +kernel) rfl
theorem im_X10_signOf : Cond.instanceMethod yX10_signOf ∈ WA := wa_of (k := 1401) (by decide +kernel) rfl
theorem se_X10_signOf : Cond.selects RX10 yX10_signOf yX10_signOf ∈ WA := wa_of (k := 71) (by decide +kernel) rfl
theorem cd_X10_standing : Cond.code yX10_standing cX10_standing 3 (some .int) ∈ WA := wa_of (k := 1410) (by decide +kernel) rfl
theorem im_X10_standing : Cond.instanceMethod yX10_standing ∈ WA := wa_of (k := 1409) (by decide +kernel) rfl
theorem se_X10_standing : Cond.selects RX10 yX10_standing yX10_standing ∈ WA := wa_of (k := 72) (by decide +kernel) rfl
theorem cd_X10_stepAt : Cond.code yX10_stepAt cX10_stepAt 5 (some .int) ∈ WA := wa_of (k := 1386) (by decide +kernel) rfl
theorem im_X10_stepAt : Cond.instanceMethod yX10_stepAt ∈ WA := wa_of (k := 1385) (by decide +kernel) rfl
theorem se_X10_stepAt : Cond.selects RX10 yX10_stepAt yX10_stepAt ∈ WA := wa_of (k := 70) (by decide +kernel) rfl
theorem cd_X10_stepNow : Cond.code yX10_stepNow cX10_stepNow 2 (some .int) ∈ WA := wa_of (k := 1414) (by decide +kernel) rfl
theorem im_X10_stepNow : Cond.instanceMethod yX10_stepNow ∈ WA := wa_of (k := 1413) (by decide +kernel) rfl
theorem se_X10_stepNow : Cond.selects RX10 yX10_stepNow yX10_stepNow ∈ WA := wa_of (k := 73) (by decide +kernel) rfl
theorem cd_X10_steps : Cond.code yX10_steps cX10_steps 4 (some .int) ∈ WA := wa_of (k := 1366) (by decide +kernel) rfl
theorem im_X10_steps : Cond.instanceMethod yX10_steps ∈ WA := wa_of (k := 1365) (by decide +kernel) rfl
theorem se_X10_steps : Cond.selects RX10 yX10_steps yX10_steps ∈ WA := wa_of (k := 65) (by decide +kernel) rfl
theorem cd_X10_string : Cond.code yX10_string cX10_string 1 none ∈ WA := wa_of (k := 1249) (by decide +kernel) rfl
theorem im_X10_string : Cond.instanceMethod yX10_string ∈ WA := wa_of (k := 1248) (by decide +kernel) rfl
theorem se_X10_string : Cond.selects RX10 yX10_string yX10_string ∈ WA := wa_of (k := 43) (by decide +kernel) rfl
theorem cd_X10_take : Cond.code yX10_take cX10_take 2 none ∈ WA := wa_of (k := 1232) (by decide +kernel) rfl
theorem im_X10_take : Cond.instanceMethod yX10_take ∈ WA := wa_of (k := 1231) (by decide +kernel) rfl
theorem se_X10_take : Cond.selects RX10 yX10_take yX10_take ∈ WA := wa_of (k := 39) (by decide +kernel) rfl
theorem cd_X10_text : Cond.code yX10_text cX10_text 4 (some .int) ∈ WA := wa_of (k := 1224) (by decide +kernel) rfl
theorem im_X10_text : Cond.instanceMethod yX10_text ∈ WA := wa_of (k := 1222) (by decide +kernel) rfl
theorem se_X10_text : Cond.selects RX10 yX10_text yX10_text ∈ WA := wa_of (k := 1223) (by decide +kernel) rfl
theorem cd_X10_thrown : Cond.code yX10_thrown cX10_thrown 1 (some .int) ∈ WA := wa_of (k := 1216) (by decide +kernel) rfl
theorem im_X10_thrown : Cond.instanceMethod yX10_thrown ∈ WA := wa_of (k := 1214) (by decide +kernel) rfl
theorem se_X10_thrown : Cond.selects RX10 yX10_thrown yX10_thrown ∈ WA := wa_of (k := 1215) (by decide +kernel) rfl
theorem cd_X10_title : Cond.code yX10_title cX10_title 7 (some .boolean) ∈ WA := wa_of (k := 1277) (by decide +kernel) rfl
theorem im_X10_title : Cond.instanceMethod yX10_title ∈ WA := wa_of (k := 1276) (by decide +kernel) rfl
theorem se_X10_title : Cond.selects RX10 yX10_title yX10_title ∈ WA := wa_of (k := 50) (by decide +kernel) rfl
theorem cd_X10_title_ : Cond.code yX10_title_ cX10_title_ 3 (some .int) ∈ WA := wa_of (k := 1358) (by decide +kernel) rfl
theorem im_X10_title_ : Cond.instanceMethod yX10_title_ ∈ WA := wa_of (k := 1356) (by decide +kernel) rfl
theorem se_X10_title_ : Cond.selects RX10 yX10_title_ yX10_title_ ∈ WA := wa_of (k := 1357) (by decide +kernel) rfl
theorem cd_X10_wordAt : Cond.code yX10_wordAt cX10_wordAt 8 (some .int) ∈ WA := wa_of (k := 1240) (by decide +kernel) rfl
theorem im_X10_wordAt : Cond.instanceMethod yX10_wordAt ∈ WA := wa_of (k := 1239) (by decide +kernel) rfl
theorem se_X10_wordAt : Cond.selects RX10 yX10_wordAt yX10_wordAt ∈ WA := wa_of (k := 41) (by decide +kernel) rfl
theorem cd_X10_wrong : Cond.code yX10_wrong cX10_wrong 3 (some .boolean) ∈ WA := wa_of (k := 1253) (by decide +kernel) rfl
theorem im_X10_wrong : Cond.instanceMethod yX10_wrong ∈ WA := wa_of (k := 1252) (by decide +kernel) rfl
theorem se_X10_wrong : Cond.selects RX10 yX10_wrong yX10_wrong ∈ WA := wa_of (k := 44) (by decide +kernel) rfl
theorem cd_X1_fillRows : Cond.code yX1_fillRows cX1_fillRows 3 none ∈ WA := wa_of (k := 693) (by decide +kernel) rfl
theorem im_X1_fillRows : Cond.instanceMethod yX1_fillRows ∈ WA := wa_of (k := 692) (by decide +kernel) rfl
theorem se_X1_fillRows : Cond.selects RX1 yX1_fillRows yX1_fillRows ∈ WA := wa_of (k := 21) (by decide +kernel) rfl
theorem cd_X1_findWords : Cond.code yX1_findWords cX1_findWords 6 none ∈ WA := wa_of (k := 689) (by decide +kernel) rfl
theorem im_X1_findWords : Cond.instanceMethod yX1_findWords ∈ WA := wa_of (k := 688) (by decide +kernel) rfl
theorem se_X1_findWords : Cond.selects RX1 yX1_findWords yX1_findWords ∈ WA := wa_of (k := 20) (by decide +kernel) rfl
theorem cd_X1_forgetPrices : Cond.code yX1_forgetPrices cX1_forgetPrices 3 none ∈ WA := wa_of (k := 698) (by decide +kernel) rfl
theorem im_X1_forgetPrices : Cond.instanceMethod yX1_forgetPrices ∈ WA := wa_of (k := 697) (by decide +kernel) rfl
theorem se_X1_forgetPrices : Cond.selects RX1 yX1_forgetPrices yX1_forgetPrices ∈ WA := wa_of (k := 22) (by decide +kernel) rfl
theorem cd_X1_init : Cond.code yX1_init cX1_init 1 none ∈ WA := wa_of (k := 247) (by decide +kernel) rfl
theorem im_X1_init : Cond.instanceMethod yX1_init ∈ WA := wa_of (k := 246) (by decide +kernel) rfl
theorem cd_X1_layOut : Cond.code yX1_layOut cX1_layOut 4 none ∈ WA := wa_of (k := 685) (by decide +kernel) rfl
theorem im_X1_layOut : Cond.instanceMethod yX1_layOut ∈ WA := wa_of (k := 683) (by decide +kernel) rfl
theorem se_X1_layOut : Cond.selects RX1 yX1_layOut yX1_layOut ∈ WA := wa_of (k := 684) (by decide +kernel) rfl
theorem cd_X1_leastPrice : Cond.code yX1_leastPrice cX1_leastPrice 6 (some .int) ∈ WA := wa_of (k := 707) (by decide +kernel) rfl
theorem im_X1_leastPrice : Cond.instanceMethod yX1_leastPrice ∈ WA := wa_of (k := 706) (by decide +kernel) rfl
theorem se_X1_leastPrice : Cond.selects RX1 yX1_leastPrice yX1_leastPrice ∈ WA := wa_of (k := 24) (by decide +kernel) rfl
theorem cd_X1_longestStop : Cond.code yX1_longestStop cX1_longestStop 4 (some .int) ∈ WA := wa_of (k := 719) (by decide +kernel) rfl
theorem im_X1_longestStop : Cond.instanceMethod yX1_longestStop ∈ WA := wa_of (k := 718) (by decide +kernel) rfl
theorem se_X1_longestStop : Cond.selects RX1 yX1_longestStop yX1_longestStop ∈ WA := wa_of (k := 27) (by decide +kernel) rfl
theorem cd_X1_priceWays : Cond.code yX1_priceWays cX1_priceWays 3 none ∈ WA := wa_of (k := 703) (by decide +kernel) rfl
theorem im_X1_priceWays : Cond.instanceMethod yX1_priceWays ∈ WA := wa_of (k := 702) (by decide +kernel) rfl
theorem se_X1_priceWays : Cond.selects RX1 yX1_priceWays yX1_priceWays ∈ WA := wa_of (k := 23) (by decide +kernel) rfl
theorem cd_X1_priceWith : Cond.code yX1_priceWith cX1_priceWith 5 (some .int) ∈ WA := wa_of (k := 711) (by decide +kernel) rfl
theorem im_X1_priceWith : Cond.instanceMethod yX1_priceWith ∈ WA := wa_of (k := 710) (by decide +kernel) rfl
theorem se_X1_priceWith : Cond.selects RX1 yX1_priceWith yX1_priceWith ∈ WA := wa_of (k := 25) (by decide +kernel) rfl
theorem cd_X1_writeRows : Cond.code yX1_writeRows cX1_writeRows 4 none ∈ WA := wa_of (k := 715) (by decide +kernel) rfl
theorem im_X1_writeRows : Cond.instanceMethod yX1_writeRows ∈ WA := wa_of (k := 714) (by decide +kernel) rfl
theorem se_X1_writeRows : Cond.selects RX1 yX1_writeRows yX1_writeRows ∈ WA := wa_of (k := 26) (by decide +kernel) rfl
theorem cd_X2_behindCuts : Cond.code yX2_behindCuts cX2_behindCuts 5 (some .int) ∈ WA := wa_of (k := 756) (by decide +kernel) rfl
theorem im_X2_behindCuts : Cond.instanceMethod yX2_behindCuts ∈ WA := wa_of (k := 755) (by decide +kernel) rfl
theorem se_X2_behindCuts : Cond.selects RX2 yX2_behindCuts yX2_behindCuts ∈ WA := wa_of (k := 28) (by decide +kernel) rfl
theorem cd_X2_countedBars : Cond.code yX2_countedBars cX2_countedBars 8 (some .int) ∈ WA := wa_of (k := 857) (by decide +kernel) rfl
theorem im_X2_countedBars : Cond.instanceMethod yX2_countedBars ∈ WA := wa_of (k := 855) (by decide +kernel) rfl
theorem se_X2_countedBars : Cond.selects RX2 yX2_countedBars yX2_countedBars ∈ WA := wa_of (k := 856) (by decide +kernel) rfl
theorem cd_X2_goTo : Cond.code yX2_goTo cX2_goTo 2 none ∈ WA := wa_of (k := 805) (by decide +kernel) rfl
theorem im_X2_goTo : Cond.instanceMethod yX2_goTo ∈ WA := wa_of (k := 804) (by decide +kernel) rfl
theorem se_X2_goTo : Cond.selects RX2 yX2_goTo yX2_goTo ∈ WA := wa_of (k := 29) (by decide +kernel) rfl
theorem cd_X2_hear : Cond.code yX2_hear cX2_hear 2 none ∈ WA := wa_of (k := 801) (by decide +kernel) rfl
theorem im_X2_hear : Cond.instanceMethod yX2_hear ∈ WA := wa_of (k := 799) (by decide +kernel) rfl
theorem se_X2_hear : Cond.selects RX2 yX2_hear yX2_hear ∈ WA := wa_of (k := 800) (by decide +kernel) rfl
theorem cd_X2_init : Cond.code yX2_init cX2_init 2 none ∈ WA := wa_of (k := 334) (by decide +kernel) rfl
theorem im_X2_init : Cond.instanceMethod yX2_init ∈ WA := wa_of (k := 333) (by decide +kernel) rfl
theorem cd_X2_lead : Cond.code yX2_lead cX2_lead 3 none ∈ WA := wa_of (k := 813) (by decide +kernel) rfl
theorem im_X2_lead : Cond.instanceMethod yX2_lead ∈ WA := wa_of (k := 811) (by decide +kernel) rfl
theorem se_X2_lead : Cond.selects RX2 yX2_lead yX2_lead ∈ WA := wa_of (k := 812) (by decide +kernel) rfl
theorem cd_X2_nextCut : Cond.code yX2_nextCut cX2_nextCut 4 (some .int) ∈ WA := wa_of (k := 862) (by decide +kernel) rfl
theorem im_X2_nextCut : Cond.instanceMethod yX2_nextCut ∈ WA := wa_of (k := 861) (by decide +kernel) rfl
theorem se_X2_nextCut : Cond.selects RX2 yX2_nextCut yX2_nextCut ∈ WA := wa_of (k := 33) (by decide +kernel) rfl
theorem cd_X2_start : Cond.code yX2_start cX2_start 3 none ∈ WA := wa_of (k := 727) (by decide +kernel) rfl
theorem im_X2_start : Cond.instanceMethod yX2_start ∈ WA := wa_of (k := 725) (by decide +kernel) rfl
theorem se_X2_start : Cond.selects RX2 yX2_start yX2_start ∈ WA := wa_of (k := 726) (by decide +kernel) rfl
theorem cd_X2_switchCut : Cond.code yX2_switchCut cX2_switchCut 3 none ∈ WA := wa_of (k := 752) (by decide +kernel) rfl
theorem im_X2_switchCut : Cond.instanceMethod yX2_switchCut ∈ WA := wa_of (k := 750) (by decide +kernel) rfl
theorem se_X2_switchCut : Cond.selects RX2 yX2_switchCut yX2_switchCut ∈ WA := wa_of (k := 751) (by decide +kernel) rfl
theorem cd_X3_fail : Cond.code yX3_fail cX3_fail 3 (some .boolean) ∈ WA := wa_of (k := 503) (by decide +kernel) rfl
theorem im_X3_fail : Cond.instanceMethod yX3_fail ∈ WA := wa_of (k := 502) (by decide +kernel) rfl
theorem se_X3_fail : Cond.selects RX3 yX3_fail yX3_fail ∈ WA := wa_of (k := 5) (by decide +kernel) rfl
theorem cd_X3_init : Cond.code yX3_init cX3_init 3 none ∈ WA := wa_of (k := 183) (by decide +kernel) rfl
theorem im_X3_init : Cond.instanceMethod yX3_init ∈ WA := wa_of (k := 182) (by decide +kernel) rfl
theorem cd_X3_read : Cond.code yX3_read cX3_read 4 (some .boolean) ∈ WA := wa_of (k := 404) (by decide +kernel) rfl
theorem im_X3_read : Cond.instanceMethod yX3_read ∈ WA := wa_of (k := 402) (by decide +kernel) rfl
theorem se_X3_read : Cond.selects RX3 yX3_read yX3_read ∈ WA := wa_of (k := 403) (by decide +kernel) rfl
theorem cd_X3_readBeats : Cond.code yX3_readBeats cX3_readBeats 1 (some .boolean) ∈ WA := wa_of (k := 539) (by decide +kernel) rfl
theorem im_X3_readBeats : Cond.instanceMethod yX3_readBeats ∈ WA := wa_of (k := 538) (by decide +kernel) rfl
theorem se_X3_readBeats : Cond.selects RX3 yX3_readBeats yX3_readBeats ∈ WA := wa_of (k := 10) (by decide +kernel) rfl
theorem cd_X3_readCut : Cond.code yX3_readCut cX3_readCut 3 (some .boolean) ∈ WA := wa_of (k := 637) (by decide +kernel) rfl
theorem im_X3_readCut : Cond.instanceMethod yX3_readCut ∈ WA := wa_of (k := 636) (by decide +kernel) rfl
theorem se_X3_readCut : Cond.selects RX3 yX3_readCut yX3_readCut ∈ WA := wa_of (k := 17) (by decide +kernel) rfl
theorem cd_X3_readFurtherString : Cond.code yX3_readFurtherString cX3_readFurtherString 4 (some .boolean) ∈ WA := wa_of (k := 606) (by decide +kernel) rfl
theorem im_X3_readFurtherString : Cond.instanceMethod yX3_readFurtherString ∈ WA := wa_of (k := 605) (by decide +kernel) rfl
theorem se_X3_readFurtherString : Cond.selects RX3 yX3_readFurtherString yX3_readFurtherString ∈ WA := wa_of (k := 15) (by decide +kernel) rfl
theorem cd_X3_readItems : Cond.code yX3_readItems cX3_readItems 4 (some .boolean) ∈ WA := wa_of (k := 551) (by decide +kernel) rfl
theorem im_X3_readItems : Cond.instanceMethod yX3_readItems ∈ WA := wa_of (k := 550) (by decide +kernel) rfl
theorem se_X3_readItems : Cond.selects RX3 yX3_readItems yX3_readItems ∈ WA := wa_of (k := 11) (by decide +kernel) rfl
theorem cd_X3_readMark : Cond.code yX3_readMark cX3_readMark 1 (some .boolean) ∈ WA := wa_of (k := 556) (by decide +kernel) rfl
theorem im_X3_readMark : Cond.instanceMethod yX3_readMark ∈ WA := wa_of (k := 555) (by decide +kernel) rfl
theorem se_X3_readMark : Cond.selects RX3 yX3_readMark yX3_readMark ∈ WA := wa_of (k := 12) (by decide +kernel) rfl
theorem cd_X3_readNumber : Cond.code yX3_readNumber cX3_readNumber 3 (some .boolean) ∈ WA := wa_of (k := 508) (by decide +kernel) rfl
theorem im_X3_readNumber : Cond.instanceMethod yX3_readNumber ∈ WA := wa_of (k := 507) (by decide +kernel) rfl
theorem se_X3_readNumber : Cond.selects RX3 yX3_readNumber yX3_readNumber ∈ WA := wa_of (k := 6) (by decide +kernel) rfl
theorem cd_X3_readSemicolon : Cond.code yX3_readSemicolon cX3_readSemicolon 1 (some .boolean) ∈ WA := wa_of (k := 512) (by decide +kernel) rfl
theorem im_X3_readSemicolon : Cond.instanceMethod yX3_readSemicolon ∈ WA := wa_of (k := 511) (by decide +kernel) rfl
theorem se_X3_readSemicolon : Cond.selects RX3 yX3_readSemicolon yX3_readSemicolon ∈ WA := wa_of (k := 7) (by decide +kernel) rfl
theorem cd_X3_readSettings : Cond.code yX3_readSettings cX3_readSettings 4 (some .boolean) ∈ WA := wa_of (k := 516) (by decide +kernel) rfl
theorem im_X3_readSettings : Cond.instanceMethod yX3_readSettings ∈ WA := wa_of (k := 515) (by decide +kernel) rfl
theorem se_X3_readSettings : Cond.selects RX3 yX3_readSettings yX3_readSettings ∈ WA := wa_of (k := 8) (by decide +kernel) rfl
theorem cd_X3_readStrings : Cond.code yX3_readStrings cX3_readStrings 4 (some .boolean) ∈ WA := wa_of (k := 577) (by decide +kernel) rfl
theorem im_X3_readStrings : Cond.instanceMethod yX3_readStrings ∈ WA := wa_of (k := 576) (by decide +kernel) rfl
theorem se_X3_readStrings : Cond.selects RX3 yX3_readStrings yX3_readStrings ∈ WA := wa_of (k := 14) (by decide +kernel) rfl
theorem cd_X3_readTongueSetting : Cond.code yX3_readTongueSetting cX3_readTongueSetting 6 (some .boolean) ∈ WA := wa_of (k := 521) (by decide +kernel) rfl
theorem im_X3_readTongueSetting : Cond.instanceMethod yX3_readTongueSetting ∈ WA := wa_of (k := 520) (by decide +kernel) rfl
theorem se_X3_readTongueSetting : Cond.selects RX3 yX3_readTongueSetting yX3_readTongueSetting ∈ WA := wa_of (k := 9) (by decide +kernel) rfl
theorem cd_X3_readTongues : Cond.code yX3_readTongues cX3_readTongues 1 (some .boolean) ∈ WA := wa_of (k := 446) (by decide +kernel) rfl
theorem im_X3_readTongues : Cond.instanceMethod yX3_readTongues ∈ WA := wa_of (k := 445) (by decide +kernel) rfl
theorem se_X3_readTongues : Cond.selects RX3 yX3_readTongues yX3_readTongues ∈ WA := wa_of (k := 4) (by decide +kernel) rfl
theorem cd_X3_stringsFit : Cond.code yX3_stringsFit cX3_stringsFit 7 (some .boolean) ∈ WA := wa_of (k := 612) (by decide +kernel) rfl
theorem im_X3_stringsFit : Cond.instanceMethod yX3_stringsFit ∈ WA := wa_of (k := 611) (by decide +kernel) rfl
theorem se_X3_stringsFit : Cond.selects RX3 yX3_stringsFit yX3_stringsFit ∈ WA := wa_of (k := 16) (by decide +kernel) rfl
theorem cd_X4_init : Cond.code yX4_init cX4_init 2 none ∈ WA := wa_of (k := 189) (by decide +kernel) rfl
theorem im_X4_init : Cond.instanceMethod yX4_init ∈ WA := wa_of (k := 188) (by decide +kernel) rfl
theorem cd_X4_isWord : Cond.code yX4_isWord cX4_isWord 3 (some .boolean) ∈ WA := wa_of (k := 451) (by decide +kernel) rfl
theorem im_X4_isWord : Cond.instanceMethod yX4_isWord ∈ WA := wa_of (k := 449) (by decide +kernel) rfl
theorem se_X4_isWord : Cond.selects RX4 yX4_isWord yX4_isWord ∈ WA := wa_of (k := 450) (by decide +kernel) rfl
theorem cd_X4_open : Cond.code yX4_open cX4_open 3 none ∈ WA := wa_of (k := 415) (by decide +kernel) rfl
theorem im_X4_open : Cond.instanceMethod yX4_open ∈ WA := wa_of (k := 413) (by decide +kernel) rfl
theorem se_X4_open : Cond.selects RX4 yX4_open yX4_open ∈ WA := wa_of (k := 414) (by decide +kernel) rfl
theorem cd_X4_step : Cond.code yX4_step cX4_step 2 none ∈ WA := wa_of (k := 425) (by decide +kernel) rfl
theorem im_X4_step : Cond.instanceMethod yX4_step ∈ WA := wa_of (k := 423) (by decide +kernel) rfl
theorem se_X4_step : Cond.selects RX4 yX4_step yX4_step ∈ WA := wa_of (k := 424) (by decide +kernel) rfl
theorem cd_X4_stringFrom : Cond.code yX4_stringFrom cX4_stringFrom 1 (some .int) ∈ WA := wa_of (k := 581) (by decide +kernel) rfl
theorem im_X4_stringFrom : Cond.instanceMethod yX4_stringFrom ∈ WA := wa_of (k := 579) (by decide +kernel) rfl
theorem se_X4_stringFrom : Cond.selects RX4 yX4_stringFrom yX4_stringFrom ∈ WA := wa_of (k := 580) (by decide +kernel) rfl
theorem cd_X4_stringLength : Cond.code yX4_stringLength cX4_stringLength 1 (some .int) ∈ WA := wa_of (k := 585) (by decide +kernel) rfl
theorem im_X4_stringLength : Cond.instanceMethod yX4_stringLength ∈ WA := wa_of (k := 583) (by decide +kernel) rfl
theorem se_X4_stringLength : Cond.selects RX4 yX4_stringLength yX4_stringLength ∈ WA := wa_of (k := 584) (by decide +kernel) rfl
theorem cd_X4_takeNumber : Cond.code yX4_takeNumber cX4_takeNumber 1 none ∈ WA := wa_of (k := 433) (by decide +kernel) rfl
theorem im_X4_takeNumber : Cond.instanceMethod yX4_takeNumber ∈ WA := wa_of (k := 432) (by decide +kernel) rfl
theorem se_X4_takeNumber : Cond.selects RX4 yX4_takeNumber yX4_takeNumber ∈ WA := wa_of (k := 1) (by decide +kernel) rfl
theorem cd_X4_takeSingle : Cond.code yX4_takeSingle cX4_takeSingle 2 none ∈ WA := wa_of (k := 442) (by decide +kernel) rfl
theorem im_X4_takeSingle : Cond.instanceMethod yX4_takeSingle ∈ WA := wa_of (k := 441) (by decide +kernel) rfl
theorem se_X4_takeSingle : Cond.selects RX4 yX4_takeSingle yX4_takeSingle ∈ WA := wa_of (k := 3) (by decide +kernel) rfl
theorem cd_X4_takeString : Cond.code yX4_takeString cX4_takeString 2 none ∈ WA := wa_of (k := 438) (by decide +kernel) rfl
theorem im_X4_takeString : Cond.instanceMethod yX4_takeString ∈ WA := wa_of (k := 437) (by decide +kernel) rfl
theorem se_X4_takeString : Cond.selects RX4 yX4_takeString yX4_takeString ∈ WA := wa_of (k := 2) (by decide +kernel) rfl
theorem cd_X4_takeWord : Cond.code yX4_takeWord cX4_takeWord 1 none ∈ WA := wa_of (k := 429) (by decide +kernel) rfl
theorem im_X4_takeWord : Cond.instanceMethod yX4_takeWord ∈ WA := wa_of (k := 428) (by decide +kernel) rfl
theorem se_X4_takeWord : Cond.selects RX4 yX4_takeWord yX4_takeWord ∈ WA := wa_of (k := 0) (by decide +kernel) rfl
theorem cd_X5_addCut : Cond.code yX5_addCut cX5_addCut 4 none ∈ WA := wa_of (k := 649) (by decide +kernel) rfl
theorem im_X5_addCut : Cond.instanceMethod yX5_addCut ∈ WA := wa_of (k := 647) (by decide +kernel) rfl
theorem se_X5_addCut : Cond.selects RX5 yX5_addCut yX5_addCut ∈ WA := wa_of (k := 648) (by decide +kernel) rfl
theorem cd_X5_addMark : Cond.code yX5_addMark cX5_addMark 2 none ∈ WA := wa_of (k := 572) (by decide +kernel) rfl
theorem im_X5_addMark : Cond.instanceMethod yX5_addMark ∈ WA := wa_of (k := 570) (by decide +kernel) rfl
theorem se_X5_addMark : Cond.selects RX5 yX5_addMark yX5_addMark ∈ WA := wa_of (k := 571) (by decide +kernel) rfl
theorem cd_X5_addTitle : Cond.code yX5_addTitle cX5_addTitle 4 none ∈ WA := wa_of (k := 595) (by decide +kernel) rfl
theorem im_X5_addTitle : Cond.instanceMethod yX5_addTitle ∈ WA := wa_of (k := 593) (by decide +kernel) rfl
theorem se_X5_addTitle : Cond.selects RX5 yX5_addTitle yX5_addTitle ∈ WA := wa_of (k := 594) (by decide +kernel) rfl
theorem cd_X5_barOf : Cond.code yX5_barOf cX5_barOf 2 (some .int) ∈ WA := wa_of (k := 843) (by decide +kernel) rfl
theorem im_X5_barOf : Cond.instanceMethod yX5_barOf ∈ WA := wa_of (k := 841) (by decide +kernel) rfl
theorem se_X5_barOf : Cond.selects RX5 yX5_barOf yX5_barOf ∈ WA := wa_of (k := 842) (by decide +kernel) rfl
theorem cd_X5_barOfMark : Cond.code yX5_barOfMark cX5_barOfMark 3 (some .int) ∈ WA := wa_of (k := 568) (by decide +kernel) rfl
theorem im_X5_barOfMark : Cond.instanceMethod yX5_barOfMark ∈ WA := wa_of (k := 567) (by decide +kernel) rfl
theorem se_X5_barOfMark : Cond.selects RX5 yX5_barOfMark yX5_barOfMark ∈ WA := wa_of (k := 13) (by decide +kernel) rfl
theorem cd_X5_beatsOfBar : Cond.code yX5_beatsOfBar cX5_beatsOfBar 1 (some .int) ∈ WA := wa_of (k := 907) (by decide +kernel) rfl
theorem im_X5_beatsOfBar : Cond.instanceMethod yX5_beatsOfBar ∈ WA := wa_of (k := 905) (by decide +kernel) rfl
theorem se_X5_beatsOfBar : Cond.selects RX5 yX5_beatsOfBar yX5_beatsOfBar ∈ WA := wa_of (k := 906) (by decide +kernel) rfl
theorem cd_X5_clear : Cond.code yX5_clear cX5_clear 1 none ∈ WA := wa_of (k := 408) (by decide +kernel) rfl
theorem im_X5_clear : Cond.instanceMethod yX5_clear ∈ WA := wa_of (k := 406) (by decide +kernel) rfl
theorem se_X5_clear : Cond.selects RX5 yX5_clear yX5_clear ∈ WA := wa_of (k := 407) (by decide +kernel) rfl
theorem cd_X5_cutBehind : Cond.code yX5_cutBehind cX5_cutBehind 2 (some .int) ∈ WA := wa_of (k := 765) (by decide +kernel) rfl
theorem im_X5_cutBehind : Cond.instanceMethod yX5_cutBehind ∈ WA := wa_of (k := 763) (by decide +kernel) rfl
theorem se_X5_cutBehind : Cond.selects RX5 yX5_cutBehind yX5_cutBehind ∈ WA := wa_of (k := 764) (by decide +kernel) rfl
theorem cd_X5_cutFirst : Cond.code yX5_cutFirst cX5_cutFirst 2 (some .int) ∈ WA := wa_of (k := 866) (by decide +kernel) rfl
theorem im_X5_cutFirst : Cond.instanceMethod yX5_cutFirst ∈ WA := wa_of (k := 864) (by decide +kernel) rfl
theorem se_X5_cutFirst : Cond.selects RX5 yX5_cutFirst yX5_cutFirst ∈ WA := wa_of (k := 865) (by decide +kernel) rfl
theorem cd_X5_cutTakes : Cond.code yX5_cutTakes cX5_cutTakes 3 (some .boolean) ∈ WA := wa_of (k := 760) (by decide +kernel) rfl
theorem im_X5_cutTakes : Cond.instanceMethod yX5_cutTakes ∈ WA := wa_of (k := 758) (by decide +kernel) rfl
theorem se_X5_cutTakes : Cond.selects RX5 yX5_cutTakes yX5_cutTakes ∈ WA := wa_of (k := 759) (by decide +kernel) rfl
theorem cd_X5_endOf : Cond.code yX5_endOf cX5_endOf 2 (some .int) ∈ WA := wa_of (k := 848) (by decide +kernel) rfl
theorem im_X5_endOf : Cond.instanceMethod yX5_endOf ∈ WA := wa_of (k := 846) (by decide +kernel) rfl
theorem se_X5_endOf : Cond.selects RX5 yX5_endOf yX5_endOf ∈ WA := wa_of (k := 847) (by decide +kernel) rfl
theorem cd_X5_hasCut : Cond.code yX5_hasCut cX5_hasCut 2 (some .boolean) ∈ WA := wa_of (k := 645) (by decide +kernel) rfl
theorem im_X5_hasCut : Cond.instanceMethod yX5_hasCut ∈ WA := wa_of (k := 643) (by decide +kernel) rfl
theorem se_X5_hasCut : Cond.selects RX5 yX5_hasCut yX5_hasCut ∈ WA := wa_of (k := 644) (by decide +kernel) rfl
theorem cd_X5_hasTitle : Cond.code yX5_hasTitle cX5_hasTitle 2 (some .boolean) ∈ WA := wa_of (k := 669) (by decide +kernel) rfl
theorem im_X5_hasTitle : Cond.instanceMethod yX5_hasTitle ∈ WA := wa_of (k := 667) (by decide +kernel) rfl
theorem se_X5_hasTitle : Cond.selects RX5 yX5_hasTitle yX5_hasTitle ∈ WA := wa_of (k := 668) (by decide +kernel) rfl
theorem cd_X5_hasTongue : Cond.code yX5_hasTongue cX5_hasTongue 2 (some .boolean) ∈ WA := wa_of (k := 529) (by decide +kernel) rfl
theorem im_X5_hasTongue : Cond.instanceMethod yX5_hasTongue ∈ WA := wa_of (k := 527) (by decide +kernel) rfl
theorem se_X5_hasTongue : Cond.selects RX5 yX5_hasTongue yX5_hasTongue ∈ WA := wa_of (k := 528) (by decide +kernel) rfl
theorem cd_X5_init : Cond.code yX5_init cX5_init 1 none ∈ WA := wa_of (k := 127) (by decide +kernel) rfl
theorem im_X5_init : Cond.instanceMethod yX5_init ∈ WA := wa_of (k := 126) (by decide +kernel) rfl
theorem cd_X5_isFullOfCuts : Cond.code yX5_isFullOfCuts cX5_isFullOfCuts 1 (some .boolean) ∈ WA := wa_of (k := 641) (by decide +kernel) rfl
theorem im_X5_isFullOfCuts : Cond.instanceMethod yX5_isFullOfCuts ∈ WA := wa_of (k := 639) (by decide +kernel) rfl
theorem se_X5_isFullOfCuts : Cond.selects RX5 yX5_isFullOfCuts yX5_isFullOfCuts ∈ WA := wa_of (k := 640) (by decide +kernel) rfl
theorem cd_X5_isFullOfMarks : Cond.code yX5_isFullOfMarks cX5_isFullOfMarks 1 (some .boolean) ∈ WA := wa_of (k := 560) (by decide +kernel) rfl
theorem im_X5_isFullOfMarks : Cond.instanceMethod yX5_isFullOfMarks ∈ WA := wa_of (k := 558) (by decide +kernel) rfl
theorem se_X5_isFullOfMarks : Cond.selects RX5 yX5_isFullOfMarks yX5_isFullOfMarks ∈ WA := wa_of (k := 559) (by decide +kernel) rfl
theorem cd_X5_latestBar : Cond.code yX5_latestBar cX5_latestBar 1 (some .int) ∈ WA := wa_of (k := 564) (by decide +kernel) rfl
theorem im_X5_latestBar : Cond.instanceMethod yX5_latestBar ∈ WA := wa_of (k := 562) (by decide +kernel) rfl
theorem se_X5_latestBar : Cond.selects RX5 yX5_latestBar yX5_latestBar ∈ WA := wa_of (k := 563) (by decide +kernel) rfl
theorem cd_X5_setString : Cond.code yX5_setString cX5_setString 5 none ∈ WA := wa_of (k := 599) (by decide +kernel) rfl
theorem im_X5_setString : Cond.instanceMethod yX5_setString ∈ WA := wa_of (k := 597) (by decide +kernel) rfl
theorem se_X5_setString : Cond.selects RX5 yX5_setString yX5_setString ∈ WA := wa_of (k := 598) (by decide +kernel) rfl
theorem cd_X5_slotOf : Cond.code yX5_slotOf cX5_slotOf 2 (some .int) ∈ WA := wa_of (k := 602) (by decide +kernel) rfl
theorem sm_X5_slotOf : Cond.static yX5_slotOf ∈ WA := wa_of (k := 601) (by decide +kernel) rfl
theorem cd_X5_speedOf : Cond.code yX5_speedOf cX5_speedOf 2 (some .int) ∈ WA := wa_of (k := 903) (by decide +kernel) rfl
theorem im_X5_speedOf : Cond.instanceMethod yX5_speedOf ∈ WA := wa_of (k := 901) (by decide +kernel) rfl
theorem se_X5_speedOf : Cond.selects RX5 yX5_speedOf yX5_speedOf ∈ WA := wa_of (k := 902) (by decide +kernel) rfl
theorem cd_X5_stringFrom : Cond.code yX5_stringFrom cX5_stringFrom 4 (some .int) ∈ WA := wa_of (k := 616) (by decide +kernel) rfl
theorem im_X5_stringFrom : Cond.instanceMethod yX5_stringFrom ∈ WA := wa_of (k := 614) (by decide +kernel) rfl
theorem se_X5_stringFrom : Cond.selects RX5 yX5_stringFrom yX5_stringFrom ∈ WA := wa_of (k := 615) (by decide +kernel) rfl
theorem cd_X5_stringLength : Cond.code yX5_stringLength cX5_stringLength 4 (some .int) ∈ WA := wa_of (k := 620) (by decide +kernel) rfl
theorem im_X5_stringLength : Cond.instanceMethod yX5_stringLength ∈ WA := wa_of (k := 618) (by decide +kernel) rfl
theorem se_X5_stringLength : Cond.selects RX5 yX5_stringLength yX5_stringLength ∈ WA := wa_of (k := 619) (by decide +kernel) rfl
theorem cd_X5_tell : Cond.code yX5_tell cX5_tell 4 none ∈ WA := wa_of (k := 533) (by decide +kernel) rfl
theorem im_X5_tell : Cond.instanceMethod yX5_tell ∈ WA := wa_of (k := 531) (by decide +kernel) rfl
theorem se_X5_tell : Cond.selects RX5 yX5_tell yX5_tell ∈ WA := wa_of (k := 532) (by decide +kernel) rfl
theorem cd_X5_tellBeats : Cond.code yX5_tellBeats cX5_tellBeats 2 none ∈ WA := wa_of (k := 547) (by decide +kernel) rfl
theorem im_X5_tellBeats : Cond.instanceMethod yX5_tellBeats ∈ WA := wa_of (k := 545) (by decide +kernel) rfl
theorem se_X5_tellBeats : Cond.selects RX5 yX5_tellBeats yX5_tellBeats ∈ WA := wa_of (k := 546) (by decide +kernel) rfl
theorem cd_X5_tells : Cond.code yX5_tells cX5_tells 3 (some .boolean) ∈ WA := wa_of (k := 525) (by decide +kernel) rfl
theorem im_X5_tells : Cond.instanceMethod yX5_tells ∈ WA := wa_of (k := 523) (by decide +kernel) rfl
theorem se_X5_tells : Cond.selects RX5 yX5_tells yX5_tells ∈ WA := wa_of (k := 524) (by decide +kernel) rfl
theorem cd_X5_tellsBeats : Cond.code yX5_tellsBeats cX5_tellsBeats 1 (some .boolean) ∈ WA := wa_of (k := 543) (by decide +kernel) rfl
theorem im_X5_tellsBeats : Cond.instanceMethod yX5_tellsBeats ∈ WA := wa_of (k := 541) (by decide +kernel) rfl
theorem se_X5_tellsBeats : Cond.selects RX5 yX5_tellsBeats yX5_tellsBeats ∈ WA := wa_of (k := 542) (by decide +kernel) rfl
theorem cd_X5_titleAt : Cond.code yX5_titleAt cX5_titleAt 3 (some .int) ∈ WA := wa_of (k := 839) (by decide +kernel) rfl
theorem im_X5_titleAt : Cond.instanceMethod yX5_titleAt ∈ WA := wa_of (k := 837) (by decide +kernel) rfl
theorem se_X5_titleAt : Cond.selects RX5 yX5_titleAt yX5_titleAt ∈ WA := wa_of (k := 838) (by decide +kernel) rfl
theorem cd_X5_widthOf : Cond.code yX5_widthOf cX5_widthOf 2 (some .int) ∈ WA := wa_of (k := 624) (by decide +kernel) rfl
theorem im_X5_widthOf : Cond.instanceMethod yX5_widthOf ∈ WA := wa_of (k := 622) (by decide +kernel) rfl
theorem se_X5_widthOf : Cond.selects RX5 yX5_widthOf yX5_widthOf ∈ WA := wa_of (k := 623) (by decide +kernel) rfl
theorem cd_X6_append : Cond.code yX6_append cX6_append 3 none ∈ WA := wa_of (k := 392) (by decide +kernel) rfl
theorem im_X6_append : Cond.instanceMethod yX6_append ∈ WA := wa_of (k := 390) (by decide +kernel) rfl
theorem se_X6_append : Cond.selects RX6 yX6_append yX6_append ∈ WA := wa_of (k := 391) (by decide +kernel) rfl
theorem cd_X6_clear : Cond.code yX6_clear cX6_clear 1 none ∈ WA := wa_of (k := 731) (by decide +kernel) rfl
theorem im_X6_clear : Cond.instanceMethod yX6_clear ∈ WA := wa_of (k := 729) (by decide +kernel) rfl
theorem se_X6_clear : Cond.selects RX6 yX6_clear yX6_clear ∈ WA := wa_of (k := 730) (by decide +kernel) rfl
theorem cd_X6_hasRoom : Cond.code yX6_hasRoom cX6_hasRoom 1 (some .boolean) ∈ WA := wa_of (k := 388) (by decide +kernel) rfl
theorem im_X6_hasRoom : Cond.instanceMethod yX6_hasRoom ∈ WA := wa_of (k := 386) (by decide +kernel) rfl
theorem se_X6_hasRoom : Cond.selects RX6 yX6_hasRoom yX6_hasRoom ∈ WA := wa_of (k := 387) (by decide +kernel) rfl
theorem cd_X6_holds : Cond.code yX6_holds cX6_holds 2 (some .boolean) ∈ WA := wa_of (k := 400) (by decide +kernel) rfl
theorem im_X6_holds : Cond.instanceMethod yX6_holds ∈ WA := wa_of (k := 398) (by decide +kernel) rfl
theorem se_X6_holds : Cond.selects RX6 yX6_holds yX6_holds ∈ WA := wa_of (k := 399) (by decide +kernel) rfl
theorem cd_X6_init : Cond.code yX6_init cX6_init 1 none ∈ WA := wa_of (k := 111) (by decide +kernel) rfl
theorem im_X6_init : Cond.instanceMethod yX6_init ∈ WA := wa_of (k := 110) (by decide +kernel) rfl
theorem cd_X7_init : Cond.code yX7_init cX7_init 2 none ∈ WA := wa_of (k := 282) (by decide +kernel) rfl
theorem im_X7_init : Cond.instanceMethod yX7_init ∈ WA := wa_of (k := 281) (by decide +kernel) rfl
theorem cd_X7_rowBegin : Cond.code yX7_rowBegin cX7_rowBegin 2 (some .int) ∈ WA := wa_of (k := 830) (by decide +kernel) rfl
theorem im_X7_rowBegin : Cond.instanceMethod yX7_rowBegin ∈ WA := wa_of (k := 829) (by decide +kernel) rfl
theorem se_X7_rowBegin : Cond.selects RX7 yX7_rowBegin yX7_rowBegin ∈ WA := wa_of (k := 31) (by decide +kernel) rfl
theorem cd_X7_rowLength : Cond.code yX7_rowLength cX7_rowLength 2 (some .int) ∈ WA := wa_of (k := 826) (by decide +kernel) rfl
theorem im_X7_rowLength : Cond.instanceMethod yX7_rowLength ∈ WA := wa_of (k := 825) (by decide +kernel) rfl
theorem se_X7_rowLength : Cond.selects RX7 yX7_rowLength yX7_rowLength ∈ WA := wa_of (k := 30) (by decide +kernel) rfl
theorem cd_X7_setRowEnd : Cond.code yX7_setRowEnd cX7_setRowEnd 3 none ∈ WA := wa_of (k := 723) (by decide +kernel) rfl
theorem im_X7_setRowEnd : Cond.instanceMethod yX7_setRowEnd ∈ WA := wa_of (k := 721) (by decide +kernel) rfl
theorem se_X7_setRowEnd : Cond.selects RX7 yX7_setRowEnd yX7_setRowEnd ∈ WA := wa_of (k := 722) (by decide +kernel) rfl
theorem cd_X7_setString : Cond.code yX7_setString cX7_setString 5 none ∈ WA := wa_of (k := 680) (by decide +kernel) rfl
theorem im_X7_setString : Cond.instanceMethod yX7_setString ∈ WA := wa_of (k := 678) (by decide +kernel) rfl
theorem se_X7_setString : Cond.selects RX7 yX7_setString yX7_setString ∈ WA := wa_of (k := 679) (by decide +kernel) rfl
theorem cd_X7_signAt : Cond.code yX7_signAt cX7_signAt 6 (some .int) ∈ WA := wa_of (k := 822) (by decide +kernel) rfl
theorem im_X7_signAt : Cond.instanceMethod yX7_signAt ∈ WA := wa_of (k := 820) (by decide +kernel) rfl
theorem se_X7_signAt : Cond.selects RX7 yX7_signAt yX7_signAt ∈ WA := wa_of (k := 821) (by decide +kernel) rfl
theorem cd_X7_signsOf : Cond.code yX7_signsOf cX7_signsOf 2 (some .int) ∈ WA := wa_of (k := 993) (by decide +kernel) rfl
theorem im_X7_signsOf : Cond.instanceMethod yX7_signsOf ∈ WA := wa_of (k := 991) (by decide +kernel) rfl
theorem se_X7_signsOf : Cond.selects RX7 yX7_signsOf yX7_signsOf ∈ WA := wa_of (k := 992) (by decide +kernel) rfl
theorem cd_X8_areProper : Cond.code yX8_areProper cX8_areProper 6 (some .boolean) ∈ WA := wa_of (k := 588) (by decide +kernel) rfl
theorem sm_X8_areProper : Cond.static yX8_areProper ∈ WA := wa_of (k := 587) (by decide +kernel) rfl
theorem cd_X8_areWithin : Cond.code yX8_areWithin cX8_areWithin 3 (some .boolean) ∈ WA := wa_of (k := 591) (by decide +kernel) rfl
theorem sm_X8_areWithin : Cond.static yX8_areWithin ∈ WA := wa_of (k := 590) (by decide +kernel) rfl
theorem cd_X8_fit : Cond.code yX8_fit cX8_fit 5 (some .boolean) ∈ WA := wa_of (k := 628) (by decide +kernel) rfl
theorem sm_X8_fit : Cond.static yX8_fit ∈ WA := wa_of (k := 627) (by decide +kernel) rfl
theorem cd_X8_leastRows : Cond.code yX8_leastRows cX8_leastRows 8 (some .int) ∈ WA := wa_of (k := 631) (by decide +kernel) rfl
theorem sm_X8_leastRows : Cond.static yX8_leastRows ∈ WA := wa_of (k := 630) (by decide +kernel) rfl
theorem cd_X9_begin : Cond.code yX9_begin cX9_begin 1 none ∈ WA := wa_of (k := 739) (by decide +kernel) rfl
theorem im_X9_begin : Cond.instanceMethod yX9_begin ∈ WA := wa_of (k := 737) (by decide +kernel) rfl
theorem se_X9_begin : Cond.selects RX9 yX9_begin yX9_begin ∈ WA := wa_of (k := 738) (by decide +kernel) rfl
theorem cd_X9_change : Cond.code yX9_change cX9_change 4 (some .boolean) ∈ WA := wa_of (k := 769) (by decide +kernel) rfl
theorem im_X9_change : Cond.instanceMethod yX9_change ∈ WA := wa_of (k := 767) (by decide +kernel) rfl
theorem se_X9_change : Cond.selects RX9 yX9_change yX9_change ∈ WA := wa_of (k := 768) (by decide +kernel) rfl
theorem cd_X9_count : Cond.code yX9_count cX9_count 2 (some .int) ∈ WA := wa_of (k := 899) (by decide +kernel) rfl
theorem im_X9_count : Cond.instanceMethod yX9_count ∈ WA := wa_of (k := 897) (by decide +kernel) rfl
theorem se_X9_count : Cond.selects RX9 yX9_count yX9_count ∈ WA := wa_of (k := 898) (by decide +kernel) rfl
theorem cd_X9_countedBarsOf : Cond.code yX9_countedBarsOf cX9_countedBarsOf 2 (some .int) ∈ WA := wa_of (k := 870) (by decide +kernel) rfl
theorem im_X9_countedBarsOf : Cond.instanceMethod yX9_countedBarsOf ∈ WA := wa_of (k := 869) (by decide +kernel) rfl
theorem se_X9_countedBarsOf : Cond.selects RX9 yX9_countedBarsOf yX9_countedBarsOf ∈ WA := wa_of (k := 34) (by decide +kernel) rfl
theorem cd_X9_cut : Cond.code yX9_cut cX9_cut 3 (some .boolean) ∈ WA := wa_of (k := 747) (by decide +kernel) rfl
theorem im_X9_cut : Cond.instanceMethod yX9_cut ∈ WA := wa_of (k := 745) (by decide +kernel) rfl
theorem se_X9_cut : Cond.selects RX9 yX9_cut yX9_cut ∈ WA := wa_of (k := 746) (by decide +kernel) rfl
theorem cd_X9_fault : Cond.code yX9_fault cX9_fault 2 (some .int) ∈ WA := wa_of (k := 735) (by decide +kernel) rfl
theorem im_X9_fault : Cond.instanceMethod yX9_fault ∈ WA := wa_of (k := 733) (by decide +kernel) rfl
theorem se_X9_fault : Cond.selects RX9 yX9_fault yX9_fault ∈ WA := wa_of (k := 734) (by decide +kernel) rfl
theorem cd_X9_feed : Cond.code yX9_feed cX9_feed 6 (some .int) ∈ WA := wa_of (k := 384) (by decide +kernel) rfl
theorem im_X9_feed : Cond.instanceMethod yX9_feed ∈ WA := wa_of (k := 382) (by decide +kernel) rfl
theorem se_X9_feed : Cond.selects RX9 yX9_feed yX9_feed ∈ WA := wa_of (k := 383) (by decide +kernel) rfl
theorem cd_X9_hand : Cond.code yX9_hand cX9_hand 3 (some .int) ∈ WA := wa_of (k := 809) (by decide +kernel) rfl
theorem im_X9_hand : Cond.instanceMethod yX9_hand ∈ WA := wa_of (k := 807) (by decide +kernel) rfl
theorem se_X9_hand : Cond.selects RX9 yX9_hand yX9_hand ∈ WA := wa_of (k := 808) (by decide +kernel) rfl
theorem cd_X9_heard : Cond.code yX9_heard cX9_heard 2 (some .int) ∈ WA := wa_of (k := 797) (by decide +kernel) rfl
theorem im_X9_heard : Cond.instanceMethod yX9_heard ∈ WA := wa_of (k := 795) (by decide +kernel) rfl
theorem se_X9_heard : Cond.selects RX9 yX9_heard yX9_heard ∈ WA := wa_of (k := 796) (by decide +kernel) rfl
theorem cd_X9_init : Cond.code yX9_init cX9_init 1 none ∈ WA := wa_of (k := 103) (by decide +kernel) rfl
theorem im_X9_init : Cond.instanceMethod yX9_init ∈ WA := wa_of (k := 102) (by decide +kernel) rfl
theorem cd_X9_now : Cond.code yX9_now cX9_now 6 (some .int) ∈ WA := wa_of (k := 895) (by decide +kernel) rfl
theorem im_X9_now : Cond.instanceMethod yX9_now ∈ WA := wa_of (k := 893) (by decide +kernel) rfl
theorem se_X9_now : Cond.selects RX9 yX9_now yX9_now ∈ WA := wa_of (k := 894) (by decide +kernel) rfl
theorem cd_X9_pages : Cond.code yX9_pages cX9_pages 3 (some .int) ∈ WA := wa_of (k := 1024) (by decide +kernel) rfl
theorem im_X9_pages : Cond.instanceMethod yX9_pages ∈ WA := wa_of (k := 1022) (by decide +kernel) rfl
theorem se_X9_pages : Cond.selects RX9 yX9_pages yX9_pages ∈ WA := wa_of (k := 1023) (by decide +kernel) rfl
theorem cd_X9_price : Cond.code yX9_price cX9_price 3 (some .int) ∈ WA := wa_of (k := 1036) (by decide +kernel) rfl
theorem im_X9_price : Cond.instanceMethod yX9_price ∈ WA := wa_of (k := 1034) (by decide +kernel) rfl
theorem se_X9_price : Cond.selects RX9 yX9_price yX9_price ∈ WA := wa_of (k := 1035) (by decide +kernel) rfl
theorem cd_X9_refuseUnknown : Cond.code yX9_refuseUnknown cX9_refuseUnknown 3 none ∈ WA := wa_of (k := 1028) (by decide +kernel) rfl
theorem im_X9_refuseUnknown : Cond.instanceMethod yX9_refuseUnknown ∈ WA := wa_of (k := 1027) (by decide +kernel) rfl
theorem se_X9_refuseUnknown : Cond.selects RX9 yX9_refuseUnknown yX9_refuseUnknown ∈ WA := wa_of (k := 37) (by decide +kernel) rfl
theorem cd_X9_share : Cond.code yX9_share cX9_share 3 (some .int) ∈ WA := wa_of (k := 883) (by decide +kernel) rfl
theorem sm_X9_share : Cond.static yX9_share ∈ WA := wa_of (k := 882) (by decide +kernel) rfl
theorem cd_X9_shown : Cond.code yX9_shown cX9_shown 3 (some .int) ∈ WA := wa_of (k := 835) (by decide +kernel) rfl
theorem im_X9_shown : Cond.instanceMethod yX9_shown ∈ WA := wa_of (k := 833) (by decide +kernel) rfl
theorem se_X9_shown : Cond.selects RX9 yX9_shown yX9_shown ∈ WA := wa_of (k := 834) (by decide +kernel) rfl
theorem cd_X9_shownPage : Cond.code yX9_shownPage cX9_shownPage 4 (some .int) ∈ WA := wa_of (k := 887) (by decide +kernel) rfl
theorem im_X9_shownPage : Cond.instanceMethod yX9_shownPage ∈ WA := wa_of (k := 886) (by decide +kernel) rfl
theorem se_X9_shownPage : Cond.selects RX9 yX9_shownPage yX9_shownPage ∈ WA := wa_of (k := 35) (by decide +kernel) rfl
theorem cd_X9_shownStep : Cond.code yX9_shownStep cX9_shownStep 3 (some .int) ∈ WA := wa_of (k := 852) (by decide +kernel) rfl
theorem im_X9_shownStep : Cond.instanceMethod yX9_shownStep ∈ WA := wa_of (k := 851) (by decide +kernel) rfl
theorem se_X9_shownStep : Cond.selects RX9 yX9_shownStep yX9_shownStep ∈ WA := wa_of (k := 32) (by decide +kernel) rfl
theorem cd_X9_sign : Cond.code yX9_sign cX9_sign 6 (some .int) ∈ WA := wa_of (k := 817) (by decide +kernel) rfl
theorem im_X9_sign : Cond.instanceMethod yX9_sign ∈ WA := wa_of (k := 815) (by decide +kernel) rfl
theorem se_X9_sign : Cond.selects RX9 yX9_sign yX9_sign ∈ WA := wa_of (k := 816) (by decide +kernel) rfl
theorem cd_X9_takeDraft : Cond.code yX9_takeDraft cX9_takeDraft 3 none ∈ WA := wa_of (k := 653) (by decide +kernel) rfl
theorem im_X9_takeDraft : Cond.instanceMethod yX9_takeDraft ∈ WA := wa_of (k := 652) (by decide +kernel) rfl
theorem se_X9_takeDraft : Cond.selects RX9 yX9_takeDraft yX9_takeDraft ∈ WA := wa_of (k := 18) (by decide +kernel) rfl
theorem cd_X9_text : Cond.code yX9_text cX9_text 3 (some .int) ∈ WA := wa_of (k := 396) (by decide +kernel) rfl
theorem im_X9_text : Cond.instanceMethod yX9_text ∈ WA := wa_of (k := 394) (by decide +kernel) rfl
theorem se_X9_text : Cond.selects RX9 yX9_text yX9_text ∈ WA := wa_of (k := 395) (by decide +kernel) rfl
theorem cd_X9_title : Cond.code yX9_title cX9_title 3 (some .int) ∈ WA := wa_of (k := 917) (by decide +kernel) rfl
theorem im_X9_title : Cond.instanceMethod yX9_title ∈ WA := wa_of (k := 915) (by decide +kernel) rfl
theorem se_X9_title : Cond.selects RX9 yX9_title yX9_title ∈ WA := wa_of (k := 916) (by decide +kernel) rfl
theorem in_RJ0 : Cond.initialized RJ0 ∈ WA := wa_of (k := 88) (by decide +kernel) rfl
theorem in_RJ1 : Cond.initialized RJ1 ∈ WA := wa_of (k := 89) (by decide +kernel) rfl
theorem in_RJ10 : Cond.initialized RJ10 ∈ WA := wa_of (k := 93) (by decide +kernel) rfl
theorem in_RJ2 : Cond.initialized RJ2 ∈ WA := wa_of (k := 91) (by decide +kernel) rfl
theorem in_RJ3 : Cond.initialized RJ3 ∈ WA := wa_of (k := 90) (by decide +kernel) rfl
theorem in_RJ7 : Cond.initialized RJ7 ∈ WA := wa_of (k := 86) (by decide +kernel) rfl
theorem in_RJ9 : Cond.initialized RJ9 ∈ WA := wa_of (k := 87) (by decide +kernel) rfl
theorem in_RL : Cond.initialized RL ∈ WA := wa_of (k := 75) (by decide +kernel) rfl
theorem in_RX0 : Cond.initialized RX0 ∈ WA := wa_of (k := 81) (by decide +kernel) rfl
theorem in_RX1 : Cond.initialized RX1 ∈ WA := wa_of (k := 82) (by decide +kernel) rfl
theorem in_RX10 : Cond.initialized RX10 ∈ WA := wa_of (k := 85) (by decide +kernel) rfl
theorem in_RX2 : Cond.initialized RX2 ∈ WA := wa_of (k := 84) (by decide +kernel) rfl
theorem in_RX3 : Cond.initialized RX3 ∈ WA := wa_of (k := 79) (by decide +kernel) rfl
theorem in_RX4 : Cond.initialized RX4 ∈ WA := wa_of (k := 80) (by decide +kernel) rfl
theorem in_RX5 : Cond.initialized RX5 ∈ WA := wa_of (k := 78) (by decide +kernel) rfl
theorem in_RX6 : Cond.initialized RX6 ∈ WA := wa_of (k := 77) (by decide +kernel) rfl
theorem in_RX7 : Cond.initialized RX7 ∈ WA := wa_of (k := 83) (by decide +kernel) rfl
theorem in_RX8 : Cond.initialized RX8 ∈ WA := wa_of (k := 92) (by decide +kernel) rfl
theorem in_RX9 : Cond.initialized RX9 ∈ WA := wa_of (k := 76) (by decide +kernel) rfl
theorem in_Math : Cond.initialized "java/lang/Math" ∈ WA := wa_of (k := 87) (by decide +kernel) rfl
theorem sm_max : Cond.static Lib.Math.max.name ∈ WA := wa_of (k := 420) (by decide +kernel) rfl
theorem cd_max : Cond.code Lib.Math.max.name Lib.Math.max.code 2 (some .int) ∈ WA := wa_of (k := 421) (by decide +kernel) rfl
theorem sm_min : Cond.static Lib.Math.min.name ∈ WA := wa_of (k := 417) (by decide +kernel) rfl
theorem cd_min : Cond.code Lib.Math.min.name Lib.Math.min.code 2 (some .int) ∈ WA := wa_of (k := 418) (by decide +kernel) rfl
theorem inX0 : ∀ w ∈ wsX00, w ∈ WA := by
  have h : (wsX00).all goodWord = true := by decide +kernel
  have e : wsX00 = [319, 321, 323, 325, 327].filterMap (fun i => lw_tbl[i]?) := by decide +kernel
  intro w hw
  refine List.mem_filter.mpr ⟨?_, List.all_eq_true.mp h w hw⟩
  rw [e] at hw
  obtain ⟨i, -, hi⟩ := List.mem_filterMap.mp hw
  exact List.mem_of_getElem? hi
theorem inX1 : ∀ w ∈ wsX10, w ∈ WA := by
  have h : (wsX10).all goodWord = true := by decide +kernel
  have e : wsX10 = [260, 262, 264, 266, 268, 270, 272, 274, 276].filterMap (fun i => lw_tbl[i]?) := by decide +kernel
  intro w hw
  refine List.mem_filter.mpr ⟨?_, List.all_eq_true.mp h w hw⟩
  rw [e] at hw
  obtain ⟨i, -, hi⟩ := List.mem_filterMap.mp hw
  exact List.mem_of_getElem? hi
theorem inX2 : ∀ w ∈ wsX20, w ∈ WA := by
  have h : (wsX20).all goodWord = true := by decide +kernel
  have e : wsX20 = [345, 347, 349, 351, 353, 355].filterMap (fun i => lw_tbl[i]?) := by decide +kernel
  intro w hw
  refine List.mem_filter.mpr ⟨?_, List.all_eq_true.mp h w hw⟩
  rw [e] at hw
  obtain ⟨i, -, hi⟩ := List.mem_filterMap.mp hw
  exact List.mem_of_getElem? hi
theorem inX3 : ∀ w ∈ wsX30, w ∈ WA := by
  have h : (wsX30).all goodWord = true := by decide +kernel
  have e : wsX30 = [222, 224, 226, 228, 230, 232].filterMap (fun i => lw_tbl[i]?) := by decide +kernel
  intro w hw
  refine List.mem_filter.mpr ⟨?_, List.all_eq_true.mp h w hw⟩
  rw [e] at hw
  obtain ⟨i, -, hi⟩ := List.mem_filterMap.mp hw
  exact List.mem_of_getElem? hi
theorem inX4 : ∀ w ∈ wsX40, w ∈ WA := by
  have h : (wsX40).all goodWord = true := by decide +kernel
  have e : wsX40 = [201, 203, 205, 207, 209, 211].filterMap (fun i => lw_tbl[i]?) := by decide +kernel
  intro w hw
  refine List.mem_filter.mpr ⟨?_, List.all_eq_true.mp h w hw⟩
  rw [e] at hw
  obtain ⟨i, -, hi⟩ := List.mem_filterMap.mp hw
  exact List.mem_of_getElem? hi
theorem inX5 : ∀ w ∈ wsX50, w ∈ WA := by
  have h : (wsX50).all goodWord = true := by decide +kernel
  have e : wsX50 = [151, 153, 155, 157, 159, 161, 163, 165, 167, 169, 171, 173, 175].filterMap (fun i => lw_tbl[i]?) := by decide +kernel
  intro w hw
  refine List.mem_filter.mpr ⟨?_, List.all_eq_true.mp h w hw⟩
  rw [e] at hw
  obtain ⟨i, -, hi⟩ := List.mem_filterMap.mp hw
  exact List.mem_of_getElem? hi
theorem inX6 : ∀ w ∈ wsX60, w ∈ WA := by
  have h : (wsX60).all goodWord = true := by decide +kernel
  have e : wsX60 = [117, 119].filterMap (fun i => lw_tbl[i]?) := by decide +kernel
  intro w hw
  refine List.mem_filter.mpr ⟨?_, List.all_eq_true.mp h w hw⟩
  rw [e] at hw
  obtain ⟨i, -, hi⟩ := List.mem_filterMap.mp hw
  exact List.mem_of_getElem? hi
theorem inX7 : ∀ w ∈ wsX70, w ∈ WA := by
  have h : (wsX70).all goodWord = true := by decide +kernel
  have e : wsX70 = [299, 301, 303, 305, 307, 309, 311].filterMap (fun i => lw_tbl[i]?) := by decide +kernel
  intro w hw
  refine List.mem_filter.mpr ⟨?_, List.all_eq_true.mp h w hw⟩
  rw [e] at hw
  obtain ⟨i, -, hi⟩ := List.mem_filterMap.mp hw
  exact List.mem_of_getElem? hi
theorem inX9 : ∀ w ∈ wsX90, w ∈ WA := by
  have h : (wsX90).all goodWord = true := by decide +kernel
  have e : wsX90 = [366, 368, 370, 372, 374, 376, 378].filterMap (fun i => lw_tbl[i]?) := by decide +kernel
  intro w hw
  refine List.mem_filter.mpr ⟨?_, List.all_eq_true.mp h w hw⟩
  rw [e] at hw
  obtain ⟨i, -, hi⟩ := List.mem_filterMap.mp hw
  exact List.mem_of_getElem? hi
theorem inX10 : ∀ w ∈ wsX100, w ∈ WA := by
  have h : (wsX100).all goodWord = true := by decide +kernel
  have e : wsX100 = [1100, 1102, 1104, 1106, 1108, 1110, 1112, 1114, 1116, 1118, 1120, 1122, 1124, 1126, 1128, 1130, 1132, 1134, 1136, 1138, 1140, 1142, 1144, 1146, 1148, 1150, 1152, 1154, 1156, 1158, 1160, 1162, 1164, 1166, 1168, 1170, 1172, 1174, 1176, 1178, 1180, 1182, 1184, 1186, 1188, 1190, 1192, 1194, 1196, 1198, 1200, 1202, 1204, 1206, 1208, 1210].filterMap (fun i => lw_tbl[i]?) := by decide +kernel
  intro w hw
  refine List.mem_filter.mpr ⟨?_, List.all_eq_true.mp h w hw⟩
  rw [e] at hw
  obtain ⟨i, -, hi⟩ := List.mem_filterMap.mp hw
  exact List.mem_of_getElem? hi
end
section
/-! own rows: pure states, guards, the uniform contract, calls -/
/-- the state of an object with its own arrays: its number fields by place, its arrays by the place of their field -/
abbrev St : Type := (Nat → Int32) × (Nat → Nat → Int32)
def sF (σ : St) (k : Nat) (v : Int32) : St := (upd σ.1 k v, σ.2)
def sA (σ : St) (k i : Nat) (v : Int32) : St := (σ.1, fun j => if j = k then upd (σ.2 k) i v else σ.2 j)
def inb (i : Int32) (n : Nat) : Bool := !(decide (i < 0)) && decide (i.toNatClampNeg < n)
theorem inb_in {i : Int32} {n : Nat} (h : inb i n = true) : vp_in i n := by
  simp only [inb, Bool.and_eq_true, Bool.not_eq_true', decide_eq_false_iff_not, decide_eq_true_eq] at h
  rintro (q | q)
  · exact h.1 q
  · omega
theorem in_inb {i : Int32} {n : Nat} (h : vp_in i n) : inb i n = true := by
  simp only [inb, Bool.and_eq_true, Bool.not_eq_true', decide_eq_false_iff_not, decide_eq_true_eq]
  exact ⟨fun q => h (Or.inl q), by
    rcases Nat.lt_or_ge i.toNatClampNeg n with q | q
    · exact q
    · exact absurd (Or.inr q) h⟩
def isB (v : Int32) : Bool := decide (v = 0) || decide (v = 1)
theorem isB_n {v : Int32} (h : isB v = true) : narrow .boolean (.int v) = .int v := by
  simp only [isB, Bool.or_eq_true, decide_eq_true_eq] at h
  rcases h with rfl | rfl <;> decide +kernel
theorem isB_f {v : Int32} (h : isB v = true) : fits .boolean (.int v) = true := by
  simp only [isB, Bool.or_eq_true, decide_eq_true_eq] at h
  rcases h with rfl | rfl <;> decide +kernel
theorem isB_v {v : Int32} (h : isB v = true) : vp_nar .boolean v = v := by
  simp only [isB, Bool.or_eq_true, decide_eq_true_eq] at h
  rcases h with rfl | rfl <;> decide +kernel
def nz (v : Int32) : Bool := !(decide (v = 0))
theorem nz_ne {v : Int32} (h : nz v = true) : ¬ v = 0 := by simpa [nz] using h
theorem op_if {α : Type} {b : Bool} {x : Option α} {o : α} (h : (if b = true then x else none) = some o) : b = true ∧ x = some o := by
  by_cases hb : b = true
  · rw [if_pos hb] at h; exact ⟨hb, h⟩
  · rw [if_neg hb] at h; cases h
theorem op_pos {α : Type} {c : Prop} [Decidable c] {x y : Option α} {o : α} (hc : c) (h : (if c then x else y) = some o) : x = some o := by rwa [if_pos hc] at h
theorem op_neg {α : Type} {c : Prop} [Decidable c] {x y : Option α} {o : α} (hc : ¬ c) (h : (if c then x else y) = some o) : y = some o := by rwa [if_neg hc] at h
theorem op_bind {α β : Type} {x : Option α} {k : α → Option β} {o : β} (h : x.bind k = some o) : ∃ r, x = some r ∧ k r = some o := Option.bind_eq_some_iff.mp h
theorem op_no {α : Type} {o : α} {P : Prop} (h : (none : Option α) = some o) : P := by cases h
/-- the array classes: int, byte, boolean, int[], Wording, long -/
abbrev TY (cy : Nat → ClassId) : List (ClassId × FieldType) := [(cy 0, .int), (cy 1, .byte), (cy 2, .boolean)]
abbrev gP (D : va_G) (cy : Nat → ClassId) (sz : Nat) (ws : va_W) (U : State) : Prop := U.heap.size = sz ∧ va_P D vwCl ws U.heap ∧ va_K D vwCl (TY cy) U ∧ va_D (fun _ => True) ws
abbrev gB (D : va_G) (cy : Nat → ClassId) (A : Nat → Prop) (ws : va_W) (t : State) : Prop := va_P D vwCl ws t.heap ∧ va_K D vwCl (TY cy) t ∧ va_D A ws
abbrev gQi (D : va_G) (cy : Nat → ClassId) (A : Nat → Prop) (v : Int32) (ws : va_W) : Array Value → State → Outcome → State → Prop := va_Qi (fun r (_ : Unit) => r = v) (fun _ => gB D cy A ws) A
abbrev gQv (D : va_G) (cy : Nat → ClassId) (A : Nat → Prop) (ws : va_W) : Array Value → State → Outcome → State → Prop := va_Qv (fun (_ : Unit) => True) (fun _ => gB D cy A ws) A
/-- what a method's walk stands on -/
abbrev gC (p : Program) (s : State) (m : MethodId) (av : Array Value) (meth : Method) (c : Code) (ws : List Cond) (cc : ByteArray) (maxL : Nat) (ret : Option FieldType) (own : String) : Prop :=
  p.tables.exec = Jvm.exec ∧ c.code = cc ∧ meth.sig.returnType = ret ∧ c.maxLocals = maxL ∧ s.vm.findClass own = some m.cls ∧ (∀ w ∈ ws, w.before av s = true) ∧ meth.locks = false
theorem g_met {l : Launch} {y : MethodName} {ws ws' : List Cond} {rm : Room} {cc : ByteArray} {maxL : Nat} {ret : Option FieldType} {D : va_G} {cy : Nat → ClassId} {av : List Value} {wsx : va_W} {sz : Nat} (Qp : (Nat → Prop) → Array Value → State → Outcome → State → Prop)
    (hy : plainName y.cls = true) (hw : ws = Cond.code y cc maxL ret :: ws') (hlen : (lg_sl av).length ≤ maxL)
    (body : ∀ (p : Program) (e : Env) (s : State) (m : MethodId) (below : List Frame) (meth : Method) (c : Code) (A : Nat → Prop), gC p s m av.toArray meth c ws cc maxL ret y.cls → (∀ q : Nat, s.heap.size ≤ q → A q) → va_K D vwCl (TY cy) s → va_P D vwCl wsx s.heap → va_D A wsx → ∀ ls : Array Slot, lv_has ls maxL (lv_args 0 av) →
      W p l e rm s m av.toArray below meth c s.heap [] 0 0 (MQ below (Qp A) av.toArray s 0 0 A) (F0 m 0 ls [])) :
    Met l y ws rm (va_Pc av (gP D cy sz wsx)) (Qp (va_A wsx sz)) 0 0 (va_A wsx sz) := by
  refine Met.ofW (cc := cc) (maxL := maxL) (ret := ret) hy hw ?_
  intro p e s m args below meth c s₁ B hml hv
  obtain ⟨rfl, hsz, hP, hK, hD0⟩ := hv
  have hts := atoms_spec (ws := ws) B.pre
  have hown : s.vm.findClass y.cls = some m.cls := findClass_of_methodNamed B.named
  subst hsz
  have hD := hD0.self (sz := s.heap.size)
  have hl := lv_entry av (n := maxL) hlen
  rw [lg_entry_eq]
  exact body p e s m below meth c _ ⟨B.exec, B.bytes, B.returns, hml, hown, hts, B.notSynchronized⟩ (fun q h => Or.inr h) hK hP hD _ hl
section GW
variable {p : Program} {l : Launch} {e : Env} {R : Room} {s : State} {m : MethodId} {args : Array Value} {below : List Frame} {meth : Method} {c : Code} {H : Heap} {locs : List Loc} {Q : State → Prop} {A : Nat → Prop} {D : va_G} {cy : Nat → ClassId} {w : va_W} {cc : ByteArray} {pc : Nat} {ls : Array Slot}
theorem g_iret {v : Int32} (hx : p.tables.exec = Jvm.exec) (hb : c.code = cc) (hr : meth.sig.returnType = some .int) (hlk : meth.locks = false) (hK : va_K D vwCl (TY cy) s) (hP : va_P D vwCl w H) (hD : va_D A w) (hS : va_S A s.heap H locs) (hdg : decode cc pc = .ok (.ireturn, 1)) : W p l e R s m args below meth c H locs 0 0 (MQ below (gQi D cy A v w) args s 0 0 A) (F0 m pc ls [.int v]) :=
  W.iret (v := v) hx hb hr (fun t ht hW => ⟨⟨v, (), rfl, rfl, by rw [ht]; exact hP, va_K.moved hW.alike hK, hD⟩, hS.F ht⟩) hS.2.2 hdg hlk
theorem g_zret {v : Int32} (hx : p.tables.exec = Jvm.exec) (hb : c.code = cc) (hr : meth.sig.returnType = some .boolean) (hlk : meth.locks = false) (hv : isB v = true) (hK : va_K D vwCl (TY cy) s) (hP : va_P D vwCl w H) (hD : va_D A w) (hS : va_S A s.heap H locs) (hdg : decode cc pc = .ok (.ireturn, 1)) : W p l e R s m args below meth c H locs 0 0 (MQ below (gQi D cy A v w) args s 0 0 A) (F0 m pc ls [.int v]) :=
  W.zret (v := v) hx hb hr (isB_n hv) (fun t ht hW => ⟨⟨v, (), rfl, rfl, by rw [ht]; exact hP, va_K.moved hW.alike hK, hD⟩, hS.F ht⟩) hS.2.2 hdg hlk
theorem g_vret (hx : p.tables.exec = Jvm.exec) (hb : c.code = cc) (hr : meth.sig.returnType = none) (hlk : meth.locks = false) (hK : va_K D vwCl (TY cy) s) (hP : va_P D vwCl w H) (hD : va_D A w) (hS : va_S A s.heap H locs) (hdg : decode cc pc = .ok (.return_, 1)) : W p l e R s m args below meth c H locs 0 0 (MQ below (gQv D cy A w) args s 0 0 A) (F0 m pc ls []) :=
  W.vret hx hb hr (fun t ht hW => ⟨⟨(), rfl, trivial, by rw [ht]; exact hP, va_K.moved hW.alike hK, hD⟩, hS.F ht⟩) hS.2.2 hdg hlk
/-- the cells at these places -/
def pick (ws : va_W) (is : List Nat) : va_W := is.filterMap (fun i => ws[i]?)
theorem g_pre {av : List Value} {wc : va_W} (hK : va_K D vwCl (TY cy) s) (hPc : va_P D vwCl wc H) (hDc : va_D A wc) : PreS s H (va_Pc av (gP D cy H.size wc)) av :=
  ⟨fun a U g mk q => by obtain ⟨q0, q1, qP, qK, qD⟩ := q; exact ⟨q0, q1, qP, va_K.moved (u := U) (U := U.calling g mk a) (Vm.Alike.refl U.vm) qK, qD⟩, fun U hU hW => ⟨rfl, by rw [hU], by rw [hU]; exact hPc, va_K.moved hW.alike hK, hDc.weaken (fun _ _ _ _ => trivial)⟩⟩
/-- behind a call: the callee's cells as they came back beside the rest, in the caller's order -/
theorem g_after {ws wc w1 w2 : va_W} {H1 : Heap} {t : State} (isC isR isP : List Nat) (hP : va_P D vwCl ws H) (hD : va_D A ws) (hS : va_S A s.heap H locs) (hA : ∀ q, s.heap.size ≤ q → A q)
    (hC : isC.map (fun i => ws[i]?) = wc.map some) (hR : isR.map (fun i => ws[i]?) = (pick ws isR).map some) (hn : va_nd isR = true) (hdis : ∀ i ∈ isR, i ∉ isC) (hp : isP.map (fun i => (pick ws isR ++ w1)[i]?) = w2.map some) (hnp : va_nd isP = true)
    (hk1 : ∀ q : Nat, q < H.size → ¬ va_A wc H.size q → H1[q]? = H[q]?) (ht : t.heap = H1) (hB : gB D cy (va_A wc H.size) w1 t) : va_P D vwCl w2 H1 ∧ va_D A w2 := by
  obtain ⟨hP1, -, hD1⟩ := hB
  rw [ht] at hP1
  have hFc := va_free (wc := wc) hD hS hA isC hC
  obtain ⟨hP2, hD2⟩ := va_join (wr := pick ws isR) (w1 := w1) hP hD isC isR hC hR hn hdis hk1 hFc hP1 hD1
  refine ⟨hP2.sub isP ?_, hD2.sub isP hnp hp⟩
  have : ∀ (l : List Nat) (v : va_W), l.map (fun i => (pick ws isR ++ w1)[i]?) = v.map some → l.filterMap (fun i => (pick ws isR ++ w1)[i]?) = v := by
    intro l
    induction l with
    | nil => intro v h; cases v with
      | nil => rfl
      | cons a b => simp at h
    | cons i l ih => intro v h; cases v with
      | nil => simp at h
      | cons a b =>
        simp only [List.map_cons, List.cons.injEq] at h
        rw [List.filterMap_cons, h.1]
        simp only [ih b h.2]
  exact this _ _ hp
variable {y : MethodName} {ws ws1 w1 w2 : va_W} {wsm : List Cond} {rm : Room} {Ts : List Cond} {own C : String} {bytes : ByteArray} {maxL nL n index : Nat} {ret : Option FieldType} {As rest : List Value} {b : Nat} {wc : va_W}
theorem g_callVi {r0 : Int32} (S : CallFix p m c cc nL s args Ts own) (hM : Met l y wsm rm (va_Pc (.ref b :: As) (gP D cy H.size wc)) (gQi D cy (va_A wc H.size) r0 w1) 0 0 (va_A wc H.size)) (cw : CallW R s args own C index y bytes maxL ret wsm rm 0 0 n)
    (hrc : ∃ cell : Cell, H[b]? = some cell ∧ cell.vm.isStatics = false ∧ s.vm.findClass C = some cell.cls) (hn : As.length = n) (hsize : ls.size = nL) {st0 : List Value} (hst : st0 = As.reverse ++ .ref b :: rest) (hW : (rest.map fun v => v.category).sum ≤ 8) (hdg : decode cc pc = .ok (.invokevirtual index, 3))
    (hK : va_K D vwCl (TY cy) s) (hP : va_P D vwCl ws H) (hD : va_D A ws) (hS : va_S A s.heap H locs) (hA : ∀ q, s.heap.size ≤ q → A q) (isC isR isP : List Nat)
    (hC : isC.map (fun i => ws[i]?) = wc.map some) (hnc : va_nd isC = true) (hR : isR.map (fun i => ws[i]?) = (pick ws isR).map some) (hnr : va_nd isR = true) (hdis : ∀ i ∈ isR, i ∉ isC) (hp : isP.map (fun i => (pick ws isR ++ w1)[i]?) = w2.map some) (hnp : va_nd isP = true)
    (kk : ∀ (H1 : Heap) (locs1 : List Loc), va_P D vwCl w2 H1 → va_D A w2 → va_S A s.heap H1 locs1 → W p l e R s m args below meth c H1 locs1 0 0 Q (F0 m (pc + 3) ls (.int r0 :: rest))) : W p l e R s m args below meth c H locs 0 0 Q (F0 m pc ls st0) := by
  have hDc := hD.sub (ws' := wc) isC hnc hC
  have hPc : va_P D vwCl wc H := fun k q hq => by
    have h2 : (isC.map (fun i => ws[i]?))[k]? = some (some q) := by rw [hC]; simp [hq]
    rw [List.getElem?_map] at h2
    obtain ⟨i, -, hi⟩ := Option.map_eq_some_iff.mp h2
    exact hP i q hi
  have hFc := va_free (wc := wc) hD hS hA isC hC
  obtain ⟨hp1, hp2⟩ := g_pre (av := .ref b :: As) hK hPc hDc
  refine va_calli (va_runV (As := As) (rest := rest) S hM cw ⟨hp1, hrc, hp2⟩ rfl hn hsize hst (lv_room hW) hdg ⟨Nat.zero_le _, Nat.zero_le _⟩) hS (fun q _ h => hFc q h) hFc (fun r u t H1 locs1 ht hvm hw hB hz1 hk1 hS1 => ?_)
  subst hw
  obtain ⟨h1, h2⟩ := g_after isC isR isP hP hD hS hA hC hR hnr hdis hp hnp hk1 ht hB
  exact kk H1 locs1 h1 h2 hS1
theorem g_callVv (S : CallFix p m c cc nL s args Ts own) (hM : Met l y wsm rm (va_Pc (.ref b :: As) (gP D cy H.size wc)) (gQv D cy (va_A wc H.size) w1) 0 0 (va_A wc H.size)) (cw : CallW R s args own C index y bytes maxL ret wsm rm 0 0 n)
    (hrc : ∃ cell : Cell, H[b]? = some cell ∧ cell.vm.isStatics = false ∧ s.vm.findClass C = some cell.cls) (hn : As.length = n) (hsize : ls.size = nL) {st0 : List Value} (hst : st0 = As.reverse ++ .ref b :: rest) (hW : (rest.map fun v => v.category).sum ≤ 8) (hdg : decode cc pc = .ok (.invokevirtual index, 3))
    (hK : va_K D vwCl (TY cy) s) (hP : va_P D vwCl ws H) (hD : va_D A ws) (hS : va_S A s.heap H locs) (hA : ∀ q, s.heap.size ≤ q → A q) (isC isR isP : List Nat)
    (hC : isC.map (fun i => ws[i]?) = wc.map some) (hnc : va_nd isC = true) (hR : isR.map (fun i => ws[i]?) = (pick ws isR).map some) (hnr : va_nd isR = true) (hdis : ∀ i ∈ isR, i ∉ isC) (hp : isP.map (fun i => (pick ws isR ++ w1)[i]?) = w2.map some) (hnp : va_nd isP = true)
    (kk : ∀ (H1 : Heap) (locs1 : List Loc), va_P D vwCl w2 H1 → va_D A w2 → va_S A s.heap H1 locs1 → W p l e R s m args below meth c H1 locs1 0 0 Q (F0 m (pc + 3) ls rest)) : W p l e R s m args below meth c H locs 0 0 Q (F0 m pc ls st0) := by
  have hDc := hD.sub (ws' := wc) isC hnc hC
  have hPc : va_P D vwCl wc H := fun k q hq => by
    have h2 : (isC.map (fun i => ws[i]?))[k]? = some (some q) := by rw [hC]; simp [hq]
    rw [List.getElem?_map] at h2
    obtain ⟨i, -, hi⟩ := Option.map_eq_some_iff.mp h2
    exact hP i q hi
  have hFc := va_free (wc := wc) hD hS hA isC hC
  obtain ⟨hp1, hp2⟩ := g_pre (av := .ref b :: As) hK hPc hDc
  refine va_callv (va_runV (As := As) (rest := rest) S hM cw ⟨hp1, hrc, hp2⟩ rfl hn hsize hst (lv_room hW) hdg ⟨Nat.zero_le _, Nat.zero_le _⟩) hS (fun q _ h => hFc q h) hFc (fun u t H1 locs1 ht hvm hw hB hz1 hk1 hS1 => ?_)
  obtain ⟨h1, h2⟩ := g_after isC isR isP hP hD hS hA hC hR hnr hdis hp hnp hk1 ht hB
  exact kk H1 locs1 h1 h2 hS1
theorem g_callSi {r0 : Int32} (S : CallFix p m c cc nL s args Ts own) (hM : Met l y wsm rm (va_Pc As (gP D cy H.size wc)) (gQi D cy (va_A wc H.size) r0 w1) 0 0 (va_A wc H.size)) (cw : CallB R s args own index y bytes maxL ret wsm rm 0 0 n ∧ (Cond.static y).before args s = true)
    (hn : As.length = n) (hsize : ls.size = nL) {st0 : List Value} (hst : st0 = As.reverse ++ rest) (hW : (rest.map fun v => v.category).sum ≤ 8) (hdg : decode cc pc = .ok (.invokestatic index, 3))
    (hK : va_K D vwCl (TY cy) s) (hP : va_P D vwCl ws H) (hD : va_D A ws) (hS : va_S A s.heap H locs) (hA : ∀ q, s.heap.size ≤ q → A q) (isC isR isP : List Nat)
    (hC : isC.map (fun i => ws[i]?) = wc.map some) (hnc : va_nd isC = true) (hR : isR.map (fun i => ws[i]?) = (pick ws isR).map some) (hnr : va_nd isR = true) (hdis : ∀ i ∈ isR, i ∉ isC) (hp : isP.map (fun i => (pick ws isR ++ w1)[i]?) = w2.map some) (hnp : va_nd isP = true)
    (kk : ∀ (H1 : Heap) (locs1 : List Loc), va_P D vwCl w2 H1 → va_D A w2 → va_S A s.heap H1 locs1 → W p l e R s m args below meth c H1 locs1 0 0 Q (F0 m (pc + 3) ls (.int r0 :: rest))) : W p l e R s m args below meth c H locs 0 0 Q (F0 m pc ls st0) := by
  have hDc := hD.sub (ws' := wc) isC hnc hC
  have hPc : va_P D vwCl wc H := fun k q hq => by
    have h2 : (isC.map (fun i => ws[i]?))[k]? = some (some q) := by rw [hC]; simp [hq]
    rw [List.getElem?_map] at h2
    obtain ⟨i, -, hi⟩ := Option.map_eq_some_iff.mp h2
    exact hP i q hi
  have hFc := va_free (wc := wc) hD hS hA isC hC
  obtain ⟨hp1, hp2⟩ := g_pre (av := As) hK hPc hDc
  refine va_calli (va_runS (As := As) (rest := rest) S hM cw ⟨hp1, hp2⟩ rfl hn hsize hst (lv_room hW) hdg ⟨Nat.zero_le _, Nat.zero_le _⟩) hS (fun q _ h => hFc q h) hFc (fun r u t H1 locs1 ht hvm hw hB hz1 hk1 hS1 => ?_)
  subst hw
  obtain ⟨h1, h2⟩ := g_after isC isR isP hP hD hS hA hC hR hnr hdis hp hnp hk1 ht hB
  exact kk H1 locs1 h1 h2 hS1
end GW
end
section
def w0 (cy : Nat → ClassId) (h : Nat) (r0 : Nat) (r1 : Nat) (r2 : Nat) (r3 : Nat) (r4 : Nat) (σ : St) : va_W := [(h, .inr (0, [.ref r0, .ref r1, .ref r2, .ref r3, .ref r4]))]
def w1 (cy : Nat → ClassId) (h : Nat) (r5 : Nat) (a : Nat → Nat) (σ : St) : va_W := [(h, .inr (1, [.ref (a 0), .ref (a 1), .ref (a 2), .ref (a 3), .ref (a 4), .ref r5, .int (σ.1 6), .int (σ.1 7), .int (σ.1 8)])), (a 0, .inl (cy 0, 240, .inl (σ.2 0))), (a 1, .inl (cy 0, 240, .inl (σ.2 1))), (a 2, .inl (cy 0, 241, .inl (σ.2 2))), (a 3, .inl (cy 0, 241, .inl (σ.2 3))), (a 4, .inl (cy 0, 13, .inl (σ.2 4)))]
def w2 (cy : Nat → ClassId) (h : Nat) (r5 : Nat) (a : Nat → Nat) (σ : St) : va_W := [(h, .inr (2, [.int (σ.1 0), .int (σ.1 1), .int (σ.1 2), .int (σ.1 3), .ref (a 4), .ref r5])), (a 4, .inl (cy 2, 8, .inl (σ.2 4)))]
def w3 (cy : Nat → ClassId) (h : Nat) (r2 : Nat) (r3 : Nat) (σ : St) : va_W := [(h, .inr (3, [.int (σ.1 0), .int (σ.1 1), .ref r2, .ref r3, .int (σ.1 4), .int (σ.1 5)]))]
def w4 (cy : Nat → ClassId) (h : Nat) (r0 : Nat) (σ : St) : va_W := [(h, .inr (4, [.ref r0, .int (σ.1 1), .int (σ.1 2), .int (σ.1 3), .int (σ.1 4), .int (σ.1 5)]))]
def w5 (cy : Nat → ClassId) (h : Nat) (a : Nat → Nat) (σ : St) : va_W := [(h, .inr (5, [.int (σ.1 0), .int (σ.1 1), .int (σ.1 2), .int (σ.1 3), .int (σ.1 4), .ref (a 5), .ref (a 6), .ref (a 7), .ref (a 8), .ref (a 9), .ref (a 10), .ref (a 11), .ref (a 12)])), (a 5, .inl (cy 0, 4, .inl (σ.2 5))), (a 6, .inl (cy 0, 4, .inl (σ.2 6))), (a 7, .inl (cy 0, 8, .inl (σ.2 7))), (a 8, .inl (cy 0, 8, .inl (σ.2 8))), (a 9, .inl (cy 0, 40, .inl (σ.2 9))), (a 10, .inl (cy 0, 40, .inl (σ.2 10))), (a 11, .inl (cy 0, 160, .inl (σ.2 11))), (a 12, .inl (cy 0, 160, .inl (σ.2 12)))]
def w6 (cy : Nat → ClassId) (h : Nat) (a : Nat → Nat) (σ : St) : va_W := [(h, .inr (6, [.ref (a 0), .int (σ.1 1)])), (a 0, .inl (cy 1, 1500, .inl (σ.2 0)))]
def w7 (cy : Nat → ClassId) (h : Nat) (r0 : Nat) (a : Nat → Nat) (σ : St) : va_W := [(h, .inr (7, [.ref r0, .int (σ.1 1), .int (σ.1 2), .int (σ.1 3), .int (σ.1 4), .int (σ.1 5), .ref (a 6)])), (a 6, .inl (cy 0, 12, .inl (σ.2 6)))]
def w9 (cy : Nat → ClassId) (h : Nat) (r0 : Nat) (r1 : Nat) (r2 : Nat) (r3 : Nat) (r4 : Nat) (r5 : Nat) (r6 : Nat) (σ : St) : va_W := [(h, .inr (8, [.ref r0, .ref r1, .ref r2, .ref r3, .ref r4, .ref r5, .ref r6]))]
def w10 (cy : Nat → ClassId) (h : Nat) (a : Nat → Nat) (σ : St) : va_W := [(h, .inr (9, [.ref (a 0), .int (σ.1 1), .int (σ.1 2), .int (σ.1 3), .ref (a 4), .ref (a 5), .int (σ.1 6), .int (σ.1 7), .int (σ.1 8), .ref (a 9), .ref (a 10), .ref (a 11), .ref (a 12), .ref (a 13), .int (σ.1 14), .ref (a 15), .ref (a 16), .ref (a 17), .ref (a 18), .ref (a 19), .ref (a 20), .ref (a 21), .int (σ.1 22), .int (σ.1 23), .int (σ.1 24), .int (σ.1 25), .ref (a 26), .ref (a 27), .ref (a 28), .int (σ.1 29), .ref (a 30), .ref (a 31), .int (σ.1 32), .int (σ.1 33), .int (σ.1 34), .int (σ.1 35), .int (σ.1 36), .int (σ.1 37), .int (σ.1 38), .int (σ.1 39), .int (σ.1 40), .int (σ.1 41), .ref (a 42), .ref (a 43), .int (σ.1 44), .int (σ.1 45), .int (σ.1 46), .ref (a 47), .ref (a 48), .ref (a 49), .ref (a 50), .int (σ.1 51), .ref (a 52), .ref (a 53), .ref (a 54), .int (σ.1 55)])), (a 0, .inl (cy 0, 1500, .inl (σ.2 0))), (a 4, .inl (cy 0, 4, .inl (σ.2 4))), (a 5, .inl (cy 0, 4, .inl (σ.2 5))), (a 9, .inl (cy 0, 40, .inl (σ.2 9))), (a 10, .inl (cy 0, 40, .inl (σ.2 10))), (a 11, .inl (cy 0, 40, .inl (σ.2 11))), (a 12, .inl (cy 0, 8, .inl (σ.2 12))), (a 13, .inl (cy 0, 8, .inl (σ.2 13))), (a 15, .inl (cy 0, 80000, .inl (σ.2 15))), (a 16, .inl (cy 0, 160, .inl (σ.2 16))), (a 17, .inl (cy 2, 160, .inl (σ.2 17))), (a 18, .inl (cy 2, 8, .inl (σ.2 18))), (a 19, .inl (cy 2, 160, .inl (σ.2 19))), (a 20, .inl (cy 0, 80000, .inl (σ.2 20))), (a 21, .inl (cy 0, 160, .inl (σ.2 21))), (a 26, .inl (cy 0, 1500, .inl (σ.2 26))), (a 27, .inl (cy 0, 760, .inl (σ.2 27))), (a 28, .inl (cy 0, 760, .inl (σ.2 28))), (a 30, .inl (cy 0, 1778, .inl (σ.2 30))), (a 31, .inl (cy 0, 12, .inl (σ.2 31))), (a 42, .inl (cy 0, 4, .inl (σ.2 42))), (a 43, .inl (cy 0, 4, .inl (σ.2 43))), (a 47, .inl (cy 0, 40, .inl (σ.2 47))), (a 48, .inl (cy 0, 40, .inl (σ.2 48))), (a 49, .inl (cy 0, 8, .inl (σ.2 49))), (a 50, .inl (cy 0, 8, .inl (σ.2 50))), (a 52, .inl (cy 0, 160, .inl (σ.2 52))), (a 53, .inl (cy 0, 160, .inl (σ.2 53))), (a 54, .inl (cy 0, 39, .inl (σ.2 54)))]
def wB (cy : Nat → ClassId) (h : Nat) (f : Nat → Int32) : va_W := [(h, .inl (cy 1, 1500, .inl f))]
end
section
def f_X6_hasRoom (fu : Nat) (s0 : St)   : Option (Int32) := if 1500 < ((s0.1 1) + 20) then (some 0) else (some 1)
theorem hdX6_hasRoom : yX6_hasRoom.cls = RX6 ∧ yX6_hasRoom.cls ≠ "java/lang/invoke/MethodHandle" ∧ yX6_hasRoom.cls ≠ "java/lang/invoke/VarHandle" ∧ (parseMethodDescriptor yX6_hasRoom.desc).map (fun d => d.parameters.length) = some 0 := by decide +kernel
set_option maxHeartbeats 4000000 in
set_option maxRecDepth 100000 in
theorem c_X6_hasRoom (l : Launch) (D : va_G) (cy : Nat → ClassId) (h0 : Nat) (a0 : Nat → Nat) (s0 : St) (sz fu : Nat)  (out : Int32) (hf : f_X6_hasRoom fu s0 = some out) :
    Met l yX6_hasRoom (WS yX6_hasRoom cX6_hasRoom 1 (some .boolean)) ({ frames := 0, cells := 0, slots := 0, locals := 0 } : Room) (va_Pc [.ref h0] (gP D cy sz (w6 cy h0 a0 s0))) ((fun A : Nat → Prop => gQi D cy A out (w6 cy h0 a0 s0)) (va_A (w6 cy h0 a0 s0) sz)) 0 0 (va_A (w6 cy h0 a0 s0) sz) := by
  refine g_met (cc := cX6_hasRoom) (maxL := 1) (ret := (some .boolean)) (fun A : Nat → Prop => gQi D cy A out (w6 cy h0 a0 s0)) (by decide +kernel) rfl (Nat.le_of_ble_eq_true rfl) ?_
  intro p e s m below meth c A C hA hK hP hD ls hl
  obtain ⟨hx, hb, hr, hml, hown, hts, hlk⟩ := C
  have hown : s.vm.findClass RX6 = some m.cls := hown
  have hS : va_S A s.heap s.heap [] := va_S.rf
  have hl : lv_has ls 1 [(0, .ref h0)] := hl
  have hk_15 := hts _ (List.mem_cons_of_mem _ fl_RX6_15)
  unfold f_X6_hasRoom at hf
  refine lv_aload_n hx hb dX6_hasRoom_0 rfl (lv_at hl 0 rfl) ?_
  refine va_get (ci := 6) (v := .int (s0.1 1)) (C := RX6) (T := TX6) (N := 2) hx hb hts (fun w h => List.mem_cons_of_mem _ (inX6 w h)) hown hK hP 0 rfl rfl 1 (by decide) hk_15 (fun _ h9 => h9) rfl dX6_hasRoom_1 ?_
  refine lv_bipush (v := 20) hx hb dX6_hasRoom_4 (by decide) ?_
  refine lv_iadd hx hb dX6_hasRoom_6 ?_
  refine lv_sipush (v := 1500) hx hb dX6_hasRoom_7 (by decide) ?_
  refine lv_icmp_gt (tgt := 17) hx hb dX6_hasRoom_10 (by decide) (fun c_10 => ?_) (fun c_10 => ?_)
  · have hf := op_pos c_10 hf
    refine lv_iconst (v := 0) hx hb dX6_hasRoom_17 (by decide) ?_
    rw [← Option.some.inj hf]
    exact g_zret hx hb hr hlk (by decide) hK hP hD hS dX6_hasRoom_18
  · have hf := op_neg c_10 hf
    refine lv_iconst (v := 1) hx hb dX6_hasRoom_13 (by decide) ?_
    refine lv_goto (tgt := 18) hx hb dX6_hasRoom_14 (by decide) ?_
    rw [← Option.some.inj hf]
    exact g_zret hx hb hr hlk (by decide) hK hP hD hS dX6_hasRoom_18
def f_X6_holds (fu : Nat) (s0 : St)  (p1 : Int32) : Option (Int32) := if p1 < 0 then (some 0) else (if (s0.1 1) < p1 then (some 0) else (some 1))
theorem hdX6_holds : yX6_holds.cls = RX6 ∧ yX6_holds.cls ≠ "java/lang/invoke/MethodHandle" ∧ yX6_holds.cls ≠ "java/lang/invoke/VarHandle" ∧ (parseMethodDescriptor yX6_holds.desc).map (fun d => d.parameters.length) = some 1 := by decide +kernel
set_option maxHeartbeats 4000000 in
set_option maxRecDepth 100000 in
theorem c_X6_holds (l : Launch) (D : va_G) (cy : Nat → ClassId) (h0 : Nat) (a0 : Nat → Nat) (s0 : St) (sz fu : Nat) (p1 : Int32) (out : Int32) (hf : f_X6_holds fu s0 p1 = some out) :
    Met l yX6_holds (WS yX6_holds cX6_holds 2 (some .boolean)) ({ frames := 0, cells := 0, slots := 0, locals := 0 } : Room) (va_Pc [.ref h0, .int p1] (gP D cy sz (w6 cy h0 a0 s0))) ((fun A : Nat → Prop => gQi D cy A out (w6 cy h0 a0 s0)) (va_A (w6 cy h0 a0 s0) sz)) 0 0 (va_A (w6 cy h0 a0 s0) sz) := by
  refine g_met (cc := cX6_holds) (maxL := 2) (ret := (some .boolean)) (fun A : Nat → Prop => gQi D cy A out (w6 cy h0 a0 s0)) (by decide +kernel) rfl (Nat.le_of_ble_eq_true rfl) ?_
  intro p e s m below meth c A C hA hK hP hD ls hl
  obtain ⟨hx, hb, hr, hml, hown, hts, hlk⟩ := C
  have hown : s.vm.findClass RX6 = some m.cls := hown
  have hS : va_S A s.heap s.heap [] := va_S.rf
  have hl : lv_has ls 2 [(0, .ref h0), (1, .int p1)] := hl
  have hk_15 := hts _ (List.mem_cons_of_mem _ fl_RX6_15)
  unfold f_X6_holds at hf
  refine lv_iload_n hx hb dX6_holds_0 rfl (lv_at hl 1 rfl) ?_
  refine lv_if_lt (tgt := 16) hx hb dX6_holds_1 (by decide) (fun c_1 => ?_) (fun c_1 => ?_)
  · have hf := op_pos c_1 hf
    refine lv_iconst (v := 0) hx hb dX6_holds_16 (by decide) ?_
    rw [← Option.some.inj hf]
    exact g_zret hx hb hr hlk (by decide) hK hP hD hS dX6_holds_17
  · have hf := op_neg c_1 hf
    refine lv_iload_n hx hb dX6_holds_4 rfl (lv_at hl 1 rfl) ?_
    refine lv_aload_n hx hb dX6_holds_5 rfl (lv_at hl 0 rfl) ?_
    refine va_get (ci := 6) (v := .int (s0.1 1)) (C := RX6) (T := TX6) (N := 2) hx hb hts (fun w h => List.mem_cons_of_mem _ (inX6 w h)) hown hK hP 0 rfl rfl 1 (by decide) hk_15 (fun _ h9 => h9) rfl dX6_holds_6 ?_
    refine lv_icmp_gt (tgt := 16) hx hb dX6_holds_9 (by decide) (fun c_9 => ?_) (fun c_9 => ?_)
    · have hf := op_pos c_9 hf
      refine lv_iconst (v := 0) hx hb dX6_holds_16 (by decide) ?_
      rw [← Option.some.inj hf]
      exact g_zret hx hb hr hlk (by decide) hK hP hD hS dX6_holds_17
    · have hf := op_neg c_9 hf
      refine lv_iconst (v := 1) hx hb dX6_holds_12 (by decide) ?_
      refine lv_goto (tgt := 17) hx hb dX6_holds_13 (by decide) ?_
      rw [← Option.some.inj hf]
      exact g_zret hx hb hr hlk (by decide) hK hP hD hS dX6_holds_17
def f_X6_append_L3  (fu : Nat)  : Nat → St → Int32 → Int32 → Option (St)
  | 0, _, _, _ => none
  | n_3 + 1, u0, x1, x2 => if x2 < 0 then (some u0) else (if 1500 ≤ (u0.1 1) then (some u0) else (if inb (u0.1 1) 1500 = true then (f_X6_append_L3 fu n_3 (sF (sA u0 0 ((u0.1 1).toNatClampNeg) (vp_nar .byte ((x1 >>> (x2 &&& 31)).toInt8.toInt32))) 1 ((u0.1 1) + 1)) x1 (x2 + (-8))) else none))
def f_X6_append (fu : Nat)  (s0 : St) (p1 : Int32) : Option (St) := f_X6_append_L3 fu fu s0 p1 24
theorem hdX6_append : yX6_append.cls = RX6 ∧ yX6_append.cls ≠ "java/lang/invoke/MethodHandle" ∧ yX6_append.cls ≠ "java/lang/invoke/VarHandle" ∧ (parseMethodDescriptor yX6_append.desc).map (fun d => d.parameters.length) = some 1 := by decide +kernel
set_option maxHeartbeats 4000000 in
set_option maxRecDepth 100000 in
theorem c_X6_append (l : Launch) (D : va_G) (cy : Nat → ClassId) (h0 : Nat) (a0 : Nat → Nat) (s0 : St) (sz fu : Nat) (p1 : Int32) (out : St) (hf : f_X6_append fu s0 p1 = some out) :
    Met l yX6_append (WS yX6_append cX6_append 3 none) ({ frames := 0, cells := 0, slots := 0, locals := 0 } : Room) (va_Pc [.ref h0, .int p1] (gP D cy sz (w6 cy h0 a0 s0))) ((fun A : Nat → Prop => gQv D cy A (w6 cy h0 a0 out)) (va_A (w6 cy h0 a0 s0) sz)) 0 0 (va_A (w6 cy h0 a0 s0) sz) := by
  refine g_met (cc := cX6_append) (maxL := 3) (ret := none) (fun A : Nat → Prop => gQv D cy A (w6 cy h0 a0 out)) (by decide +kernel) rfl (Nat.le_of_ble_eq_true rfl) ?_
  intro p e s m below meth c A C hA hK hP hD ls hl
  obtain ⟨hx, hb, hr, hml, hown, hts, hlk⟩ := C
  have hown : s.vm.findClass RX6 = some m.cls := hown
  have hS : va_S A s.heap s.heap [] := va_S.rf
  have hl : lv_has ls 3 [(0, .ref h0), (1, .int p1)] := hl
  have hk_15 := hts _ (List.mem_cons_of_mem _ fl_RX6_15)
  have hk_9 := hts _ (List.mem_cons_of_mem _ fl_RX6_9)
  have L_3 : ∀ (n_3 : Nat) (u0 : St) (x1 : Int32) (x2 : Int32), f_X6_append_L3 fu n_3 u0 x1 x2 = some out → ∀ (H : Heap) (locs : List Loc) (ls : Array Slot), va_P D vwCl (w6 cy h0 a0 u0) H → va_D A (w6 cy h0 a0 u0) → va_S A s.heap H locs → lv_has ls 3 [(0, .ref h0), (1, .int x1), (2, .int x2)] → W p l e ({ frames := 0, cells := 0, slots := 0, locals := 0 } : Room) s m ([.ref h0, .int p1] : List Value).toArray below meth c H locs 0 0 (MQ below (gQv D cy A (w6 cy h0 a0 out)) ([.ref h0, .int p1] : List Value).toArray s 0 0 A) (F0 m 3 ls []) := by
    intro n_3
    induction n_3 with
    | zero => intro u0 x1 x2 hf; exact op_no hf
    | succ n_3 ih_3 =>
      intro u0 x1 x2 hf H locs ls hP hD hS hl
      rw [f_X6_append_L3] at hf
      refine lv_iload_n hx hb dX6_append_3 rfl (lv_at hl 2 rfl) ?_
      refine lv_if_lt (tgt := 46) hx hb dX6_append_4 (by decide) (fun c_4 => ?_) (fun c_4 => ?_)
      · have hf := op_pos c_4 hf
        rw [← Option.some.inj hf]
        exact g_vret hx hb hr hlk hK hP hD hS dX6_append_46
      · have hf := op_neg c_4 hf
        refine lv_aload_n hx hb dX6_append_7 rfl (lv_at hl 0 rfl) ?_
        refine va_get (ci := 6) (v := .int (u0.1 1)) (C := RX6) (T := TX6) (N := 2) hx hb hts (fun w h => List.mem_cons_of_mem _ (inX6 w h)) hown hK hP 0 rfl rfl 1 (by decide) hk_15 (fun _ h9 => h9) rfl dX6_append_8 ?_
        refine lv_sipush (v := 1500) hx hb dX6_append_11 (by decide) ?_
        refine lv_icmp_ge (tgt := 46) hx hb dX6_append_14 (by decide) (fun c_14 => ?_) (fun c_14 => ?_)
        · have hf := op_pos c_14 hf
          rw [← Option.some.inj hf]
          exact g_vret hx hb hr hlk hK hP hD hS dX6_append_46
        · have hf := op_neg c_14 hf
          refine lv_aload_n hx hb dX6_append_17 rfl (lv_at hl 0 rfl) ?_
          refine va_get (ci := 6) (v := .ref (a0 0)) (C := RX6) (T := TX6) (N := 2) hx hb hts (fun w h => List.mem_cons_of_mem _ (inX6 w h)) hown hK hP 0 rfl rfl 0 (by decide) hk_9 (fun _ h9 => h9) rfl dX6_append_18 ?_
          refine lv_aload_n hx hb dX6_append_21 rfl (lv_at hl 0 rfl) ?_
          refine va_get (ci := 6) (v := .int (u0.1 1)) (C := RX6) (T := TX6) (N := 2) hx hb hts (fun w h => List.mem_cons_of_mem _ (inX6 w h)) hown hK hP 0 rfl rfl 1 (by decide) hk_15 (fun _ h9 => h9) rfl dX6_append_22 ?_
          refine lv_iload_n hx hb dX6_append_25 rfl (lv_at hl 1 rfl) ?_
          refine lv_iload_n hx hb dX6_append_26 rfl (lv_at hl 2 rfl) ?_
          refine lv_ishr hx hb dX6_append_27 ?_
          refine lv_i2b hx hb dX6_append_28 rfl ?_
          obtain ⟨hg_29, hf⟩ := op_if hf
          refine va_bast (f := u0.2 0) (x := (x1 >>> (x2 &&& 31)).toInt8.toInt32) hx hb hK hP hD hS 1 1 rfl rfl (inb_in hg_29) dX6_append_29 (fun H locs hP hD hS => ?_)
          have hP : va_P D vwCl (w6 cy h0 a0 (sA u0 0 ((u0.1 1).toNatClampNeg) (vp_nar .byte ((x1 >>> (x2 &&& 31)).toInt8.toInt32)))) H := hP
          have hD : va_D A (w6 cy h0 a0 (sA u0 0 ((u0.1 1).toNatClampNeg) (vp_nar .byte ((x1 >>> (x2 &&& 31)).toInt8.toInt32)))) := hD
          refine lv_aload_n hx hb dX6_append_30 rfl (lv_at hl 0 rfl) ?_
          refine lv_dup hx hb dX6_append_31 rfl ?_
          refine va_get (ci := 6) (v := .int (u0.1 1)) (C := RX6) (T := TX6) (N := 2) hx hb hts (fun w h => List.mem_cons_of_mem _ (inX6 w h)) hown hK hP 0 rfl rfl 1 (by decide) hk_15 (fun _ h9 => h9) rfl dX6_append_32 ?_
          refine lv_iconst (v := 1) hx hb dX6_append_35 (by decide) ?_
          refine lv_iadd hx hb dX6_append_36 ?_
          refine va_put (ci := 6) (v := .int ((u0.1 1) + 1)) (ty := tyX6 1) (C := RX6) (T := TX6) (N := 2) hx hb hts (fun w h => List.mem_cons_of_mem _ (inX6 w h)) tyX6 tyX6_ok nmX6 hown hK hP hD hS 0 rfl rfl 1 (by decide) hk_15 (fun _ h9 => h9) rfl (tyX6_ok 1 (by decide)) rfl rfl (Nat.le_of_ble_eq_true rfl) dX6_append_37 (fun H locs hP hD hS => ?_)
          have hP : va_P D vwCl (w6 cy h0 a0 (sF (sA u0 0 ((u0.1 1).toNatClampNeg) (vp_nar .byte ((x1 >>> (x2 &&& 31)).toInt8.toInt32))) 1 ((u0.1 1) + 1))) H := hP
          have hD : va_D A (w6 cy h0 a0 (sF (sA u0 0 ((u0.1 1).toNatClampNeg) (vp_nar .byte ((x1 >>> (x2 &&& 31)).toInt8.toInt32))) 1 ((u0.1 1) + 1))) := hD
          refine lv_iinc (v := x2 + (-8)) (lv' := [(2, .int (x2 + (-8))), (0, .ref h0), (1, .int x1)]) hx hb dX6_append_40 hl (k := 2) rfl rfl (by decide) rfl (fun ls hl => ?_)
          refine lv_goto (tgt := 3) hx hb dX6_append_43 (by decide) ?_
          exact ih_3 (sF (sA u0 0 ((u0.1 1).toNatClampNeg) (vp_nar .byte ((x1 >>> (x2 &&& 31)).toInt8.toInt32))) 1 ((u0.1 1) + 1)) x1 (x2 + (-8)) hf H locs ls hP hD hS (lv_sub hl [1, 2, 0] rfl)
  unfold f_X6_append at hf
  refine lv_bipush (v := 24) hx hb dX6_append_0 (by decide) ?_
  refine lv_istore_n (lv' := [(2, .int 24), (0, .ref h0), (1, .int p1)]) hx hb dX6_append_2 rfl hl (by decide) rfl (fun ls hl => ?_)
  exact L_3 fu s0 p1 24 hf H locs ls hP hD hS (lv_sub hl [1, 2, 0] rfl)
def f_X6_clear (fu : Nat)  (s0 : St)  : Option (St) := some (sF s0 1 0)
theorem hdX6_clear : yX6_clear.cls = RX6 ∧ yX6_clear.cls ≠ "java/lang/invoke/MethodHandle" ∧ yX6_clear.cls ≠ "java/lang/invoke/VarHandle" ∧ (parseMethodDescriptor yX6_clear.desc).map (fun d => d.parameters.length) = some 0 := by decide +kernel
set_option maxHeartbeats 4000000 in
set_option maxRecDepth 100000 in
theorem c_X6_clear (l : Launch) (D : va_G) (cy : Nat → ClassId) (h0 : Nat) (a0 : Nat → Nat) (s0 : St) (sz fu : Nat)  (out : St) (hf : f_X6_clear fu s0 = some out) :
    Met l yX6_clear (WS yX6_clear cX6_clear 1 none) ({ frames := 0, cells := 0, slots := 0, locals := 0 } : Room) (va_Pc [.ref h0] (gP D cy sz (w6 cy h0 a0 s0))) ((fun A : Nat → Prop => gQv D cy A (w6 cy h0 a0 out)) (va_A (w6 cy h0 a0 s0) sz)) 0 0 (va_A (w6 cy h0 a0 s0) sz) := by
  refine g_met (cc := cX6_clear) (maxL := 1) (ret := none) (fun A : Nat → Prop => gQv D cy A (w6 cy h0 a0 out)) (by decide +kernel) rfl (Nat.le_of_ble_eq_true rfl) ?_
  intro p e s m below meth c A C hA hK hP hD ls hl
  obtain ⟨hx, hb, hr, hml, hown, hts, hlk⟩ := C
  have hown : s.vm.findClass RX6 = some m.cls := hown
  have hS : va_S A s.heap s.heap [] := va_S.rf
  have hl : lv_has ls 1 [(0, .ref h0)] := hl
  have hk_15 := hts _ (List.mem_cons_of_mem _ fl_RX6_15)
  unfold f_X6_clear at hf
  refine lv_aload_n hx hb dX6_clear_0 rfl (lv_at hl 0 rfl) ?_
  refine lv_iconst (v := 0) hx hb dX6_clear_1 (by decide) ?_
  refine va_put (ci := 6) (v := .int 0) (ty := tyX6 1) (C := RX6) (T := TX6) (N := 2) hx hb hts (fun w h => List.mem_cons_of_mem _ (inX6 w h)) tyX6 tyX6_ok nmX6 hown hK hP hD hS 0 rfl rfl 1 (by decide) hk_15 (fun _ h9 => h9) rfl (tyX6_ok 1 (by decide)) rfl rfl (Nat.le_of_ble_eq_true rfl) dX6_clear_2 (fun H locs hP hD hS => ?_)
  have hP : va_P D vwCl (w6 cy h0 a0 (sF s0 1 0)) H := hP
  have hD : va_D A (w6 cy h0 a0 (sF s0 1 0)) := hD
  rw [← Option.some.inj hf]
  exact g_vret hx hb hr hlk hK hP hD hS dX6_clear_5
end
