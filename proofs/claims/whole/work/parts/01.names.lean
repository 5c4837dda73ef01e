-- ===== PART A: goes FIRST, ahead of the names: the tables' words, and 'selects' of the private methods out of them =====
/-- a private method of a class that the tables say can be made, by its rows of tables_1 -/
def lw_okq (q : MethodName × Nat) : Prop := (q.1.cls ≠ "java/lang/invoke/MethodHandle" ∧ q.1.cls ≠ "java/lang/invoke/VarHandle") ∧ Cond.instantiable q.1.cls q.2 ∈ tables_1 ∧ Cond.privateMethod q.1 ∈ tables_1 ∧ Cond.instanceMethod q.1 ∈ tables_1
theorem lw_p0 : lw_okq (⟨"ForgottenCrafts$Rules", "clear", "()V"⟩, 7) := ⟨⟨by decide +kernel, by decide +kernel⟩, List.mem_of_getElem? (i := 131) (by decide +kernel), List.mem_of_getElem? (i := 137) (by decide +kernel), List.mem_of_getElem? (i := 138) (by decide +kernel)⟩
theorem lw_p1 : lw_okq (⟨"ForgottenCrafts$Folk", "clear", "()V"⟩, 13) := ⟨⟨by decide +kernel, by decide +kernel⟩, List.mem_of_getElem? (i := 175) (by decide +kernel), List.mem_of_getElem? (i := 183) (by decide +kernel), List.mem_of_getElem? (i := 184) (by decide +kernel)⟩
theorem lw_p2 : lw_okq (⟨"ForgottenCrafts$Folk", "empty", "(I)V"⟩, 13) := ⟨⟨by decide +kernel, by decide +kernel⟩, List.mem_of_getElem? (i := 175) (by decide +kernel), List.mem_of_getElem? (i := 187) (by decide +kernel), List.mem_of_getElem? (i := 188) (by decide +kernel)⟩
theorem lw_p3 : lw_okq (⟨"ForgottenCrafts$Row", "put", "(II)V"⟩, 1) := ⟨⟨by decide +kernel, by decide +kernel⟩, List.mem_of_getElem? (i := 34) (by decide +kernel), List.mem_of_getElem? (i := 194) (by decide +kernel), List.mem_of_getElem? (i := 195) (by decide +kernel)⟩
theorem lw_p4 : lw_okq (⟨"ForgottenCrafts$Reader", "append", "(I)V"⟩, 7) := ⟨⟨by decide +kernel, by decide +kernel⟩, List.mem_of_getElem? (i := 28) (by decide +kernel), List.mem_of_getElem? (i := 492) (by decide +kernel), List.mem_of_getElem? (i := 493) (by decide +kernel)⟩
theorem lw_p5 : lw_okq (⟨"ForgottenCrafts$Reader", "open", "()V"⟩, 7) := ⟨⟨by decide +kernel, by decide +kernel⟩, List.mem_of_getElem? (i := 28) (by decide +kernel), List.mem_of_getElem? (i := 501) (by decide +kernel), List.mem_of_getElem? (i := 502) (by decide +kernel)⟩
theorem lw_p6 : lw_okq (⟨"ForgottenCrafts$Reader", "advance", "()V"⟩, 7) := ⟨⟨by decide +kernel, by decide +kernel⟩, List.mem_of_getElem? (i := 28) (by decide +kernel), List.mem_of_getElem? (i := 505) (by decide +kernel), List.mem_of_getElem? (i := 506) (by decide +kernel)⟩
theorem lw_p7 : lw_okq (⟨"ForgottenCrafts$Row", "at", "(I)I"⟩, 1) := ⟨⟨by decide +kernel, by decide +kernel⟩, List.mem_of_getElem? (i := 34) (by decide +kernel), List.mem_of_getElem? (i := 509) (by decide +kernel), List.mem_of_getElem? (i := 510) (by decide +kernel)⟩
theorem lw_p8 : lw_okq (⟨"ForgottenCrafts$TownTeller", "tellAll", "()V"⟩, 5) := ⟨⟨by decide +kernel, by decide +kernel⟩, List.mem_of_getElem? (i := 314) (by decide +kernel), List.mem_of_getElem? (i := 516) (by decide +kernel), List.mem_of_getElem? (i := 517) (by decide +kernel)⟩
theorem lw_p9 : lw_okq (⟨"ForgottenCrafts$Crafts", "clear", "()V"⟩, 7) := ⟨⟨by decide +kernel, by decide +kernel⟩, List.mem_of_getElem? (i := 77) (by decide +kernel), List.mem_of_getElem? (i := 520) (by decide +kernel), List.mem_of_getElem? (i := 521) (by decide +kernel)⟩
theorem lw_p10 : lw_okq (⟨"ForgottenCrafts$Row", "fill", "(I)V"⟩, 1) := ⟨⟨by decide +kernel, by decide +kernel⟩, List.mem_of_getElem? (i := 34) (by decide +kernel), List.mem_of_getElem? (i := 524) (by decide +kernel), List.mem_of_getElem? (i := 525) (by decide +kernel)⟩
theorem lw_p11 : lw_okq (⟨"ForgottenCrafts$Reader", "isSound", "()Z"⟩, 7) := ⟨⟨by decide +kernel, by decide +kernel⟩, List.mem_of_getElem? (i := 28) (by decide +kernel), List.mem_of_getElem? (i := 529) (by decide +kernel), List.mem_of_getElem? (i := 530) (by decide +kernel)⟩
theorem lw_p12 : lw_okq (⟨"ForgottenCrafts$Reader", "sees", "(Ljava/lang/String;)Z"⟩, 7) := ⟨⟨by decide +kernel, by decide +kernel⟩, List.mem_of_getElem? (i := 28) (by decide +kernel), List.mem_of_getElem? (i := 534) (by decide +kernel), List.mem_of_getElem? (i := 535) (by decide +kernel)⟩
theorem lw_p13 : lw_okq (⟨"ForgottenCrafts$TownTeller", "tellTrade", "()V"⟩, 5) := ⟨⟨by decide +kernel, by decide +kernel⟩, List.mem_of_getElem? (i := 314) (by decide +kernel), List.mem_of_getElem? (i := 586) (by decide +kernel), List.mem_of_getElem? (i := 587) (by decide +kernel)⟩
theorem lw_p14 : lw_okq (⟨"ForgottenCrafts$TownTeller", "openClause", "(Z)V"⟩, 5) := ⟨⟨by decide +kernel, by decide +kernel⟩, List.mem_of_getElem? (i := 314) (by decide +kernel), List.mem_of_getElem? (i := 590) (by decide +kernel), List.mem_of_getElem? (i := 591) (by decide +kernel)⟩
theorem lw_p15 : lw_okq (⟨"ForgottenCrafts$Reader", "blame", "(II)V"⟩, 7) := ⟨⟨by decide +kernel, by decide +kernel⟩, List.mem_of_getElem? (i := 28) (by decide +kernel), List.mem_of_getElem? (i := 594) (by decide +kernel), List.mem_of_getElem? (i := 595) (by decide +kernel)⟩
def lw_privs_1 : List (MethodName × Nat) := [(⟨"ForgottenCrafts$Rules", "clear", "()V"⟩, 7), (⟨"ForgottenCrafts$Folk", "clear", "()V"⟩, 13), (⟨"ForgottenCrafts$Folk", "empty", "(I)V"⟩, 13), (⟨"ForgottenCrafts$Row", "put", "(II)V"⟩, 1), (⟨"ForgottenCrafts$Reader", "append", "(I)V"⟩, 7), (⟨"ForgottenCrafts$Reader", "open", "()V"⟩, 7), (⟨"ForgottenCrafts$Reader", "advance", "()V"⟩, 7), (⟨"ForgottenCrafts$Row", "at", "(I)I"⟩, 1), (⟨"ForgottenCrafts$TownTeller", "tellAll", "()V"⟩, 5), (⟨"ForgottenCrafts$Crafts", "clear", "()V"⟩, 7), (⟨"ForgottenCrafts$Row", "fill", "(I)V"⟩, 1), (⟨"ForgottenCrafts$Reader", "isSound", "()Z"⟩, 7), (⟨"ForgottenCrafts$Reader", "sees", "(Ljava/lang/String;)Z"⟩, 7), (⟨"ForgottenCrafts$TownTeller", "tellTrade", "()V"⟩, 5), (⟨"ForgottenCrafts$TownTeller", "openClause", "(Z)V"⟩, 5), (⟨"ForgottenCrafts$Reader", "blame", "(II)V"⟩, 7)]
theorem lw_r1 : ∀ q ∈ lw_privs_1, lw_okq q := List.forall_mem_cons.mpr ⟨lw_p0, List.forall_mem_cons.mpr ⟨lw_p1, List.forall_mem_cons.mpr ⟨lw_p2, List.forall_mem_cons.mpr ⟨lw_p3, List.forall_mem_cons.mpr ⟨lw_p4, List.forall_mem_cons.mpr ⟨lw_p5, List.forall_mem_cons.mpr ⟨lw_p6, List.forall_mem_cons.mpr ⟨lw_p7, List.forall_mem_cons.mpr ⟨lw_p8, List.forall_mem_cons.mpr ⟨lw_p9, List.forall_mem_cons.mpr ⟨lw_p10, List.forall_mem_cons.mpr ⟨lw_p11, List.forall_mem_cons.mpr ⟨lw_p12, List.forall_mem_cons.mpr ⟨lw_p13, List.forall_mem_cons.mpr ⟨lw_p14, List.forall_mem_cons.mpr ⟨lw_p15, fun _ h => absurd h List.not_mem_nil⟩⟩⟩⟩⟩⟩⟩⟩⟩⟩⟩⟩⟩⟩⟩⟩
theorem lw_p16 : lw_okq (⟨"ForgottenCrafts$TownTeller", "kindHere", "()I"⟩, 5) := ⟨⟨by decide +kernel, by decide +kernel⟩, List.mem_of_getElem? (i := 314) (by decide +kernel), List.mem_of_getElem? (i := 599) (by decide +kernel), List.mem_of_getElem? (i := 600) (by decide +kernel)⟩
theorem lw_p17 : lw_okq (⟨"ForgottenCrafts$Reader", "number", "(II)I"⟩, 7) := ⟨⟨by decide +kernel, by decide +kernel⟩, List.mem_of_getElem? (i := 28) (by decide +kernel), List.mem_of_getElem? (i := 608) (by decide +kernel), List.mem_of_getElem? (i := 609) (by decide +kernel)⟩
theorem lw_p18 : lw_okq (⟨"ForgottenCrafts$Reader", "figures", "()I"⟩, 7) := ⟨⟨by decide +kernel, by decide +kernel⟩, List.mem_of_getElem? (i := 28) (by decide +kernel), List.mem_of_getElem? (i := 613) (by decide +kernel), List.mem_of_getElem? (i := 614) (by decide +kernel)⟩
theorem lw_p19 : lw_okq (⟨"ForgottenCrafts$TownTeller", "tellPerson", "()V"⟩, 5) := ⟨⟨by decide +kernel, by decide +kernel⟩, List.mem_of_getElem? (i := 314) (by decide +kernel), List.mem_of_getElem? (i := 621) (by decide +kernel), List.mem_of_getElem? (i := 622) (by decide +kernel)⟩
theorem lw_p20 : lw_okq (⟨"ForgottenCrafts$TownTeller", "tellSkill", "(I)V"⟩, 5) := ⟨⟨by decide +kernel, by decide +kernel⟩, List.mem_of_getElem? (i := 314) (by decide +kernel), List.mem_of_getElem? (i := 625) (by decide +kernel), List.mem_of_getElem? (i := 626) (by decide +kernel)⟩
theorem lw_p21 : lw_okq (⟨"ForgottenCrafts$Folk", "knows", "(II)Z"⟩, 13) := ⟨⟨by decide +kernel, by decide +kernel⟩, List.mem_of_getElem? (i := 175) (by decide +kernel), List.mem_of_getElem? (i := 629) (by decide +kernel), List.mem_of_getElem? (i := 630) (by decide +kernel)⟩
theorem lw_p22 : lw_okq (⟨"ForgottenCrafts$Folk", "setSkill", "(III)V"⟩, 13) := ⟨⟨by decide +kernel, by decide +kernel⟩, List.mem_of_getElem? (i := 175) (by decide +kernel), List.mem_of_getElem? (i := 634) (by decide +kernel), List.mem_of_getElem? (i := 635) (by decide +kernel)⟩
theorem lw_p23 : lw_okq (⟨"ForgottenCrafts$Folk", "bestOf", "(I)I"⟩, 13) := ⟨⟨by decide +kernel, by decide +kernel⟩, List.mem_of_getElem? (i := 175) (by decide +kernel), List.mem_of_getElem? (i := 638) (by decide +kernel), List.mem_of_getElem? (i := 639) (by decide +kernel)⟩
theorem lw_p24 : lw_okq (⟨"ForgottenCrafts$Folk", "skillOf", "(II)I"⟩, 13) := ⟨⟨by decide +kernel, by decide +kernel⟩, List.mem_of_getElem? (i := 175) (by decide +kernel), List.mem_of_getElem? (i := 642) (by decide +kernel), List.mem_of_getElem? (i := 643) (by decide +kernel)⟩
theorem lw_p25 : lw_okq (⟨"ForgottenCrafts$TownTeller", "tellLike", "()V"⟩, 5) := ⟨⟨by decide +kernel, by decide +kernel⟩, List.mem_of_getElem? (i := 314) (by decide +kernel), List.mem_of_getElem? (i := 647) (by decide +kernel), List.mem_of_getElem? (i := 648) (by decide +kernel)⟩
theorem lw_p26 : lw_okq (⟨"ForgottenCrafts$Reader", "closeClause", "()V"⟩, 7) := ⟨⟨by decide +kernel, by decide +kernel⟩, List.mem_of_getElem? (i := 28) (by decide +kernel), List.mem_of_getElem? (i := 653) (by decide +kernel), List.mem_of_getElem? (i := 654) (by decide +kernel)⟩
theorem lw_p27 : lw_okq (⟨"ForgottenCrafts$Reader", "clear", "()V"⟩, 7) := ⟨⟨by decide +kernel, by decide +kernel⟩, List.mem_of_getElem? (i := 28) (by decide +kernel), List.mem_of_getElem? (i := 657) (by decide +kernel), List.mem_of_getElem? (i := 658) (by decide +kernel)⟩
theorem lw_p28 : lw_okq (⟨"ForgottenCrafts$Crafts", "copyFrom", "(LForgottenCrafts$Crafts;)V"⟩, 7) := ⟨⟨by decide +kernel, by decide +kernel⟩, List.mem_of_getElem? (i := 77) (by decide +kernel), List.mem_of_getElem? (i := 662) (by decide +kernel), List.mem_of_getElem? (i := 663) (by decide +kernel)⟩
theorem lw_p29 : lw_okq (⟨"ForgottenCrafts$Row", "copyFrom", "(LForgottenCrafts$Row;)V"⟩, 1) := ⟨⟨by decide +kernel, by decide +kernel⟩, List.mem_of_getElem? (i := 34) (by decide +kernel), List.mem_of_getElem? (i := 666) (by decide +kernel), List.mem_of_getElem? (i := 667) (by decide +kernel)⟩
theorem lw_p30 : lw_okq (⟨"ForgottenCrafts$Folk", "copyFrom", "(LForgottenCrafts$Folk;)V"⟩, 13) := ⟨⟨by decide +kernel, by decide +kernel⟩, List.mem_of_getElem? (i := 175) (by decide +kernel), List.mem_of_getElem? (i := 670) (by decide +kernel), List.mem_of_getElem? (i := 671) (by decide +kernel)⟩
theorem lw_p31 : lw_okq (⟨"ForgottenCrafts", "startAnew", "()V"⟩, 20) := ⟨⟨by decide +kernel, by decide +kernel⟩, List.mem_of_getElem? (i := 20) (by decide +kernel), List.mem_of_getElem? (i := 675) (by decide +kernel), List.mem_of_getElem? (i := 676) (by decide +kernel)⟩
def lw_privs_2 : List (MethodName × Nat) := [(⟨"ForgottenCrafts$TownTeller", "kindHere", "()I"⟩, 5), (⟨"ForgottenCrafts$Reader", "number", "(II)I"⟩, 7), (⟨"ForgottenCrafts$Reader", "figures", "()I"⟩, 7), (⟨"ForgottenCrafts$TownTeller", "tellPerson", "()V"⟩, 5), (⟨"ForgottenCrafts$TownTeller", "tellSkill", "(I)V"⟩, 5), (⟨"ForgottenCrafts$Folk", "knows", "(II)Z"⟩, 13), (⟨"ForgottenCrafts$Folk", "setSkill", "(III)V"⟩, 13), (⟨"ForgottenCrafts$Folk", "bestOf", "(I)I"⟩, 13), (⟨"ForgottenCrafts$Folk", "skillOf", "(II)I"⟩, 13), (⟨"ForgottenCrafts$TownTeller", "tellLike", "()V"⟩, 5), (⟨"ForgottenCrafts$Reader", "closeClause", "()V"⟩, 7), (⟨"ForgottenCrafts$Reader", "clear", "()V"⟩, 7), (⟨"ForgottenCrafts$Crafts", "copyFrom", "(LForgottenCrafts$Crafts;)V"⟩, 7), (⟨"ForgottenCrafts$Row", "copyFrom", "(LForgottenCrafts$Row;)V"⟩, 1), (⟨"ForgottenCrafts$Folk", "copyFrom", "(LForgottenCrafts$Folk;)V"⟩, 13), (⟨"ForgottenCrafts", "startAnew", "()V"⟩, 20)]
theorem lw_r2 : ∀ q ∈ lw_privs_2, lw_okq q := List.forall_mem_cons.mpr ⟨lw_p16, List.forall_mem_cons.mpr ⟨lw_p17, List.forall_mem_cons.mpr ⟨lw_p18, List.forall_mem_cons.mpr ⟨lw_p19, List.forall_mem_cons.mpr ⟨lw_p20, List.forall_mem_cons.mpr ⟨lw_p21, List.forall_mem_cons.mpr ⟨lw_p22, List.forall_mem_cons.mpr ⟨lw_p23, List.forall_mem_cons.mpr ⟨lw_p24, List.forall_mem_cons.mpr ⟨lw_p25, List.forall_mem_cons.mpr ⟨lw_p26, List.forall_mem_cons.mpr ⟨lw_p27, List.forall_mem_cons.mpr ⟨lw_p28, List.forall_mem_cons.mpr ⟨lw_p29, List.forall_mem_cons.mpr ⟨lw_p30, List.forall_mem_cons.mpr ⟨lw_p31, fun _ h => absurd h List.not_mem_nil⟩⟩⟩⟩⟩⟩⟩⟩⟩⟩⟩⟩⟩⟩⟩⟩
theorem lw_p32 : lw_okq (⟨"ForgottenCrafts$Shelf", "clear", "()V"⟩, 11) := ⟨⟨by decide +kernel, by decide +kernel⟩, List.mem_of_getElem? (i := 267) (by decide +kernel), List.mem_of_getElem? (i := 680) (by decide +kernel), List.mem_of_getElem? (i := 681) (by decide +kernel)⟩
theorem lw_p33 : lw_okq (⟨"ForgottenCrafts$Rules", "readFrom", "(LForgottenCrafts$Reader;)I"⟩, 7) := ⟨⟨by decide +kernel, by decide +kernel⟩, List.mem_of_getElem? (i := 131) (by decide +kernel), List.mem_of_getElem? (i := 690) (by decide +kernel), List.mem_of_getElem? (i := 691) (by decide +kernel)⟩
theorem lw_p34 : lw_okq (⟨"ForgottenCrafts$Rules", "readClause", "(LForgottenCrafts$Reader;)V"⟩, 7) := ⟨⟨by decide +kernel, by decide +kernel⟩, List.mem_of_getElem? (i := 131) (by decide +kernel), List.mem_of_getElem? (i := 695) (by decide +kernel), List.mem_of_getElem? (i := 696) (by decide +kernel)⟩
theorem lw_p35 : lw_okq (⟨"ForgottenCrafts$Rules", "opens", "(LForgottenCrafts$Reader;Ljava/lang/String;I)Z"⟩, 7) := ⟨⟨by decide +kernel, by decide +kernel⟩, List.mem_of_getElem? (i := 131) (by decide +kernel), List.mem_of_getElem? (i := 700) (by decide +kernel), List.mem_of_getElem? (i := 701) (by decide +kernel)⟩
theorem lw_p36 : lw_okq (⟨"ForgottenCrafts$Rules", "copyFrom", "(LForgottenCrafts$Rules;)V"⟩, 7) := ⟨⟨by decide +kernel, by decide +kernel⟩, List.mem_of_getElem? (i := 131) (by decide +kernel), List.mem_of_getElem? (i := 720) (by decide +kernel), List.mem_of_getElem? (i := 721) (by decide +kernel)⟩
theorem lw_p37 : lw_okq (⟨"ForgottenCrafts$Life", "deadTrades", "()I"⟩, 3) := ⟨⟨by decide +kernel, by decide +kernel⟩, List.mem_of_getElem? (i := 336) (by decide +kernel), List.mem_of_getElem? (i := 732) (by decide +kernel), List.mem_of_getElem? (i := 733) (by decide +kernel)⟩
theorem lw_p38 : lw_okq (⟨"ForgottenCrafts$Folk", "withSkill", "(II)I"⟩, 13) := ⟨⟨by decide +kernel, by decide +kernel⟩, List.mem_of_getElem? (i := 175) (by decide +kernel), List.mem_of_getElem? (i := 736) (by decide +kernel), List.mem_of_getElem? (i := 737) (by decide +kernel)⟩
theorem lw_p39 : lw_okq (⟨"ForgottenCrafts$Crafts", "hasTrade", "(I)Z"⟩, 7) := ⟨⟨by decide +kernel, by decide +kernel⟩, List.mem_of_getElem? (i := 77) (by decide +kernel), List.mem_of_getElem? (i := 744) (by decide +kernel), List.mem_of_getElem? (i := 745) (by decide +kernel)⟩
theorem lw_p40 : lw_okq (⟨"ForgottenCrafts$Crafts", "hasPerson", "(I)Z"⟩, 7) := ⟨⟨by decide +kernel, by decide +kernel⟩, List.mem_of_getElem? (i := 77) (by decide +kernel), List.mem_of_getElem? (i := 755) (by decide +kernel), List.mem_of_getElem? (i := 756) (by decide +kernel)⟩
theorem lw_p41 : lw_okq (⟨"ForgottenCrafts$Folk", "knownBy", "(I)I"⟩, 13) := ⟨⟨by decide +kernel, by decide +kernel⟩, List.mem_of_getElem? (i := 175) (by decide +kernel), List.mem_of_getElem? (i := 759) (by decide +kernel), List.mem_of_getElem? (i := 760) (by decide +kernel)⟩
theorem lw_p42 : lw_okq (⟨"ForgottenCrafts", "isKnownPair", "(II)Z"⟩, 20) := ⟨⟨by decide +kernel, by decide +kernel⟩, List.mem_of_getElem? (i := 20) (by decide +kernel), List.mem_of_getElem? (i := 770) (by decide +kernel), List.mem_of_getElem? (i := 771) (by decide +kernel)⟩
theorem lw_p43 : lw_okq (⟨"ForgottenCrafts$Crafts", "likeOf", "(II)I"⟩, 7) := ⟨⟨by decide +kernel, by decide +kernel⟩, List.mem_of_getElem? (i := 77) (by decide +kernel), List.mem_of_getElem? (i := 779) (by decide +kernel), List.mem_of_getElem? (i := 780) (by decide +kernel)⟩
theorem lw_p44 : lw_okq (⟨"ForgottenCrafts$Life", "beginChange", "(IIII)I"⟩, 3) := ⟨⟨by decide +kernel, by decide +kernel⟩, List.mem_of_getElem? (i := 336) (by decide +kernel), List.mem_of_getElem? (i := 789) (by decide +kernel), List.mem_of_getElem? (i := 790) (by decide +kernel)⟩
theorem lw_p45 : lw_okq (⟨"ForgottenCrafts$Life", "mayLearn", "(II)Z"⟩, 3) := ⟨⟨by decide +kernel, by decide +kernel⟩, List.mem_of_getElem? (i := 336) (by decide +kernel), List.mem_of_getElem? (i := 793) (by decide +kernel), List.mem_of_getElem? (i := 794) (by decide +kernel)⟩
theorem lw_p46 : lw_okq (⟨"ForgottenCrafts$Folk", "lives", "(I)Z"⟩, 13) := ⟨⟨by decide +kernel, by decide +kernel⟩, List.mem_of_getElem? (i := 175) (by decide +kernel), List.mem_of_getElem? (i := 797) (by decide +kernel), List.mem_of_getElem? (i := 798) (by decide +kernel)⟩
theorem lw_p47 : lw_okq (⟨"ForgottenCrafts$Crafts", "isForbidden", "(I)Z"⟩, 7) := ⟨⟨by decide +kernel, by decide +kernel⟩, List.mem_of_getElem? (i := 77) (by decide +kernel), List.mem_of_getElem? (i := 804) (by decide +kernel), List.mem_of_getElem? (i := 805) (by decide +kernel)⟩
def lw_privs_3 : List (MethodName × Nat) := [(⟨"ForgottenCrafts$Shelf", "clear", "()V"⟩, 11), (⟨"ForgottenCrafts$Rules", "readFrom", "(LForgottenCrafts$Reader;)I"⟩, 7), (⟨"ForgottenCrafts$Rules", "readClause", "(LForgottenCrafts$Reader;)V"⟩, 7), (⟨"ForgottenCrafts$Rules", "opens", "(LForgottenCrafts$Reader;Ljava/lang/String;I)Z"⟩, 7), (⟨"ForgottenCrafts$Rules", "copyFrom", "(LForgottenCrafts$Rules;)V"⟩, 7), (⟨"ForgottenCrafts$Life", "deadTrades", "()I"⟩, 3), (⟨"ForgottenCrafts$Folk", "withSkill", "(II)I"⟩, 13), (⟨"ForgottenCrafts$Crafts", "hasTrade", "(I)Z"⟩, 7), (⟨"ForgottenCrafts$Crafts", "hasPerson", "(I)Z"⟩, 7), (⟨"ForgottenCrafts$Folk", "knownBy", "(I)I"⟩, 13), (⟨"ForgottenCrafts", "isKnownPair", "(II)Z"⟩, 20), (⟨"ForgottenCrafts$Crafts", "likeOf", "(II)I"⟩, 7), (⟨"ForgottenCrafts$Life", "beginChange", "(IIII)I"⟩, 3), (⟨"ForgottenCrafts$Life", "mayLearn", "(II)Z"⟩, 3), (⟨"ForgottenCrafts$Folk", "lives", "(I)Z"⟩, 13), (⟨"ForgottenCrafts$Crafts", "isForbidden", "(I)Z"⟩, 7)]
theorem lw_r3 : ∀ q ∈ lw_privs_3, lw_okq q := List.forall_mem_cons.mpr ⟨lw_p32, List.forall_mem_cons.mpr ⟨lw_p33, List.forall_mem_cons.mpr ⟨lw_p34, List.forall_mem_cons.mpr ⟨lw_p35, List.forall_mem_cons.mpr ⟨lw_p36, List.forall_mem_cons.mpr ⟨lw_p37, List.forall_mem_cons.mpr ⟨lw_p38, List.forall_mem_cons.mpr ⟨lw_p39, List.forall_mem_cons.mpr ⟨lw_p40, List.forall_mem_cons.mpr ⟨lw_p41, List.forall_mem_cons.mpr ⟨lw_p42, List.forall_mem_cons.mpr ⟨lw_p43, List.forall_mem_cons.mpr ⟨lw_p44, List.forall_mem_cons.mpr ⟨lw_p45, List.forall_mem_cons.mpr ⟨lw_p46, List.forall_mem_cons.mpr ⟨lw_p47, fun _ h => absurd h List.not_mem_nil⟩⟩⟩⟩⟩⟩⟩⟩⟩⟩⟩⟩⟩⟩⟩⟩
theorem lw_p48 : lw_okq (⟨"ForgottenCrafts$Life", "hasRoom", "(I)Z"⟩, 3) := ⟨⟨by decide +kernel, by decide +kernel⟩, List.mem_of_getElem? (i := 336) (by decide +kernel), List.mem_of_getElem? (i := 809) (by decide +kernel), List.mem_of_getElem? (i := 810) (by decide +kernel)⟩
theorem lw_p49 : lw_okq (⟨"ForgottenCrafts$Life", "startLearning", "(II)V"⟩, 3) := ⟨⟨by decide +kernel, by decide +kernel⟩, List.mem_of_getElem? (i := 336) (by decide +kernel), List.mem_of_getElem? (i := 815) (by decide +kernel), List.mem_of_getElem? (i := 816) (by decide +kernel)⟩
theorem lw_p50 : lw_okq (⟨"ForgottenCrafts$Life", "mayGiveUp", "(III)Z"⟩, 3) := ⟨⟨by decide +kernel, by decide +kernel⟩, List.mem_of_getElem? (i := 336) (by decide +kernel), List.mem_of_getElem? (i := 820) (by decide +kernel), List.mem_of_getElem? (i := 821) (by decide +kernel)⟩
theorem lw_p51 : lw_okq (⟨"ForgottenCrafts$Life", "mayLend", "(II)Z"⟩, 3) := ⟨⟨by decide +kernel, by decide +kernel⟩, List.mem_of_getElem? (i := 336) (by decide +kernel), List.mem_of_getElem? (i := 824) (by decide +kernel), List.mem_of_getElem? (i := 825) (by decide +kernel)⟩
theorem lw_p52 : lw_okq (⟨"ForgottenCrafts$Life", "witnessesFor", "(II)I"⟩, 3) := ⟨⟨by decide +kernel, by decide +kernel⟩, List.mem_of_getElem? (i := 336) (by decide +kernel), List.mem_of_getElem? (i := 828) (by decide +kernel), List.mem_of_getElem? (i := 829) (by decide +kernel)⟩
theorem lw_p53 : lw_okq (⟨"ForgottenCrafts$Life", "workByNight", "(II)Z"⟩, 3) := ⟨⟨by decide +kernel, by decide +kernel⟩, List.mem_of_getElem? (i := 336) (by decide +kernel), List.mem_of_getElem? (i := 843) (by decide +kernel), List.mem_of_getElem? (i := 844) (by decide +kernel)⟩
theorem lw_p54 : lw_okq (⟨"ForgottenCrafts$Folk", "draw", "(I)I"⟩, 13) := ⟨⟨by decide +kernel, by decide +kernel⟩, List.mem_of_getElem? (i := 175) (by decide +kernel), List.mem_of_getElem? (i := 852) (by decide +kernel), List.mem_of_getElem? (i := 853) (by decide +kernel)⟩
theorem lw_p55 : lw_okq (⟨"ForgottenCrafts$Life", "passYear", "()V"⟩, 3) := ⟨⟨by decide +kernel, by decide +kernel⟩, List.mem_of_getElem? (i := 336) (by decide +kernel), List.mem_of_getElem? (i := 864) (by decide +kernel), List.mem_of_getElem? (i := 865) (by decide +kernel)⟩
theorem lw_p56 : lw_okq (⟨"ForgottenCrafts$Life", "passYearOf", "(I)V"⟩, 3) := ⟨⟨by decide +kernel, by decide +kernel⟩, List.mem_of_getElem? (i := 336) (by decide +kernel), List.mem_of_getElem? (i := 868) (by decide +kernel), List.mem_of_getElem? (i := 869) (by decide +kernel)⟩
theorem lw_p57 : lw_okq (⟨"ForgottenCrafts$Life", "fade", "(II)V"⟩, 3) := ⟨⟨by decide +kernel, by decide +kernel⟩, List.mem_of_getElem? (i := 336) (by decide +kernel), List.mem_of_getElem? (i := 872) (by decide +kernel), List.mem_of_getElem? (i := 873) (by decide +kernel)⟩
theorem lw_p58 : lw_okq (⟨"ForgottenCrafts$Life", "learnOn", "(II)V"⟩, 3) := ⟨⟨by decide +kernel, by decide +kernel⟩, List.mem_of_getElem? (i := 336) (by decide +kernel), List.mem_of_getElem? (i := 878) (by decide +kernel), List.mem_of_getElem? (i := 879) (by decide +kernel)⟩
theorem lw_p59 : lw_okq (⟨"ForgottenCrafts$Life", "leaveAside", "(II)V"⟩, 3) := ⟨⟨by decide +kernel, by decide +kernel⟩, List.mem_of_getElem? (i := 336) (by decide +kernel), List.mem_of_getElem? (i := 882) (by decide +kernel), List.mem_of_getElem? (i := 883) (by decide +kernel)⟩
theorem lw_p60 : lw_okq (⟨"ForgottenCrafts$Life", "isBackDue", "(II)Z"⟩, 3) := ⟨⟨by decide +kernel, by decide +kernel⟩, List.mem_of_getElem? (i := 336) (by decide +kernel), List.mem_of_getElem? (i := 886) (by decide +kernel), List.mem_of_getElem? (i := 887) (by decide +kernel)⟩
theorem lw_p61 : lw_okq (⟨"ForgottenCrafts$Life", "passDrawnYears", "(II)V"⟩, 3) := ⟨⟨by decide +kernel, by decide +kernel⟩, List.mem_of_getElem? (i := 336) (by decide +kernel), List.mem_of_getElem? (i := 896) (by decide +kernel), List.mem_of_getElem? (i := 897) (by decide +kernel)⟩
theorem lw_p62 : lw_okq (⟨"ForgottenCrafts$Life", "tryDrawnChange", "(I)V"⟩, 3) := ⟨⟨by decide +kernel, by decide +kernel⟩, List.mem_of_getElem? (i := 336) (by decide +kernel), List.mem_of_getElem? (i := 900) (by decide +kernel), List.mem_of_getElem? (i := 901) (by decide +kernel)⟩
theorem lw_p63 : lw_okq (⟨"ForgottenCrafts$Life", "leastLiked", "(I)I"⟩, 3) := ⟨⟨by decide +kernel, by decide +kernel⟩, List.mem_of_getElem? (i := 336) (by decide +kernel), List.mem_of_getElem? (i := 904) (by decide +kernel), List.mem_of_getElem? (i := 905) (by decide +kernel)⟩
def lw_privs_4 : List (MethodName × Nat) := [(⟨"ForgottenCrafts$Life", "hasRoom", "(I)Z"⟩, 3), (⟨"ForgottenCrafts$Life", "startLearning", "(II)V"⟩, 3), (⟨"ForgottenCrafts$Life", "mayGiveUp", "(III)Z"⟩, 3), (⟨"ForgottenCrafts$Life", "mayLend", "(II)Z"⟩, 3), (⟨"ForgottenCrafts$Life", "witnessesFor", "(II)I"⟩, 3), (⟨"ForgottenCrafts$Life", "workByNight", "(II)Z"⟩, 3), (⟨"ForgottenCrafts$Folk", "draw", "(I)I"⟩, 13), (⟨"ForgottenCrafts$Life", "passYear", "()V"⟩, 3), (⟨"ForgottenCrafts$Life", "passYearOf", "(I)V"⟩, 3), (⟨"ForgottenCrafts$Life", "fade", "(II)V"⟩, 3), (⟨"ForgottenCrafts$Life", "learnOn", "(II)V"⟩, 3), (⟨"ForgottenCrafts$Life", "leaveAside", "(II)V"⟩, 3), (⟨"ForgottenCrafts$Life", "isBackDue", "(II)Z"⟩, 3), (⟨"ForgottenCrafts$Life", "passDrawnYears", "(II)V"⟩, 3), (⟨"ForgottenCrafts$Life", "tryDrawnChange", "(I)V"⟩, 3), (⟨"ForgottenCrafts$Life", "leastLiked", "(I)I"⟩, 3)]
theorem lw_r4 : ∀ q ∈ lw_privs_4, lw_okq q := List.forall_mem_cons.mpr ⟨lw_p48, List.forall_mem_cons.mpr ⟨lw_p49, List.forall_mem_cons.mpr ⟨lw_p50, List.forall_mem_cons.mpr ⟨lw_p51, List.forall_mem_cons.mpr ⟨lw_p52, List.forall_mem_cons.mpr ⟨lw_p53, List.forall_mem_cons.mpr ⟨lw_p54, List.forall_mem_cons.mpr ⟨lw_p55, List.forall_mem_cons.mpr ⟨lw_p56, List.forall_mem_cons.mpr ⟨lw_p57, List.forall_mem_cons.mpr ⟨lw_p58, List.forall_mem_cons.mpr ⟨lw_p59, List.forall_mem_cons.mpr ⟨lw_p60, List.forall_mem_cons.mpr ⟨lw_p61, List.forall_mem_cons.mpr ⟨lw_p62, List.forall_mem_cons.mpr ⟨lw_p63, fun _ h => absurd h List.not_mem_nil⟩⟩⟩⟩⟩⟩⟩⟩⟩⟩⟩⟩⟩⟩⟩⟩
theorem lw_p64 : lw_okq (⟨"ForgottenCrafts$Life", "bearChildren", "(I)V"⟩, 3) := ⟨⟨by decide +kernel, by decide +kernel⟩, List.mem_of_getElem? (i := 336) (by decide +kernel), List.mem_of_getElem? (i := 911) (by decide +kernel), List.mem_of_getElem? (i := 912) (by decide +kernel)⟩
theorem lw_p65 : lw_okq (⟨"ForgottenCrafts$Life", "bearChild", "(I)V"⟩, 3) := ⟨⟨by decide +kernel, by decide +kernel⟩, List.mem_of_getElem? (i := 336) (by decide +kernel), List.mem_of_getElem? (i := 915) (by decide +kernel), List.mem_of_getElem? (i := 916) (by decide +kernel)⟩
theorem lw_p66 : lw_okq (⟨"ForgottenCrafts$Plan", "solve", "()I"⟩, 8) := ⟨⟨by decide +kernel, by decide +kernel⟩, List.mem_of_getElem? (i := 354) (by decide +kernel), List.mem_of_getElem? (i := 936) (by decide +kernel), List.mem_of_getElem? (i := 937) (by decide +kernel)⟩
theorem lw_p67 : lw_okq (⟨"ForgottenCrafts$Plan", "wantedInAll", "()I"⟩, 8) := ⟨⟨by decide +kernel, by decide +kernel⟩, List.mem_of_getElem? (i := 354) (by decide +kernel), List.mem_of_getElem? (i := 941) (by decide +kernel), List.mem_of_getElem? (i := 942) (by decide +kernel)⟩
theorem lw_p68 : lw_okq (⟨"ForgottenCrafts$Plan", "countStates", "()V"⟩, 8) := ⟨⟨by decide +kernel, by decide +kernel⟩, List.mem_of_getElem? (i := 354) (by decide +kernel), List.mem_of_getElem? (i := 947) (by decide +kernel), List.mem_of_getElem? (i := 948) (by decide +kernel)⟩
theorem lw_p69 : lw_okq (⟨"ForgottenCrafts$Plan", "fillCosts", "()V"⟩, 8) := ⟨⟨by decide +kernel, by decide +kernel⟩, List.mem_of_getElem? (i := 354) (by decide +kernel), List.mem_of_getElem? (i := 952) (by decide +kernel), List.mem_of_getElem? (i := 953) (by decide +kernel)⟩
theorem lw_p70 : lw_okq (⟨"ForgottenCrafts$Plan", "costOf", "(II)I"⟩, 8) := ⟨⟨by decide +kernel, by decide +kernel⟩, List.mem_of_getElem? (i := 354) (by decide +kernel), List.mem_of_getElem? (i := 957) (by decide +kernel), List.mem_of_getElem? (i := 958) (by decide +kernel)⟩
theorem lw_p71 : lw_okq (⟨"ForgottenCrafts$Plan", "fillSums", "()V"⟩, 8) := ⟨⟨by decide +kernel, by decide +kernel⟩, List.mem_of_getElem? (i := 354) (by decide +kernel), List.mem_of_getElem? (i := 966) (by decide +kernel), List.mem_of_getElem? (i := 967) (by decide +kernel)⟩
theorem lw_p72 : lw_okq (⟨"ForgottenCrafts$Plan", "sumWith", "(III)I"⟩, 8) := ⟨⟨by decide +kernel, by decide +kernel⟩, List.mem_of_getElem? (i := 354) (by decide +kernel), List.mem_of_getElem? (i := 970) (by decide +kernel), List.mem_of_getElem? (i := 971) (by decide +kernel)⟩
theorem lw_p73 : lw_okq (⟨"ForgottenCrafts$Plan", "stillWanted", "(II)I"⟩, 8) := ⟨⟨by decide +kernel, by decide +kernel⟩, List.mem_of_getElem? (i := 354) (by decide +kernel), List.mem_of_getElem? (i := 974) (by decide +kernel), List.mem_of_getElem? (i := 975) (by decide +kernel)⟩
theorem lw_p74 : lw_okq (⟨"ForgottenCrafts$Plan", "giveTrades", "()V"⟩, 8) := ⟨⟨by decide +kernel, by decide +kernel⟩, List.mem_of_getElem? (i := 354) (by decide +kernel), List.mem_of_getElem? (i := 980) (by decide +kernel), List.mem_of_getElem? (i := 981) (by decide +kernel)⟩
theorem lw_p75 : lw_okq (⟨"ForgottenCrafts$Rings", "search", "()V"⟩, 7) := ⟨⟨by decide +kernel, by decide +kernel⟩, List.mem_of_getElem? (i := 388) (by decide +kernel), List.mem_of_getElem? (i := 988) (by decide +kernel), List.mem_of_getElem? (i := 989) (by decide +kernel)⟩
theorem lw_p76 : lw_okq (⟨"ForgottenCrafts$Rings", "fillGains", "()V"⟩, 7) := ⟨⟨by decide +kernel, by decide +kernel⟩, List.mem_of_getElem? (i := 388) (by decide +kernel), List.mem_of_getElem? (i := 992) (by decide +kernel), List.mem_of_getElem? (i := 993) (by decide +kernel)⟩
theorem lw_p77 : lw_okq (⟨"ForgottenCrafts$Rings", "gainOf", "(III)I"⟩, 7) := ⟨⟨by decide +kernel, by decide +kernel⟩, List.mem_of_getElem? (i := 388) (by decide +kernel), List.mem_of_getElem? (i := 1000) (by decide +kernel), List.mem_of_getElem? (i := 1001) (by decide +kernel)⟩
theorem lw_p78 : lw_okq (⟨"ForgottenCrafts$Rings", "gainFrom", "(II)I"⟩, 7) := ⟨⟨by decide +kernel, by decide +kernel⟩, List.mem_of_getElem? (i := 388) (by decide +kernel), List.mem_of_getElem? (i := 1011) (by decide +kernel), List.mem_of_getElem? (i := 1012) (by decide +kernel)⟩
theorem lw_p79 : lw_okq (⟨"ForgottenCrafts$Rings", "closeRing", "(III)V"⟩, 7) := ⟨⟨by decide +kernel, by decide +kernel⟩, List.mem_of_getElem? (i := 388) (by decide +kernel), List.mem_of_getElem? (i := 1015) (by decide +kernel), List.mem_of_getElem? (i := 1016) (by decide +kernel)⟩
def lw_privs_5 : List (MethodName × Nat) := [(⟨"ForgottenCrafts$Life", "bearChildren", "(I)V"⟩, 3), (⟨"ForgottenCrafts$Life", "bearChild", "(I)V"⟩, 3), (⟨"ForgottenCrafts$Plan", "solve", "()I"⟩, 8), (⟨"ForgottenCrafts$Plan", "wantedInAll", "()I"⟩, 8), (⟨"ForgottenCrafts$Plan", "countStates", "()V"⟩, 8), (⟨"ForgottenCrafts$Plan", "fillCosts", "()V"⟩, 8), (⟨"ForgottenCrafts$Plan", "costOf", "(II)I"⟩, 8), (⟨"ForgottenCrafts$Plan", "fillSums", "()V"⟩, 8), (⟨"ForgottenCrafts$Plan", "sumWith", "(III)I"⟩, 8), (⟨"ForgottenCrafts$Plan", "stillWanted", "(II)I"⟩, 8), (⟨"ForgottenCrafts$Plan", "giveTrades", "()V"⟩, 8), (⟨"ForgottenCrafts$Rings", "search", "()V"⟩, 7), (⟨"ForgottenCrafts$Rings", "fillGains", "()V"⟩, 7), (⟨"ForgottenCrafts$Rings", "gainOf", "(III)I"⟩, 7), (⟨"ForgottenCrafts$Rings", "gainFrom", "(II)I"⟩, 7), (⟨"ForgottenCrafts$Rings", "closeRing", "(III)V"⟩, 7)]
theorem lw_r5 : ∀ q ∈ lw_privs_5, lw_okq q := List.forall_mem_cons.mpr ⟨lw_p64, List.forall_mem_cons.mpr ⟨lw_p65, List.forall_mem_cons.mpr ⟨lw_p66, List.forall_mem_cons.mpr ⟨lw_p67, List.forall_mem_cons.mpr ⟨lw_p68, List.forall_mem_cons.mpr ⟨lw_p69, List.forall_mem_cons.mpr ⟨lw_p70, List.forall_mem_cons.mpr ⟨lw_p71, List.forall_mem_cons.mpr ⟨lw_p72, List.forall_mem_cons.mpr ⟨lw_p73, List.forall_mem_cons.mpr ⟨lw_p74, List.forall_mem_cons.mpr ⟨lw_p75, List.forall_mem_cons.mpr ⟨lw_p76, List.forall_mem_cons.mpr ⟨lw_p77, List.forall_mem_cons.mpr ⟨lw_p78, List.forall_mem_cons.mpr ⟨lw_p79, fun _ h => absurd h List.not_mem_nil⟩⟩⟩⟩⟩⟩⟩⟩⟩⟩⟩⟩⟩⟩⟩⟩
theorem lw_p80 : lw_okq (⟨"ForgottenCrafts$Rings", "isOnPath", "(II)Z"⟩, 7) := ⟨⟨by decide +kernel, by decide +kernel⟩, List.mem_of_getElem? (i := 388) (by decide +kernel), List.mem_of_getElem? (i := 1020) (by decide +kernel), List.mem_of_getElem? (i := 1021) (by decide +kernel)⟩
theorem lw_p81 : lw_okq (⟨"ForgottenCrafts$Shelf", "addThing", "(II)I"⟩, 11) := ⟨⟨by decide +kernel, by decide +kernel⟩, List.mem_of_getElem? (i := 267) (by decide +kernel), List.mem_of_getElem? (i := 1040) (by decide +kernel), List.mem_of_getElem? (i := 1041) (by decide +kernel)⟩
theorem lw_p82 : lw_okq (⟨"ForgottenCrafts$Shelf", "makersOf", "(ILForgottenCrafts$Folk;)I"⟩, 11) := ⟨⟨by decide +kernel, by decide +kernel⟩, List.mem_of_getElem? (i := 267) (by decide +kernel), List.mem_of_getElem? (i := 1049) (by decide +kernel), List.mem_of_getElem? (i := 1050) (by decide +kernel)⟩
theorem lw_p83 : lw_okq (⟨"ForgottenCrafts$Shelf", "countFits", "(ILForgottenCrafts$Folk;)V"⟩, 11) := ⟨⟨by decide +kernel, by decide +kernel⟩, List.mem_of_getElem? (i := 267) (by decide +kernel), List.mem_of_getElem? (i := 1059) (by decide +kernel), List.mem_of_getElem? (i := 1060) (by decide +kernel)⟩
theorem lw_p84 : lw_okq (⟨"ForgottenCrafts$Shelf", "countIfFit", "(I)V"⟩, 11) := ⟨⟨by decide +kernel, by decide +kernel⟩, List.mem_of_getElem? (i := 267) (by decide +kernel), List.mem_of_getElem? (i := 1065) (by decide +kernel), List.mem_of_getElem? (i := 1066) (by decide +kernel)⟩
theorem lw_p85 : lw_okq (⟨"ForgottenCrafts$Shelf", "addEntry", "(III)I"⟩, 11) := ⟨⟨by decide +kernel, by decide +kernel⟩, List.mem_of_getElem? (i := 267) (by decide +kernel), List.mem_of_getElem? (i := 1074) (by decide +kernel), List.mem_of_getElem? (i := 1075) (by decide +kernel)⟩
theorem lw_p86 : lw_okq (⟨"ForgottenCrafts$Shelf", "firstWrong", "(LForgottenCrafts$Folk;)I"⟩, 11) := ⟨⟨by decide +kernel, by decide +kernel⟩, List.mem_of_getElem? (i := 267) (by decide +kernel), List.mem_of_getElem? (i := 1086) (by decide +kernel), List.mem_of_getElem? (i := 1087) (by decide +kernel)⟩
theorem lw_p87 : lw_okq (⟨"ForgottenCrafts", "image", "(I)LForgottenCrafts$Folk;"⟩, 20) := ⟨⟨by decide +kernel, by decide +kernel⟩, List.mem_of_getElem? (i := 20) (by decide +kernel), List.mem_of_getElem? (i := 1099) (by decide +kernel), List.mem_of_getElem? (i := 1100) (by decide +kernel)⟩
theorem lw_p88 : lw_okq (⟨"ForgottenCraftsModel", "bestOf", "(I)I"⟩, 57) := ⟨⟨by decide +kernel, by decide +kernel⟩, List.mem_of_getElem? (i := 1107) (by decide +kernel), List.mem_of_getElem? (i := 1117) (by decide +kernel), List.mem_of_getElem? (i := 1118) (by decide +kernel)⟩
theorem lw_p89 : lw_okq (⟨"ForgottenCraftsModel", "knows", "(II)Z"⟩, 57) := ⟨⟨by decide +kernel, by decide +kernel⟩, List.mem_of_getElem? (i := 1107) (by decide +kernel), List.mem_of_getElem? (i := 1121) (by decide +kernel), List.mem_of_getElem? (i := 1122) (by decide +kernel)⟩
theorem lw_p90 : lw_okq (⟨"ForgottenCraftsModel", "here", "()I"⟩, 57) := ⟨⟨by decide +kernel, by decide +kernel⟩, List.mem_of_getElem? (i := 1107) (by decide +kernel), List.mem_of_getElem? (i := 1314) (by decide +kernel), List.mem_of_getElem? (i := 1315) (by decide +kernel)⟩
theorem lw_p91 : lw_okq (⟨"ForgottenCraftsModel", "takeClause", "()I"⟩, 57) := ⟨⟨by decide +kernel, by decide +kernel⟩, List.mem_of_getElem? (i := 1107) (by decide +kernel), List.mem_of_getElem? (i := 1318) (by decide +kernel), List.mem_of_getElem? (i := 1319) (by decide +kernel)⟩
theorem lw_p92 : lw_okq (⟨"ForgottenCraftsModel", "readWord", "()V"⟩, 57) := ⟨⟨by decide +kernel, by decide +kernel⟩, List.mem_of_getElem? (i := 1107) (by decide +kernel), List.mem_of_getElem? (i := 1322) (by decide +kernel), List.mem_of_getElem? (i := 1323) (by decide +kernel)⟩
theorem lw_p93 : lw_okq (⟨"ForgottenCraftsModel", "fails", "(II)I"⟩, 57) := ⟨⟨by decide +kernel, by decide +kernel⟩, List.mem_of_getElem? (i := 1107) (by decide +kernel), List.mem_of_getElem? (i := 1338) (by decide +kernel), List.mem_of_getElem? (i := 1339) (by decide +kernel)⟩
theorem lw_p94 : lw_okq (⟨"ForgottenCraftsModel", "takeTrade", "()I"⟩, 57) := ⟨⟨by decide +kernel, by decide +kernel⟩, List.mem_of_getElem? (i := 1107) (by decide +kernel), List.mem_of_getElem? (i := 1342) (by decide +kernel), List.mem_of_getElem? (i := 1343) (by decide +kernel)⟩
theorem lw_p95 : lw_okq (⟨"ForgottenCraftsModel", "into", "([IIII)I"⟩, 57) := ⟨⟨by decide +kernel, by decide +kernel⟩, List.mem_of_getElem? (i := 1107) (by decide +kernel), List.mem_of_getElem? (i := 1346) (by decide +kernel), List.mem_of_getElem? (i := 1347) (by decide +kernel)⟩
def lw_privs_6 : List (MethodName × Nat) := [(⟨"ForgottenCrafts$Rings", "isOnPath", "(II)Z"⟩, 7), (⟨"ForgottenCrafts$Shelf", "addThing", "(II)I"⟩, 11), (⟨"ForgottenCrafts$Shelf", "makersOf", "(ILForgottenCrafts$Folk;)I"⟩, 11), (⟨"ForgottenCrafts$Shelf", "countFits", "(ILForgottenCrafts$Folk;)V"⟩, 11), (⟨"ForgottenCrafts$Shelf", "countIfFit", "(I)V"⟩, 11), (⟨"ForgottenCrafts$Shelf", "addEntry", "(III)I"⟩, 11), (⟨"ForgottenCrafts$Shelf", "firstWrong", "(LForgottenCrafts$Folk;)I"⟩, 11), (⟨"ForgottenCrafts", "image", "(I)LForgottenCrafts$Folk;"⟩, 20), (⟨"ForgottenCraftsModel", "bestOf", "(I)I"⟩, 57), (⟨"ForgottenCraftsModel", "knows", "(II)Z"⟩, 57), (⟨"ForgottenCraftsModel", "here", "()I"⟩, 57), (⟨"ForgottenCraftsModel", "takeClause", "()I"⟩, 57), (⟨"ForgottenCraftsModel", "readWord", "()V"⟩, 57), (⟨"ForgottenCraftsModel", "fails", "(II)I"⟩, 57), (⟨"ForgottenCraftsModel", "takeTrade", "()I"⟩, 57), (⟨"ForgottenCraftsModel", "into", "([IIII)I"⟩, 57)]
theorem lw_r6 : ∀ q ∈ lw_privs_6, lw_okq q := List.forall_mem_cons.mpr ⟨lw_p80, List.forall_mem_cons.mpr ⟨lw_p81, List.forall_mem_cons.mpr ⟨lw_p82, List.forall_mem_cons.mpr ⟨lw_p83, List.forall_mem_cons.mpr ⟨lw_p84, List.forall_mem_cons.mpr ⟨lw_p85, List.forall_mem_cons.mpr ⟨lw_p86, List.forall_mem_cons.mpr ⟨lw_p87, List.forall_mem_cons.mpr ⟨lw_p88, List.forall_mem_cons.mpr ⟨lw_p89, List.forall_mem_cons.mpr ⟨lw_p90, List.forall_mem_cons.mpr ⟨lw_p91, List.forall_mem_cons.mpr ⟨lw_p92, List.forall_mem_cons.mpr ⟨lw_p93, List.forall_mem_cons.mpr ⟨lw_p94, List.forall_mem_cons.mpr ⟨lw_p95, fun _ h => absurd h List.not_mem_nil⟩⟩⟩⟩⟩⟩⟩⟩⟩⟩⟩⟩⟩⟩⟩⟩
theorem lw_p96 : lw_okq (⟨"ForgottenCraftsModel", "takeNumber", "(II)I"⟩, 57) := ⟨⟨by decide +kernel, by decide +kernel⟩, List.mem_of_getElem? (i := 1107) (by decide +kernel), List.mem_of_getElem? (i := 1350) (by decide +kernel), List.mem_of_getElem? (i := 1351) (by decide +kernel)⟩
theorem lw_p97 : lw_okq (⟨"ForgottenCraftsModel", "takePerson", "()I"⟩, 57) := ⟨⟨by decide +kernel, by decide +kernel⟩, List.mem_of_getElem? (i := 1107) (by decide +kernel), List.mem_of_getElem? (i := 1356) (by decide +kernel), List.mem_of_getElem? (i := 1357) (by decide +kernel)⟩
theorem lw_p98 : lw_okq (⟨"ForgottenCraftsModel", "takeLikes", "()I"⟩, 57) := ⟨⟨by decide +kernel, by decide +kernel⟩, List.mem_of_getElem? (i := 1107) (by decide +kernel), List.mem_of_getElem? (i := 1360) (by decide +kernel), List.mem_of_getElem? (i := 1361) (by decide +kernel)⟩
theorem lw_p99 : lw_okq (⟨"ForgottenCraftsModel", "takeStop", "()I"⟩, 57) := ⟨⟨by decide +kernel, by decide +kernel⟩, List.mem_of_getElem? (i := 1107) (by decide +kernel), List.mem_of_getElem? (i := 1364) (by decide +kernel), List.mem_of_getElem? (i := 1365) (by decide +kernel)⟩
theorem lw_p100 : lw_okq (⟨"ForgottenCraftsModel", "takeLaw", "()I"⟩, 57) := ⟨⟨by decide +kernel, by decide +kernel⟩, List.mem_of_getElem? (i := 1107) (by decide +kernel), List.mem_of_getElem? (i := 1373) (by decide +kernel), List.mem_of_getElem? (i := 1374) (by decide +kernel)⟩
theorem lw_p101 : lw_okq (⟨"ForgottenCraftsModel", "livesSet", "()I"⟩, 57) := ⟨⟨by decide +kernel, by decide +kernel⟩, List.mem_of_getElem? (i := 1107) (by decide +kernel), List.mem_of_getElem? (i := 1385) (by decide +kernel), List.mem_of_getElem? (i := 1386) (by decide +kernel)⟩
theorem lw_p102 : lw_okq (⟨"ForgottenCraftsModel", "deadSet", "()I"⟩, 57) := ⟨⟨by decide +kernel, by decide +kernel⟩, List.mem_of_getElem? (i := 1107) (by decide +kernel), List.mem_of_getElem? (i := 1389) (by decide +kernel), List.mem_of_getElem? (i := 1390) (by decide +kernel)⟩
theorem lw_p103 : lw_okq (⟨"ForgottenCraftsModel", "knowers", "(II)I"⟩, 57) := ⟨⟨by decide +kernel, by decide +kernel⟩, List.mem_of_getElem? (i := 1107) (by decide +kernel), List.mem_of_getElem? (i := 1393) (by decide +kernel), List.mem_of_getElem? (i := 1394) (by decide +kernel)⟩
theorem lw_p104 : lw_okq (⟨"ForgottenCraftsModel", "isTrade", "(I)Z"⟩, 57) := ⟨⟨by decide +kernel, by decide +kernel⟩, List.mem_of_getElem? (i := 1107) (by decide +kernel), List.mem_of_getElem? (i := 1401) (by decide +kernel), List.mem_of_getElem? (i := 1402) (by decide +kernel)⟩
theorem lw_p105 : lw_okq (⟨"ForgottenCraftsModel", "isPerson", "(I)Z"⟩, 57) := ⟨⟨by decide +kernel, by decide +kernel⟩, List.mem_of_getElem? (i := 1107) (by decide +kernel), List.mem_of_getElem? (i := 1410) (by decide +kernel), List.mem_of_getElem? (i := 1411) (by decide +kernel)⟩
theorem lw_p106 : lw_okq (⟨"ForgottenCraftsModel", "knownSet", "(I)I"⟩, 57) := ⟨⟨by decide +kernel, by decide +kernel⟩, List.mem_of_getElem? (i := 1107) (by decide +kernel), List.mem_of_getElem? (i := 1414) (by decide +kernel), List.mem_of_getElem? (i := 1415) (by decide +kernel)⟩
theorem lw_p107 : lw_okq (⟨"ForgottenCraftsModel", "changeNow", "(IIII)I"⟩, 57) := ⟨⟨by decide +kernel, by decide +kernel⟩, List.mem_of_getElem? (i := 1107) (by decide +kernel), List.mem_of_getElem? (i := 1430) (by decide +kernel), List.mem_of_getElem? (i := 1431) (by decide +kernel)⟩
theorem lw_p108 : lw_okq (⟨"ForgottenCraftsModel", "mayLearn", "(II)Z"⟩, 57) := ⟨⟨by decide +kernel, by decide +kernel⟩, List.mem_of_getElem? (i := 1107) (by decide +kernel), List.mem_of_getElem? (i := 1434) (by decide +kernel), List.mem_of_getElem? (i := 1435) (by decide +kernel)⟩
theorem lw_p109 : lw_okq (⟨"ForgottenCraftsModel", "mayGive", "(IIII)Z"⟩, 57) := ⟨⟨by decide +kernel, by decide +kernel⟩, List.mem_of_getElem? (i := 1107) (by decide +kernel), List.mem_of_getElem? (i := 1438) (by decide +kernel), List.mem_of_getElem? (i := 1439) (by decide +kernel)⟩
theorem lw_p110 : lw_okq (⟨"ForgottenCraftsModel", "knownMany", "(I)I"⟩, 57) := ⟨⟨by decide +kernel, by decide +kernel⟩, List.mem_of_getElem? (i := 1107) (by decide +kernel), List.mem_of_getElem? (i := 1442) (by decide +kernel), List.mem_of_getElem? (i := 1443) (by decide +kernel)⟩
theorem lw_p111 : lw_okq (⟨"ForgottenCraftsModel", "findWitnesses", "(II)I"⟩, 57) := ⟨⟨by decide +kernel, by decide +kernel⟩, List.mem_of_getElem? (i := 1107) (by decide +kernel), List.mem_of_getElem? (i := 1446) (by decide +kernel), List.mem_of_getElem? (i := 1447) (by decide +kernel)⟩
def lw_privs_7 : List (MethodName × Nat) := [(⟨"ForgottenCraftsModel", "takeNumber", "(II)I"⟩, 57), (⟨"ForgottenCraftsModel", "takePerson", "()I"⟩, 57), (⟨"ForgottenCraftsModel", "takeLikes", "()I"⟩, 57), (⟨"ForgottenCraftsModel", "takeStop", "()I"⟩, 57), (⟨"ForgottenCraftsModel", "takeLaw", "()I"⟩, 57), (⟨"ForgottenCraftsModel", "livesSet", "()I"⟩, 57), (⟨"ForgottenCraftsModel", "deadSet", "()I"⟩, 57), (⟨"ForgottenCraftsModel", "knowers", "(II)I"⟩, 57), (⟨"ForgottenCraftsModel", "isTrade", "(I)Z"⟩, 57), (⟨"ForgottenCraftsModel", "isPerson", "(I)Z"⟩, 57), (⟨"ForgottenCraftsModel", "knownSet", "(I)I"⟩, 57), (⟨"ForgottenCraftsModel", "changeNow", "(IIII)I"⟩, 57), (⟨"ForgottenCraftsModel", "mayLearn", "(II)Z"⟩, 57), (⟨"ForgottenCraftsModel", "mayGive", "(IIII)Z"⟩, 57), (⟨"ForgottenCraftsModel", "knownMany", "(I)I"⟩, 57), (⟨"ForgottenCraftsModel", "findWitnesses", "(II)I"⟩, 57)]
theorem lw_r7 : ∀ q ∈ lw_privs_7, lw_okq q := List.forall_mem_cons.mpr ⟨lw_p96, List.forall_mem_cons.mpr ⟨lw_p97, List.forall_mem_cons.mpr ⟨lw_p98, List.forall_mem_cons.mpr ⟨lw_p99, List.forall_mem_cons.mpr ⟨lw_p100, List.forall_mem_cons.mpr ⟨lw_p101, List.forall_mem_cons.mpr ⟨lw_p102, List.forall_mem_cons.mpr ⟨lw_p103, List.forall_mem_cons.mpr ⟨lw_p104, List.forall_mem_cons.mpr ⟨lw_p105, List.forall_mem_cons.mpr ⟨lw_p106, List.forall_mem_cons.mpr ⟨lw_p107, List.forall_mem_cons.mpr ⟨lw_p108, List.forall_mem_cons.mpr ⟨lw_p109, List.forall_mem_cons.mpr ⟨lw_p110, List.forall_mem_cons.mpr ⟨lw_p111, fun _ h => absurd h List.not_mem_nil⟩⟩⟩⟩⟩⟩⟩⟩⟩⟩⟩⟩⟩⟩⟩⟩
theorem lw_p112 : lw_okq (⟨"ForgottenCraftsModel", "draw", "(I)I"⟩, 57) := ⟨⟨by decide +kernel, by decide +kernel⟩, List.mem_of_getElem? (i := 1107) (by decide +kernel), List.mem_of_getElem? (i := 1464) (by decide +kernel), List.mem_of_getElem? (i := 1465) (by decide +kernel)⟩
theorem lw_p113 : lw_okq (⟨"ForgottenCraftsModel", "yearNow", "()I"⟩, 57) := ⟨⟨by decide +kernel, by decide +kernel⟩, List.mem_of_getElem? (i := 1107) (by decide +kernel), List.mem_of_getElem? (i := 1477) (by decide +kernel), List.mem_of_getElem? (i := 1478) (by decide +kernel)⟩
theorem lw_p114 : lw_okq (⟨"ForgottenCraftsModel", "tradeYear", "(II)V"⟩, 57) := ⟨⟨by decide +kernel, by decide +kernel⟩, List.mem_of_getElem? (i := 1107) (by decide +kernel), List.mem_of_getElem? (i := 1481) (by decide +kernel), List.mem_of_getElem? (i := 1482) (by decide +kernel)⟩
theorem lw_p115 : lw_okq (⟨"ForgottenCraftsModel", "forgetOn", "(II)V"⟩, 57) := ⟨⟨by decide +kernel, by decide +kernel⟩, List.mem_of_getElem? (i := 1107) (by decide +kernel), List.mem_of_getElem? (i := 1485) (by decide +kernel), List.mem_of_getElem? (i := 1486) (by decide +kernel)⟩
theorem lw_p116 : lw_okq (⟨"ForgottenCraftsModel", "learnOn", "(II)V"⟩, 57) := ⟨⟨by decide +kernel, by decide +kernel⟩, List.mem_of_getElem? (i := 1107) (by decide +kernel), List.mem_of_getElem? (i := 1489) (by decide +kernel), List.mem_of_getElem? (i := 1490) (by decide +kernel)⟩
theorem lw_p117 : lw_okq (⟨"ForgottenCraftsModel", "die", "(I)V"⟩, 57) := ⟨⟨by decide +kernel, by decide +kernel⟩, List.mem_of_getElem? (i := 1107) (by decide +kernel), List.mem_of_getElem? (i := 1493) (by decide +kernel), List.mem_of_getElem? (i := 1494) (by decide +kernel)⟩
theorem lw_p118 : lw_okq (⟨"ForgottenCraftsModel", "drawYear", "(I)V"⟩, 57) := ⟨⟨by decide +kernel, by decide +kernel⟩, List.mem_of_getElem? (i := 1107) (by decide +kernel), List.mem_of_getElem? (i := 1506) (by decide +kernel), List.mem_of_getElem? (i := 1507) (by decide +kernel)⟩
theorem lw_p119 : lw_okq (⟨"ForgottenCraftsModel", "leastLiked", "(I)I"⟩, 57) := ⟨⟨by decide +kernel, by decide +kernel⟩, List.mem_of_getElem? (i := 1107) (by decide +kernel), List.mem_of_getElem? (i := 1510) (by decide +kernel), List.mem_of_getElem? (i := 1511) (by decide +kernel)⟩
theorem lw_p120 : lw_okq (⟨"ForgottenCraftsModel", "save", "(I)V"⟩, 57) := ⟨⟨by decide +kernel, by decide +kernel⟩, List.mem_of_getElem? (i := 1107) (by decide +kernel), List.mem_of_getElem? (i := 1519) (by decide +kernel), List.mem_of_getElem? (i := 1520) (by decide +kernel)⟩
theorem lw_p121 : lw_okq (⟨"ForgottenCraftsModel", "load", "(I)V"⟩, 57) := ⟨⟨by decide +kernel, by decide +kernel⟩, List.mem_of_getElem? (i := 1107) (by decide +kernel), List.mem_of_getElem? (i := 1523) (by decide +kernel), List.mem_of_getElem? (i := 1524) (by decide +kernel)⟩
theorem lw_p122 : lw_okq (⟨"ForgottenCraftsModel", "findLeast", "()Z"⟩, 57) := ⟨⟨by decide +kernel, by decide +kernel⟩, List.mem_of_getElem? (i := 1107) (by decide +kernel), List.mem_of_getElem? (i := 1535) (by decide +kernel), List.mem_of_getElem? (i := 1536) (by decide +kernel)⟩
theorem lw_p123 : lw_okq (⟨"ForgottenCraftsModel", "byGiving", "(III)I"⟩, 57) := ⟨⟨by decide +kernel, by decide +kernel⟩, List.mem_of_getElem? (i := 1107) (by decide +kernel), List.mem_of_getElem? (i := 1540) (by decide +kernel), List.mem_of_getElem? (i := 1541) (by decide +kernel)⟩
theorem lw_p124 : lw_okq (⟨"ForgottenCraftsModel", "costOf", "(II)I"⟩, 57) := ⟨⟨by decide +kernel, by decide +kernel⟩, List.mem_of_getElem? (i := 1107) (by decide +kernel), List.mem_of_getElem? (i := 1544) (by decide +kernel), List.mem_of_getElem? (i := 1545) (by decide +kernel)⟩
theorem lw_p125 : lw_okq (⟨"ForgottenCraftsModel", "findRing", "()I"⟩, 57) := ⟨⟨by decide +kernel, by decide +kernel⟩, List.mem_of_getElem? (i := 1107) (by decide +kernel), List.mem_of_getElem? (i := 1553) (by decide +kernel), List.mem_of_getElem? (i := 1554) (by decide +kernel)⟩
theorem lw_p126 : lw_okq (⟨"ForgottenCraftsModel", "isRing", "(II)Z"⟩, 57) := ⟨⟨by decide +kernel, by decide +kernel⟩, List.mem_of_getElem? (i := 1107) (by decide +kernel), List.mem_of_getElem? (i := 1557) (by decide +kernel), List.mem_of_getElem? (i := 1558) (by decide +kernel)⟩
theorem lw_p127 : lw_okq (⟨"ForgottenCraftsModel", "ringSum", "(I)I"⟩, 57) := ⟨⟨by decide +kernel, by decide +kernel⟩, List.mem_of_getElem? (i := 1107) (by decide +kernel), List.mem_of_getElem? (i := 1561) (by decide +kernel), List.mem_of_getElem? (i := 1562) (by decide +kernel)⟩
def lw_privs_8 : List (MethodName × Nat) := [(⟨"ForgottenCraftsModel", "draw", "(I)I"⟩, 57), (⟨"ForgottenCraftsModel", "yearNow", "()I"⟩, 57), (⟨"ForgottenCraftsModel", "tradeYear", "(II)V"⟩, 57), (⟨"ForgottenCraftsModel", "forgetOn", "(II)V"⟩, 57), (⟨"ForgottenCraftsModel", "learnOn", "(II)V"⟩, 57), (⟨"ForgottenCraftsModel", "die", "(I)V"⟩, 57), (⟨"ForgottenCraftsModel", "drawYear", "(I)V"⟩, 57), (⟨"ForgottenCraftsModel", "leastLiked", "(I)I"⟩, 57), (⟨"ForgottenCraftsModel", "save", "(I)V"⟩, 57), (⟨"ForgottenCraftsModel", "load", "(I)V"⟩, 57), (⟨"ForgottenCraftsModel", "findLeast", "()Z"⟩, 57), (⟨"ForgottenCraftsModel", "byGiving", "(III)I"⟩, 57), (⟨"ForgottenCraftsModel", "costOf", "(II)I"⟩, 57), (⟨"ForgottenCraftsModel", "findRing", "()I"⟩, 57), (⟨"ForgottenCraftsModel", "isRing", "(II)Z"⟩, 57), (⟨"ForgottenCraftsModel", "ringSum", "(I)I"⟩, 57)]
theorem lw_r8 : ∀ q ∈ lw_privs_8, lw_okq q := List.forall_mem_cons.mpr ⟨lw_p112, List.forall_mem_cons.mpr ⟨lw_p113, List.forall_mem_cons.mpr ⟨lw_p114, List.forall_mem_cons.mpr ⟨lw_p115, List.forall_mem_cons.mpr ⟨lw_p116, List.forall_mem_cons.mpr ⟨lw_p117, List.forall_mem_cons.mpr ⟨lw_p118, List.forall_mem_cons.mpr ⟨lw_p119, List.forall_mem_cons.mpr ⟨lw_p120, List.forall_mem_cons.mpr ⟨lw_p121, List.forall_mem_cons.mpr ⟨lw_p122, List.forall_mem_cons.mpr ⟨lw_p123, List.forall_mem_cons.mpr ⟨lw_p124, List.forall_mem_cons.mpr ⟨lw_p125, List.forall_mem_cons.mpr ⟨lw_p126, List.forall_mem_cons.mpr ⟨lw_p127, fun _ h => absurd h List.not_mem_nil⟩⟩⟩⟩⟩⟩⟩⟩⟩⟩⟩⟩⟩⟩⟩⟩
theorem lw_p128 : lw_okq (⟨"ForgottenCraftsModel", "maySwap", "(I)Z"⟩, 57) := ⟨⟨by decide +kernel, by decide +kernel⟩, List.mem_of_getElem? (i := 1107) (by decide +kernel), List.mem_of_getElem? (i := 1565) (by decide +kernel), List.mem_of_getElem? (i := 1566) (by decide +kernel)⟩
theorem lw_p129 : lw_okq (⟨"ForgottenCraftsModel", "gainBy", "(II)I"⟩, 57) := ⟨⟨by decide +kernel, by decide +kernel⟩, List.mem_of_getElem? (i := 1107) (by decide +kernel), List.mem_of_getElem? (i := 1569) (by decide +kernel), List.mem_of_getElem? (i := 1570) (by decide +kernel)⟩
def lw_privs_9 : List (MethodName × Nat) := [(⟨"ForgottenCraftsModel", "maySwap", "(I)Z"⟩, 57), (⟨"ForgottenCraftsModel", "gainBy", "(II)I"⟩, 57)]
theorem lw_r9 : ∀ q ∈ lw_privs_9, lw_okq q := List.forall_mem_cons.mpr ⟨lw_p128, List.forall_mem_cons.mpr ⟨lw_p129, fun _ h => absurd h List.not_mem_nil⟩⟩
def lw_privs : List (MethodName × Nat) := lw_privs_1 ++ (lw_privs_2 ++ (lw_privs_3 ++ (lw_privs_4 ++ (lw_privs_5 ++ (lw_privs_6 ++ (lw_privs_7 ++ (lw_privs_8 ++ (lw_privs_9))))))))
def lw_tbl : List Cond := k2_sels lw_privs ++ tables_1
theorem lw_privs_ok : ∀ q ∈ lw_privs, lw_okq q := by
  show ∀ q ∈ lw_privs_1 ++ (lw_privs_2 ++ (lw_privs_3 ++ (lw_privs_4 ++ (lw_privs_5 ++ (lw_privs_6 ++ (lw_privs_7 ++ (lw_privs_8 ++ (lw_privs_9)))))))), lw_okq q
  exact List.forall_mem_append.mpr ⟨lw_r1, List.forall_mem_append.mpr ⟨lw_r2, List.forall_mem_append.mpr ⟨lw_r3, List.forall_mem_append.mpr ⟨lw_r4, List.forall_mem_append.mpr ⟨lw_r5, List.forall_mem_append.mpr ⟨lw_r6, List.forall_mem_append.mpr ⟨lw_r7, List.forall_mem_append.mpr ⟨lw_r8, lw_r9⟩⟩⟩⟩⟩⟩⟩⟩
-- ===== end of PART A; then your names; then what follows =====
def RX0 : String := "ForgottenCrafts$Crafts"
def TX0 : u_T := fun k => match k with
  | 0 => ("ForgottenCrafts$Crafts", "kinds", "LForgottenCrafts$Row;", true)
  | 1 => ("ForgottenCrafts$Crafts", "learning", "LForgottenCrafts$Row;", true)
  | 2 => ("ForgottenCrafts$Crafts", "worths", "LForgottenCrafts$Row;", true)
  | 3 => ("ForgottenCrafts$Crafts", "needs", "LForgottenCrafts$Row;", true)
  | 4 => ("ForgottenCrafts$Crafts", "likes", "LForgottenCrafts$Row;", true)
  | 5 => ("ForgottenCrafts$Crafts", "trades", "I", false)
  | _ => ("ForgottenCrafts$Crafts", "people", "I", false)
def tyX0 : Nat → FieldType := fun k => match k with
  | 0 => .object "ForgottenCrafts$Row"
  | 1 => .object "ForgottenCrafts$Row"
  | 2 => .object "ForgottenCrafts$Row"
  | 3 => .object "ForgottenCrafts$Row"
  | 4 => .object "ForgottenCrafts$Row"
  | 5 => .int
  | _ => .int
abbrev wsX00 : List Cond := u_ws RX0 TX0 7
theorem nmX0 : ∀ a, a < 7 → ∀ b, b < 7 → a ≠ b → (TX0 a).2.1 ≠ (TX0 b).2.1 := by decide +kernel
theorem tyX0_ok : ∀ k, k < 7 → parseFieldDescriptor (TX0 k).2.2.1 = some (tyX0 k) := by decide +kernel
abbrev cX0_init : ByteArray := prog_2_method_1_code
def yX0_init : MethodName := ⟨RX0, "<init>", "()V"⟩
abbrev cX0_hasTrade : ByteArray := prog_2_method_2_code
def yX0_hasTrade : MethodName := ⟨RX0, "hasTrade", "(I)Z"⟩
abbrev cX0_hasPerson : ByteArray := prog_2_method_3_code
def yX0_hasPerson : MethodName := ⟨RX0, "hasPerson", "(I)Z"⟩
abbrev cX0_likeOf : ByteArray := prog_2_method_4_code
def yX0_likeOf : MethodName := ⟨RX0, "likeOf", "(II)I"⟩
abbrev cX0_isForbidden : ByteArray := prog_2_method_5_code
def yX0_isForbidden : MethodName := ⟨RX0, "isForbidden", "(I)Z"⟩
abbrev cX0_clear : ByteArray := prog_2_method_6_code
def yX0_clear : MethodName := ⟨RX0, "clear", "()V"⟩
abbrev cX0_copyFrom : ByteArray := prog_2_method_7_code
def yX0_copyFrom : MethodName := ⟨RX0, "copyFrom", "(LForgottenCrafts$Crafts;)V"⟩
def RX1 : String := "ForgottenCrafts$Folk"
def TX1 : u_T := fun k => match k with
  | 0 => ("ForgottenCrafts$Folk", "ages", "LForgottenCrafts$Row;", true)
  | 1 => ("ForgottenCrafts$Folk", "skills", "LForgottenCrafts$Row;", true)
  | 2 => ("ForgottenCrafts$Folk", "goneIn", "LForgottenCrafts$Row;", true)
  | 3 => ("ForgottenCrafts$Folk", "practises", "LForgottenCrafts$Row;", true)
  | 4 => ("ForgottenCrafts$Folk", "learns", "LForgottenCrafts$Row;", true)
  | 5 => ("ForgottenCrafts$Folk", "learntYears", "LForgottenCrafts$Row;", true)
  | 6 => ("ForgottenCrafts$Folk", "forgets", "LForgottenCrafts$Row;", true)
  | 7 => ("ForgottenCrafts$Folk", "earned", "LForgottenCrafts$Row;", true)
  | 8 => ("ForgottenCrafts$Folk", "living", "I", false)
  | 9 => ("ForgottenCrafts$Folk", "witnesses", "I", false)
  | 10 => ("ForgottenCrafts$Folk", "nightWorkers", "I", false)
  | 11 => ("ForgottenCrafts$Folk", "years", "I", false)
  | _ => ("ForgottenCrafts$Folk", "drawSeed", "I", false)
def tyX1 : Nat → FieldType := fun k => match k with
  | 0 => .object "ForgottenCrafts$Row"
  | 1 => .object "ForgottenCrafts$Row"
  | 2 => .object "ForgottenCrafts$Row"
  | 3 => .object "ForgottenCrafts$Row"
  | 4 => .object "ForgottenCrafts$Row"
  | 5 => .object "ForgottenCrafts$Row"
  | 6 => .object "ForgottenCrafts$Row"
  | 7 => .object "ForgottenCrafts$Row"
  | 8 => .int
  | 9 => .int
  | 10 => .int
  | 11 => .int
  | _ => .int
abbrev wsX10 : List Cond := u_ws RX1 TX1 13
theorem nmX1 : ∀ a, a < 13 → ∀ b, b < 13 → a ≠ b → (TX1 a).2.1 ≠ (TX1 b).2.1 := by decide +kernel
theorem tyX1_ok : ∀ k, k < 13 → parseFieldDescriptor (TX1 k).2.2.1 = some (tyX1 k) := by decide +kernel
abbrev cX1_init : ByteArray := prog_3_method_1_code
def yX1_init : MethodName := ⟨RX1, "<init>", "()V"⟩
abbrev cX1_clear : ByteArray := prog_3_method_2_code
def yX1_clear : MethodName := ⟨RX1, "clear", "()V"⟩
abbrev cX1_copyFrom : ByteArray := prog_3_method_3_code
def yX1_copyFrom : MethodName := ⟨RX1, "copyFrom", "(LForgottenCrafts$Folk;)V"⟩
abbrev cX1_empty : ByteArray := prog_3_method_4_code
def yX1_empty : MethodName := ⟨RX1, "empty", "(I)V"⟩
abbrev cX1_lives : ByteArray := prog_3_method_5_code
def yX1_lives : MethodName := ⟨RX1, "lives", "(I)Z"⟩
abbrev cX1_skillOf : ByteArray := prog_3_method_6_code
def yX1_skillOf : MethodName := ⟨RX1, "skillOf", "(II)I"⟩
abbrev cX1_setSkill : ByteArray := prog_3_method_7_code
def yX1_setSkill : MethodName := ⟨RX1, "setSkill", "(III)V"⟩
abbrev cX1_knows : ByteArray := prog_3_method_8_code
def yX1_knows : MethodName := ⟨RX1, "knows", "(II)Z"⟩
abbrev cX1_knownBy : ByteArray := prog_3_method_9_code
def yX1_knownBy : MethodName := ⟨RX1, "knownBy", "(I)I"⟩
abbrev cX1_withSkill : ByteArray := prog_3_method_10_code
def yX1_withSkill : MethodName := ⟨RX1, "withSkill", "(II)I"⟩
abbrev cX1_bestOf : ByteArray := prog_3_method_11_code
def yX1_bestOf : MethodName := ⟨RX1, "bestOf", "(I)I"⟩
abbrev cX1_draw : ByteArray := prog_3_method_12_code
def yX1_draw : MethodName := ⟨RX1, "draw", "(I)I"⟩
def RX2 : String := "ForgottenCrafts$Life"
def TX2 : u_T := fun k => match k with
  | 0 => ("ForgottenCrafts$Life", "crafts", "LForgottenCrafts$Crafts;", true)
  | 1 => ("ForgottenCrafts$Life", "rules", "LForgottenCrafts$Rules;", true)
  | _ => ("ForgottenCrafts$Life", "folk", "LForgottenCrafts$Folk;", true)
def tyX2 : Nat → FieldType := fun k => match k with
  | 0 => .object "ForgottenCrafts$Crafts"
  | 1 => .object "ForgottenCrafts$Rules"
  | _ => .object "ForgottenCrafts$Folk"
abbrev wsX20 : List Cond := u_ws RX2 TX2 3
theorem nmX2 : ∀ a, a < 3 → ∀ b, b < 3 → a ≠ b → (TX2 a).2.1 ≠ (TX2 b).2.1 := by decide +kernel
theorem tyX2_ok : ∀ k, k < 3 → parseFieldDescriptor (TX2 k).2.2.1 = some (tyX2 k) := by decide +kernel
abbrev cX2_init : ByteArray := prog_4_method_1_code
def yX2_init : MethodName := ⟨RX2, "<init>", "(LForgottenCrafts$Crafts;LForgottenCrafts$Rules;LForgottenCrafts$Folk;)V"⟩
abbrev cX2_deadTrades : ByteArray := prog_4_method_2_code
def yX2_deadTrades : MethodName := ⟨RX2, "deadTrades", "()I"⟩
abbrev cX2_hasRoom : ByteArray := prog_4_method_3_code
def yX2_hasRoom : MethodName := ⟨RX2, "hasRoom", "(I)Z"⟩
abbrev cX2_leastLiked : ByteArray := prog_4_method_4_code
def yX2_leastLiked : MethodName := ⟨RX2, "leastLiked", "(I)I"⟩
abbrev cX2_beginChange : ByteArray := prog_4_method_5_code
def yX2_beginChange : MethodName := ⟨RX2, "beginChange", "(IIII)I"⟩
abbrev cX2_mayLearn : ByteArray := prog_4_method_6_code
def yX2_mayLearn : MethodName := ⟨RX2, "mayLearn", "(II)Z"⟩
abbrev cX2_mayGiveUp : ByteArray := prog_4_method_7_code
def yX2_mayGiveUp : MethodName := ⟨RX2, "mayGiveUp", "(III)Z"⟩
abbrev cX2_mayLend : ByteArray := prog_4_method_8_code
def yX2_mayLend : MethodName := ⟨RX2, "mayLend", "(II)Z"⟩
abbrev cX2_witnessesFor : ByteArray := prog_4_method_9_code
def yX2_witnessesFor : MethodName := ⟨RX2, "witnessesFor", "(II)I"⟩
abbrev cX2_startLearning : ByteArray := prog_4_method_10_code
def yX2_startLearning : MethodName := ⟨RX2, "startLearning", "(II)V"⟩
abbrev cX2_workByNight : ByteArray := prog_4_method_11_code
def yX2_workByNight : MethodName := ⟨RX2, "workByNight", "(II)Z"⟩
abbrev cX2_passYear : ByteArray := prog_4_method_12_code
def yX2_passYear : MethodName := ⟨RX2, "passYear", "()V"⟩
abbrev cX2_passYearOf : ByteArray := prog_4_method_13_code
def yX2_passYearOf : MethodName := ⟨RX2, "passYearOf", "(I)V"⟩
abbrev cX2_fade : ByteArray := prog_4_method_14_code
def yX2_fade : MethodName := ⟨RX2, "fade", "(II)V"⟩
abbrev cX2_learnOn : ByteArray := prog_4_method_15_code
def yX2_learnOn : MethodName := ⟨RX2, "learnOn", "(II)V"⟩
abbrev cX2_leaveAside : ByteArray := prog_4_method_16_code
def yX2_leaveAside : MethodName := ⟨RX2, "leaveAside", "(II)V"⟩
abbrev cX2_isBackDue : ByteArray := prog_4_method_17_code
def yX2_isBackDue : MethodName := ⟨RX2, "isBackDue", "(II)Z"⟩
abbrev cX2_passDrawnYears : ByteArray := prog_4_method_18_code
def yX2_passDrawnYears : MethodName := ⟨RX2, "passDrawnYears", "(II)V"⟩
abbrev cX2_tryDrawnChange : ByteArray := prog_4_method_19_code
def yX2_tryDrawnChange : MethodName := ⟨RX2, "tryDrawnChange", "(I)V"⟩
abbrev cX2_bearChildren : ByteArray := prog_4_method_20_code
def yX2_bearChildren : MethodName := ⟨RX2, "bearChildren", "(I)V"⟩
abbrev cX2_bearChild : ByteArray := prog_4_method_21_code
def yX2_bearChild : MethodName := ⟨RX2, "bearChild", "(I)V"⟩
def RX3 : String := "ForgottenCrafts$Plan"
def TX3 : u_T := fun k => match k with
  | 0 => ("ForgottenCrafts$Plan", "crafts", "LForgottenCrafts$Crafts;", true)
  | 1 => ("ForgottenCrafts$Plan", "folk", "LForgottenCrafts$Folk;", true)
  | 2 => ("ForgottenCrafts$Plan", "wants", "LForgottenCrafts$Row;", true)
  | 3 => ("ForgottenCrafts$Plan", "steps", "LForgottenCrafts$Row;", true)
  | 4 => ("ForgottenCrafts$Plan", "costs", "LForgottenCrafts$Row;", true)
  | 5 => ("ForgottenCrafts$Plan", "sums", "LForgottenCrafts$Row;", true)
  | 6 => ("ForgottenCrafts$Plan", "given", "LForgottenCrafts$Row;", true)
  | _ => ("ForgottenCrafts$Plan", "states", "I", false)
def tyX3 : Nat → FieldType := fun k => match k with
  | 0 => .object "ForgottenCrafts$Crafts"
  | 1 => .object "ForgottenCrafts$Folk"
  | 2 => .object "ForgottenCrafts$Row"
  | 3 => .object "ForgottenCrafts$Row"
  | 4 => .object "ForgottenCrafts$Row"
  | 5 => .object "ForgottenCrafts$Row"
  | 6 => .object "ForgottenCrafts$Row"
  | _ => .int
abbrev wsX30 : List Cond := u_ws RX3 TX3 8
theorem nmX3 : ∀ a, a < 8 → ∀ b, b < 8 → a ≠ b → (TX3 a).2.1 ≠ (TX3 b).2.1 := by decide +kernel
theorem tyX3_ok : ∀ k, k < 8 → parseFieldDescriptor (TX3 k).2.2.1 = some (tyX3 k) := by decide +kernel
abbrev cX3_init : ByteArray := prog_5_method_1_code
def yX3_init : MethodName := ⟨RX3, "<init>", "(LForgottenCrafts$Crafts;LForgottenCrafts$Folk;LForgottenCrafts$Row;)V"⟩
abbrev cX3_solve : ByteArray := prog_5_method_2_code
def yX3_solve : MethodName := ⟨RX3, "solve", "()I"⟩
abbrev cX3_wantedInAll : ByteArray := prog_5_method_3_code
def yX3_wantedInAll : MethodName := ⟨RX3, "wantedInAll", "()I"⟩
abbrev cX3_countStates : ByteArray := prog_5_method_4_code
def yX3_countStates : MethodName := ⟨RX3, "countStates", "()V"⟩
abbrev cX3_fillCosts : ByteArray := prog_5_method_5_code
def yX3_fillCosts : MethodName := ⟨RX3, "fillCosts", "()V"⟩
abbrev cX3_costOf : ByteArray := prog_5_method_6_code
def yX3_costOf : MethodName := ⟨RX3, "costOf", "(II)I"⟩
abbrev cX3_fillSums : ByteArray := prog_5_method_7_code
def yX3_fillSums : MethodName := ⟨RX3, "fillSums", "()V"⟩
abbrev cX3_sumWith : ByteArray := prog_5_method_8_code
def yX3_sumWith : MethodName := ⟨RX3, "sumWith", "(III)I"⟩
abbrev cX3_stillWanted : ByteArray := prog_5_method_9_code
def yX3_stillWanted : MethodName := ⟨RX3, "stillWanted", "(II)I"⟩
abbrev cX3_giveTrades : ByteArray := prog_5_method_10_code
def yX3_giveTrades : MethodName := ⟨RX3, "giveTrades", "()V"⟩
def RX4 : String := "ForgottenCrafts$Reader"
def TX4 : u_T := fun k => match k with
  | 0 => ("ForgottenCrafts$Reader", "bytes", "LForgottenCrafts$Row;", true)
  | 1 => ("ForgottenCrafts$Reader", "length", "I", false)
  | 2 => ("ForgottenCrafts$Reader", "token", "I", false)
  | 3 => ("ForgottenCrafts$Reader", "start", "I", false)
  | 4 => ("ForgottenCrafts$Reader", "stop", "I", false)
  | 5 => ("ForgottenCrafts$Reader", "fault", "I", false)
  | _ => ("ForgottenCrafts$Reader", "faultPlace", "I", false)
def tyX4 : Nat → FieldType := fun k => match k with
  | 0 => .object "ForgottenCrafts$Row"
  | 1 => .int
  | 2 => .int
  | 3 => .int
  | 4 => .int
  | 5 => .int
  | _ => .int
abbrev wsX40 : List Cond := u_ws RX4 TX4 7
theorem nmX4 : ∀ a, a < 7 → ∀ b, b < 7 → a ≠ b → (TX4 a).2.1 ≠ (TX4 b).2.1 := by decide +kernel
theorem tyX4_ok : ∀ k, k < 7 → parseFieldDescriptor (TX4 k).2.2.1 = some (tyX4 k) := by decide +kernel
abbrev cX4_init : ByteArray := prog_6_method_1_code
def yX4_init : MethodName := ⟨RX4, "<init>", "()V"⟩
abbrev cX4_append : ByteArray := prog_6_method_2_code
def yX4_append : MethodName := ⟨RX4, "append", "(I)V"⟩
abbrev cX4_clear : ByteArray := prog_6_method_3_code
def yX4_clear : MethodName := ⟨RX4, "clear", "()V"⟩
abbrev cX4_open : ByteArray := prog_6_method_4_code
def yX4_open : MethodName := ⟨RX4, "open", "()V"⟩
abbrev cX4_isSound : ByteArray := prog_6_method_5_code
def yX4_isSound : MethodName := ⟨RX4, "isSound", "()Z"⟩
abbrev cX4_blame : ByteArray := prog_6_method_6_code
def yX4_blame : MethodName := ⟨RX4, "blame", "(II)V"⟩
abbrev cX4_advance : ByteArray := prog_6_method_7_code
def yX4_advance : MethodName := ⟨RX4, "advance", "()V"⟩
abbrev cX4_tokenOf : ByteArray := prog_6_method_8_code
def yX4_tokenOf : MethodName := ⟨RX4, "tokenOf", "(I)I"⟩
abbrev cX4_sees : ByteArray := prog_6_method_9_code
def yX4_sees : MethodName := ⟨RX4, "sees", "(Ljava/lang/String;)Z"⟩
abbrev cX4_number : ByteArray := prog_6_method_10_code
def yX4_number : MethodName := ⟨RX4, "number", "(II)I"⟩
abbrev cX4_figures : ByteArray := prog_6_method_11_code
def yX4_figures : MethodName := ⟨RX4, "figures", "()I"⟩
abbrev cX4_closeClause : ByteArray := prog_6_method_12_code
def yX4_closeClause : MethodName := ⟨RX4, "closeClause", "()V"⟩
def RX5 : String := "ForgottenCrafts$Rings"
def TX5 : u_T := fun k => match k with
  | 0 => ("ForgottenCrafts$Rings", "life", "LForgottenCrafts$Life;", true)
  | 1 => ("ForgottenCrafts$Rings", "offers", "LForgottenCrafts$Row;", true)
  | 2 => ("ForgottenCrafts$Rings", "gains", "LForgottenCrafts$Row;", true)
  | 3 => ("ForgottenCrafts$Rings", "path", "LForgottenCrafts$Row;", true)
  | 4 => ("ForgottenCrafts$Rings", "best", "LForgottenCrafts$Row;", true)
  | 5 => ("ForgottenCrafts$Rings", "bestSum", "I", false)
  | _ => ("ForgottenCrafts$Rings", "bestSize", "I", false)
def tyX5 : Nat → FieldType := fun k => match k with
  | 0 => .object "ForgottenCrafts$Life"
  | 1 => .object "ForgottenCrafts$Row"
  | 2 => .object "ForgottenCrafts$Row"
  | 3 => .object "ForgottenCrafts$Row"
  | 4 => .object "ForgottenCrafts$Row"
  | 5 => .int
  | _ => .int
abbrev wsX50 : List Cond := u_ws RX5 TX5 7
theorem nmX5 : ∀ a, a < 7 → ∀ b, b < 7 → a ≠ b → (TX5 a).2.1 ≠ (TX5 b).2.1 := by decide +kernel
theorem tyX5_ok : ∀ k, k < 7 → parseFieldDescriptor (TX5 k).2.2.1 = some (tyX5 k) := by decide +kernel
abbrev cX5_init : ByteArray := prog_7_method_1_code
def yX5_init : MethodName := ⟨RX5, "<init>", "(LForgottenCrafts$Life;)V"⟩
abbrev cX5_search : ByteArray := prog_7_method_2_code
def yX5_search : MethodName := ⟨RX5, "search", "()V"⟩
abbrev cX5_fillGains : ByteArray := prog_7_method_3_code
def yX5_fillGains : MethodName := ⟨RX5, "fillGains", "()V"⟩
abbrev cX5_gainOf : ByteArray := prog_7_method_4_code
def yX5_gainOf : MethodName := ⟨RX5, "gainOf", "(III)I"⟩
abbrev cX5_gainFrom : ByteArray := prog_7_method_5_code
def yX5_gainFrom : MethodName := ⟨RX5, "gainFrom", "(II)I"⟩
abbrev cX5_walkOn : ByteArray := prog_7_method_6_code
def yX5_walkOn : MethodName := ⟨RX5, "walkOn", "(LForgottenCrafts$Rings;III)V"⟩
abbrev cX5_isOnPath : ByteArray := prog_7_method_7_code
def yX5_isOnPath : MethodName := ⟨RX5, "isOnPath", "(II)Z"⟩
abbrev cX5_closeRing : ByteArray := prog_7_method_8_code
def yX5_closeRing : MethodName := ⟨RX5, "closeRing", "(III)V"⟩
def RX6 : String := "ForgottenCrafts$Row"
def TX6 : u_T := fun k => match k with
  | _ => ("ForgottenCrafts$Row", "cells", "[I", true)
def tyX6 : Nat → FieldType := fun k => match k with
  | _ => .array .int
abbrev wsX60 : List Cond := u_ws RX6 TX6 1
theorem nmX6 : ∀ a, a < 1 → ∀ b, b < 1 → a ≠ b → (TX6 a).2.1 ≠ (TX6 b).2.1 := by decide +kernel
theorem tyX6_ok : ∀ k, k < 1 → parseFieldDescriptor (TX6 k).2.2.1 = some (tyX6 k) := by decide +kernel
abbrev cX6_init : ByteArray := prog_8_method_1_code
def yX6_init : MethodName := ⟨RX6, "<init>", "(I)V"⟩
abbrev cX6_at : ByteArray := prog_8_method_2_code
def yX6_at : MethodName := ⟨RX6, "at", "(I)I"⟩
abbrev cX6_put : ByteArray := prog_8_method_3_code
def yX6_put : MethodName := ⟨RX6, "put", "(II)V"⟩
abbrev cX6_fill : ByteArray := prog_8_method_4_code
def yX6_fill : MethodName := ⟨RX6, "fill", "(I)V"⟩
abbrev cX6_copyFrom : ByteArray := prog_8_method_5_code
def yX6_copyFrom : MethodName := ⟨RX6, "copyFrom", "(LForgottenCrafts$Row;)V"⟩
def RX7 : String := "ForgottenCrafts$Rules"
def TX7 : u_T := fun k => match k with
  | 0 => ("ForgottenCrafts$Rules", "holds", "I", false)
  | 1 => ("ForgottenCrafts$Rules", "witnesses", "I", false)
  | 2 => ("ForgottenCrafts$Rules", "fades", "I", false)
  | 3 => ("ForgottenCrafts$Rules", "rusts", "I", false)
  | 4 => ("ForgottenCrafts$Rules", "dies", "I", false)
  | 5 => ("ForgottenCrafts$Rules", "lent", "Z", false)
  | _ => ("ForgottenCrafts$Rules", "clausesSeen", "I", false)
def tyX7 : Nat → FieldType := fun k => match k with
  | 0 => .int
  | 1 => .int
  | 2 => .int
  | 3 => .int
  | 4 => .int
  | 5 => .boolean
  | _ => .int
abbrev wsX70 : List Cond := u_ws RX7 TX7 7
theorem nmX7 : ∀ a, a < 7 → ∀ b, b < 7 → a ≠ b → (TX7 a).2.1 ≠ (TX7 b).2.1 := by decide +kernel
theorem tyX7_ok : ∀ k, k < 7 → parseFieldDescriptor (TX7 k).2.2.1 = some (tyX7 k) := by decide +kernel
abbrev cX7_init : ByteArray := prog_9_method_1_code
def yX7_init : MethodName := ⟨RX7, "<init>", "()V"⟩
abbrev cX7_copyFrom : ByteArray := prog_9_method_2_code
def yX7_copyFrom : MethodName := ⟨RX7, "copyFrom", "(LForgottenCrafts$Rules;)V"⟩
abbrev cX7_clear : ByteArray := prog_9_method_3_code
def yX7_clear : MethodName := ⟨RX7, "clear", "()V"⟩
abbrev cX7_readFrom : ByteArray := prog_9_method_4_code
def yX7_readFrom : MethodName := ⟨RX7, "readFrom", "(LForgottenCrafts$Reader;)I"⟩
abbrev cX7_readClause : ByteArray := prog_9_method_5_code
def yX7_readClause : MethodName := ⟨RX7, "readClause", "(LForgottenCrafts$Reader;)V"⟩
abbrev cX7_opens : ByteArray := prog_9_method_6_code
def yX7_opens : MethodName := ⟨RX7, "opens", "(LForgottenCrafts$Reader;Ljava/lang/String;I)Z"⟩
def RX8 : String := "ForgottenCrafts$Shelf"
def TX8 : u_T := fun k => match k with
  | 0 => ("ForgottenCrafts$Shelf", "thingTrades", "LForgottenCrafts$Row;", true)
  | 1 => ("ForgottenCrafts$Shelf", "qualities", "LForgottenCrafts$Row;", true)
  | 2 => ("ForgottenCrafts$Shelf", "thingMakers", "LForgottenCrafts$Row;", true)
  | 3 => ("ForgottenCrafts$Shelf", "entryPeople", "LForgottenCrafts$Row;", true)
  | 4 => ("ForgottenCrafts$Shelf", "entryTrades", "LForgottenCrafts$Row;", true)
  | 5 => ("ForgottenCrafts$Shelf", "entrySkills", "LForgottenCrafts$Row;", true)
  | 6 => ("ForgottenCrafts$Shelf", "things", "I", false)
  | 7 => ("ForgottenCrafts$Shelf", "entries", "I", false)
  | 8 => ("ForgottenCrafts$Shelf", "fitting", "I", false)
  | 9 => ("ForgottenCrafts$Shelf", "possible", "I", false)
  | _ => ("ForgottenCrafts$Shelf", "inAllFits", "I", false)
def tyX8 : Nat → FieldType := fun k => match k with
  | 0 => .object "ForgottenCrafts$Row"
  | 1 => .object "ForgottenCrafts$Row"
  | 2 => .object "ForgottenCrafts$Row"
  | 3 => .object "ForgottenCrafts$Row"
  | 4 => .object "ForgottenCrafts$Row"
  | 5 => .object "ForgottenCrafts$Row"
  | 6 => .int
  | 7 => .int
  | 8 => .int
  | 9 => .int
  | _ => .int
abbrev wsX80 : List Cond := u_ws RX8 TX8 11
theorem nmX8 : ∀ a, a < 11 → ∀ b, b < 11 → a ≠ b → (TX8 a).2.1 ≠ (TX8 b).2.1 := by decide +kernel
theorem tyX8_ok : ∀ k, k < 11 → parseFieldDescriptor (TX8 k).2.2.1 = some (tyX8 k) := by decide +kernel
abbrev cX8_init : ByteArray := prog_10_method_1_code
def yX8_init : MethodName := ⟨RX8, "<init>", "()V"⟩
abbrev cX8_clear : ByteArray := prog_10_method_2_code
def yX8_clear : MethodName := ⟨RX8, "clear", "()V"⟩
abbrev cX8_addThing : ByteArray := prog_10_method_3_code
def yX8_addThing : MethodName := ⟨RX8, "addThing", "(II)I"⟩
abbrev cX8_makersOf : ByteArray := prog_10_method_4_code
def yX8_makersOf : MethodName := ⟨RX8, "makersOf", "(ILForgottenCrafts$Folk;)I"⟩
abbrev cX8_countFits : ByteArray := prog_10_method_5_code
def yX8_countFits : MethodName := ⟨RX8, "countFits", "(ILForgottenCrafts$Folk;)V"⟩
abbrev cX8_countIfFit : ByteArray := prog_10_method_6_code
def yX8_countIfFit : MethodName := ⟨RX8, "countIfFit", "(I)V"⟩
abbrev cX8_addEntry : ByteArray := prog_10_method_7_code
def yX8_addEntry : MethodName := ⟨RX8, "addEntry", "(III)I"⟩
abbrev cX8_firstWrong : ByteArray := prog_10_method_8_code
def yX8_firstWrong : MethodName := ⟨RX8, "firstWrong", "(LForgottenCrafts$Folk;)I"⟩
def RX9 : String := "ForgottenCrafts$TownTeller"
def TX9 : u_T := fun k => match k with
  | 0 => ("ForgottenCrafts$TownTeller", "reader", "LForgottenCrafts$Reader;", true)
  | 1 => ("ForgottenCrafts$TownTeller", "crafts", "LForgottenCrafts$Crafts;", true)
  | 2 => ("ForgottenCrafts$TownTeller", "folk", "LForgottenCrafts$Folk;", true)
  | 3 => ("ForgottenCrafts$TownTeller", "likesTold", "I", false)
  | _ => ("ForgottenCrafts$TownTeller", "likedCells", "J", false)
def tyX9 : Nat → FieldType := fun k => match k with
  | 0 => .object "ForgottenCrafts$Reader"
  | 1 => .object "ForgottenCrafts$Crafts"
  | 2 => .object "ForgottenCrafts$Folk"
  | 3 => .int
  | _ => .long
abbrev wsX90 : List Cond := u_ws RX9 TX9 5
theorem nmX9 : ∀ a, a < 5 → ∀ b, b < 5 → a ≠ b → (TX9 a).2.1 ≠ (TX9 b).2.1 := by decide +kernel
theorem tyX9_ok : ∀ k, k < 5 → parseFieldDescriptor (TX9 k).2.2.1 = some (tyX9 k) := by decide +kernel
abbrev cX9_init : ByteArray := prog_11_method_1_code
def yX9_init : MethodName := ⟨RX9, "<init>", "(LForgottenCrafts$Reader;LForgottenCrafts$Crafts;LForgottenCrafts$Folk;)V"⟩
abbrev cX9_tellAll : ByteArray := prog_11_method_2_code
def yX9_tellAll : MethodName := ⟨RX9, "tellAll", "()V"⟩
abbrev cX9_tellTrade : ByteArray := prog_11_method_3_code
def yX9_tellTrade : MethodName := ⟨RX9, "tellTrade", "()V"⟩
abbrev cX9_openClause : ByteArray := prog_11_method_4_code
def yX9_openClause : MethodName := ⟨RX9, "openClause", "(Z)V"⟩
abbrev cX9_kindHere : ByteArray := prog_11_method_5_code
def yX9_kindHere : MethodName := ⟨RX9, "kindHere", "()I"⟩
abbrev cX9_tellPerson : ByteArray := prog_11_method_6_code
def yX9_tellPerson : MethodName := ⟨RX9, "tellPerson", "()V"⟩
abbrev cX9_tellSkill : ByteArray := prog_11_method_7_code
def yX9_tellSkill : MethodName := ⟨RX9, "tellSkill", "(I)V"⟩
abbrev cX9_tellLike : ByteArray := prog_11_method_8_code
def yX9_tellLike : MethodName := ⟨RX9, "tellLike", "()V"⟩
def RX10 : String := "ForgottenCrafts"
def TX10 : u_T := fun k => match k with
  | 0 => ("ForgottenCrafts", "text", "LForgottenCrafts$Reader;", true)
  | 1 => ("ForgottenCrafts", "crafts", "LForgottenCrafts$Crafts;", true)
  | 2 => ("ForgottenCrafts", "draftCrafts", "LForgottenCrafts$Crafts;", true)
  | 3 => ("ForgottenCrafts", "rules", "LForgottenCrafts$Rules;", true)
  | 4 => ("ForgottenCrafts", "draftRules", "LForgottenCrafts$Rules;", true)
  | 5 => ("ForgottenCrafts", "triedRules", "LForgottenCrafts$Rules;", true)
  | 6 => ("ForgottenCrafts", "folk", "LForgottenCrafts$Folk;", true)
  | 7 => ("ForgottenCrafts", "toldFolk", "LForgottenCrafts$Folk;", true)
  | 8 => ("ForgottenCrafts", "draftFolk", "LForgottenCrafts$Folk;", true)
  | 9 => ("ForgottenCrafts", "triedFolk", "LForgottenCrafts$Folk;", true)
  | 10 => ("ForgottenCrafts", "firstImage", "LForgottenCrafts$Folk;", true)
  | 11 => ("ForgottenCrafts", "secondImage", "LForgottenCrafts$Folk;", true)
  | 12 => ("ForgottenCrafts", "wants", "LForgottenCrafts$Row;", true)
  | 13 => ("ForgottenCrafts", "shelf", "LForgottenCrafts$Shelf;", true)
  | 14 => ("ForgottenCrafts", "teller", "LForgottenCrafts$TownTeller;", true)
  | 15 => ("ForgottenCrafts", "life", "LForgottenCrafts$Life;", true)
  | 16 => ("ForgottenCrafts", "trial", "LForgottenCrafts$Life;", true)
  | 17 => ("ForgottenCrafts", "plan", "LForgottenCrafts$Plan;", true)
  | 18 => ("ForgottenCrafts", "rings", "LForgottenCrafts$Rings;", true)
  | _ => ("ForgottenCrafts", "keptImages", "I", false)
def tyX10 : Nat → FieldType := fun k => match k with
  | 0 => .object "ForgottenCrafts$Reader"
  | 1 => .object "ForgottenCrafts$Crafts"
  | 2 => .object "ForgottenCrafts$Crafts"
  | 3 => .object "ForgottenCrafts$Rules"
  | 4 => .object "ForgottenCrafts$Rules"
  | 5 => .object "ForgottenCrafts$Rules"
  | 6 => .object "ForgottenCrafts$Folk"
  | 7 => .object "ForgottenCrafts$Folk"
  | 8 => .object "ForgottenCrafts$Folk"
  | 9 => .object "ForgottenCrafts$Folk"
  | 10 => .object "ForgottenCrafts$Folk"
  | 11 => .object "ForgottenCrafts$Folk"
  | 12 => .object "ForgottenCrafts$Row"
  | 13 => .object "ForgottenCrafts$Shelf"
  | 14 => .object "ForgottenCrafts$TownTeller"
  | 15 => .object "ForgottenCrafts$Life"
  | 16 => .object "ForgottenCrafts$Life"
  | 17 => .object "ForgottenCrafts$Plan"
  | 18 => .object "ForgottenCrafts$Rings"
  | _ => .int
abbrev wsX100 : List Cond := u_ws RX10 TX10 20
theorem nmX10 : ∀ a, a < 20 → ∀ b, b < 20 → a ≠ b → (TX10 a).2.1 ≠ (TX10 b).2.1 := by decide +kernel
theorem tyX10_ok : ∀ k, k < 20 → parseFieldDescriptor (TX10 k).2.2.1 = some (tyX10 k) := by decide +kernel
abbrev cX10_init : ByteArray := prog_1_method_1_code
def yX10_init : MethodName := ⟨RX10, "<init>", "()V"⟩
abbrev cX10_feed : ByteArray := prog_1_method_2_code
def yX10_feed : MethodName := ⟨RX10, "feed", "(IJ)I"⟩
abbrev cX10_town : ByteArray := prog_1_method_3_code
def yX10_town : MethodName := ⟨RX10, "town", "()I"⟩
abbrev cX10_laws : ByteArray := prog_1_method_4_code
def yX10_laws : MethodName := ⟨RX10, "laws", "()I"⟩
abbrev cX10_fault : ByteArray := prog_1_method_5_code
def yX10_fault : MethodName := ⟨RX10, "fault", "()I"⟩
abbrev cX10_told : ByteArray := prog_1_method_6_code
def yX10_told : MethodName := ⟨RX10, "told", "(I)I"⟩
abbrev cX10_trade : ByteArray := prog_1_method_7_code
def yX10_trade : MethodName := ⟨RX10, "trade", "(II)I"⟩
abbrev cX10_person : ByteArray := prog_1_method_8_code
def yX10_person : MethodName := ⟨RX10, "person", "(II)I"⟩
abbrev cX10_skill : ByteArray := prog_1_method_9_code
def yX10_skill : MethodName := ⟨RX10, "skill", "(II)I"⟩
abbrev cX10_like : ByteArray := prog_1_method_10_code
def yX10_like : MethodName := ⟨RX10, "like", "(II)I"⟩
abbrev cX10_change : ByteArray := prog_1_method_11_code
def yX10_change : MethodName := ⟨RX10, "change", "(IIII)I"⟩
abbrev cX10_practise : ByteArray := prog_1_method_12_code
def yX10_practise : MethodName := ⟨RX10, "practise", "(II)I"⟩
abbrev cX10_night : ByteArray := prog_1_method_13_code
def yX10_night : MethodName := ⟨RX10, "night", "(II)I"⟩
abbrev cX10_year : ByteArray := prog_1_method_14_code
def yX10_year : MethodName := ⟨RX10, "year", "(I)I"⟩
abbrev cX10_drift : ByteArray := prog_1_method_15_code
def yX10_drift : MethodName := ⟨RX10, "drift", "(II)I"⟩
abbrev cX10_compared : ByteArray := prog_1_method_16_code
def yX10_compared : MethodName := ⟨RX10, "compared", "(III)I"⟩
abbrev cX10_begin : ByteArray := prog_1_method_17_code
def yX10_begin : MethodName := ⟨RX10, "begin", "()I"⟩
abbrev cX10_want : ByteArray := prog_1_method_18_code
def yX10_want : MethodName := ⟨RX10, "want", "(II)I"⟩
abbrev cX10_changed : ByteArray := prog_1_method_19_code
def yX10_changed : MethodName := ⟨RX10, "changed", "(I)I"⟩
abbrev cX10_ring : ByteArray := prog_1_method_20_code
def yX10_ring : MethodName := ⟨RX10, "ring", "(I)I"⟩
abbrev cX10_lastHand : ByteArray := prog_1_method_21_code
def yX10_lastHand : MethodName := ⟨RX10, "lastHand", "(II)I"⟩
abbrev cX10_till : ByteArray := prog_1_method_22_code
def yX10_till : MethodName := ⟨RX10, "till", "(I)I"⟩
abbrev cX10_make : ByteArray := prog_1_method_23_code
def yX10_make : MethodName := ⟨RX10, "make", "(II)I"⟩
abbrev cX10_makers : ByteArray := prog_1_method_24_code
def yX10_makers : MethodName := ⟨RX10, "makers", "(I)I"⟩
abbrev cX10_fits : ByteArray := prog_1_method_25_code
def yX10_fits : MethodName := ⟨RX10, "fits", "(II)I"⟩
abbrev cX10_write : ByteArray := prog_1_method_26_code
def yX10_write : MethodName := ⟨RX10, "write", "(III)I"⟩
abbrev cX10_tear : ByteArray := prog_1_method_27_code
def yX10_tear : MethodName := ⟨RX10, "tear", "()I"⟩
abbrev cX10_judge : ByteArray := prog_1_method_28_code
def yX10_judge : MethodName := ⟨RX10, "judge", "()I"⟩
abbrev cX10_seed : ByteArray := prog_1_method_29_code
def yX10_seed : MethodName := ⟨RX10, "seed", "(I)I"⟩
abbrev cX10_keep : ByteArray := prog_1_method_30_code
def yX10_keep : MethodName := ⟨RX10, "keep", "(I)I"⟩
abbrev cX10_goBack : ByteArray := prog_1_method_31_code
def yX10_goBack : MethodName := ⟨RX10, "goBack", "(I)I"⟩
abbrev cX10_within : ByteArray := prog_1_method_32_code
def yX10_within : MethodName := ⟨RX10, "within", "(III)Z"⟩
abbrev cX10_has : ByteArray := prog_1_method_33_code
def yX10_has : MethodName := ⟨RX10, "has", "(II)Z"⟩
abbrev cX10_leastOf : ByteArray := prog_1_method_34_code
def yX10_leastOf : MethodName := ⟨RX10, "leastOf", "(I)I"⟩
abbrev cX10_cell : ByteArray := prog_1_method_35_code
def yX10_cell : MethodName := ⟨RX10, "cell", "(II)I"⟩
abbrev cX10_isKnownPair : ByteArray := prog_1_method_36_code
def yX10_isKnownPair : MethodName := ⟨RX10, "isKnownPair", "(II)Z"⟩
abbrev cX10_image : ByteArray := prog_1_method_37_code
def yX10_image : MethodName := ⟨RX10, "image", "(I)LForgottenCrafts$Folk;"⟩
abbrev cX10_startAnew : ByteArray := prog_1_method_38_code
def yX10_startAnew : MethodName := ⟨RX10, "startAnew", "()V"⟩
def RX11 : String := "ForgottenCraftsModel"
def TX11 : u_T := fun k => match k with
  | 0 => ("ForgottenCraftsModel", "trades", "I", false)
  | 1 => ("ForgottenCraftsModel", "trade", "[I", true)
  | 2 => ("ForgottenCraftsModel", "persons", "I", false)
  | 3 => ("ForgottenCraftsModel", "toldAge", "[I", true)
  | 4 => ("ForgottenCraftsModel", "toldSkill", "[I", true)
  | 5 => ("ForgottenCraftsModel", "likes", "[I", true)
  | 6 => ("ForgottenCraftsModel", "holds", "I", false)
  | 7 => ("ForgottenCraftsModel", "witnesses", "I", false)
  | 8 => ("ForgottenCraftsModel", "fades", "I", false)
  | 9 => ("ForgottenCraftsModel", "rusts", "I", false)
  | 10 => ("ForgottenCraftsModel", "dies", "I", false)
  | 11 => ("ForgottenCraftsModel", "isLent", "Z", false)
  | 12 => ("ForgottenCraftsModel", "age", "[I", true)
  | 13 => ("ForgottenCraftsModel", "lives", "[Z", true)
  | 14 => ("ForgottenCraftsModel", "skill", "[I", true)
  | 15 => ("ForgottenCraftsModel", "goneAt", "[I", true)
  | 16 => ("ForgottenCraftsModel", "practises", "[I", true)
  | 17 => ("ForgottenCraftsModel", "learns", "[I", true)
  | 18 => ("ForgottenCraftsModel", "learnt", "[I", true)
  | 19 => ("ForgottenCraftsModel", "forgets", "[I", true)
  | 20 => ("ForgottenCraftsModel", "earned", "[I", true)
  | 21 => ("ForgottenCraftsModel", "isWitness", "[Z", true)
  | 22 => ("ForgottenCraftsModel", "byNight", "[Z", true)
  | 23 => ("ForgottenCraftsModel", "year", "I", false)
  | 24 => ("ForgottenCraftsModel", "seed", "I", false)
  | 25 => ("ForgottenCraftsModel", "wants", "[I", true)
  | 26 => ("ForgottenCraftsModel", "text", "[I", true)
  | 27 => ("ForgottenCraftsModel", "texted", "I", false)
  | 28 => ("ForgottenCraftsModel", "faultPlace", "I", false)
  | 29 => ("ForgottenCraftsModel", "at0", "I", false)
  | 30 => ("ForgottenCraftsModel", "said", "J", false)
  | 31 => ("ForgottenCraftsModel", "wordEnd", "I", false)
  | 32 => ("ForgottenCraftsModel", "number", "I", false)
  | 33 => ("ForgottenCraftsModel", "numberAt", "I", false)
  | 34 => ("ForgottenCraftsModel", "readTrades", "I", false)
  | 35 => ("ForgottenCraftsModel", "readTrade", "[I", true)
  | 36 => ("ForgottenCraftsModel", "readPersons", "I", false)
  | 37 => ("ForgottenCraftsModel", "readAge", "[I", true)
  | 38 => ("ForgottenCraftsModel", "readSkill", "[I", true)
  | 39 => ("ForgottenCraftsModel", "readLikes", "I", false)
  | 40 => ("ForgottenCraftsModel", "readLike", "[I", true)
  | 41 => ("ForgottenCraftsModel", "readLaw", "[I", true)
  | 42 => ("ForgottenCraftsModel", "least", "[I", true)
  | 43 => ("ForgottenCraftsModel", "step", "[I", true)
  | 44 => ("ForgottenCraftsModel", "states", "I", false)
  | 45 => ("ForgottenCraftsModel", "ring", "[I", true)
  | 46 => ("ForgottenCraftsModel", "bestRing", "[I", true)
  | 47 => ("ForgottenCraftsModel", "ringMany", "I", false)
  | 48 => ("ForgottenCraftsModel", "made", "I", false)
  | 49 => ("ForgottenCraftsModel", "madeOf", "[I", true)
  | 50 => ("ForgottenCraftsModel", "madeBy", "[I", true)
  | 51 => ("ForgottenCraftsModel", "booked", "I", false)
  | 52 => ("ForgottenCraftsModel", "bookWho", "[I", true)
  | 53 => ("ForgottenCraftsModel", "bookOf", "[I", true)
  | 54 => ("ForgottenCraftsModel", "bookSkill", "[I", true)
  | 55 => ("ForgottenCraftsModel", "images", "[I", true)
  | _ => ("ForgottenCraftsModel", "isKept", "[Z", true)
def tyX11 : Nat → FieldType := fun k => match k with
  | 0 => .int
  | 1 => .array .int
  | 2 => .int
  | 3 => .array .int
  | 4 => .array .int
  | 5 => .array .int
  | 6 => .int
  | 7 => .int
  | 8 => .int
  | 9 => .int
  | 10 => .int
  | 11 => .boolean
  | 12 => .array .int
  | 13 => .array .boolean
  | 14 => .array .int
  | 15 => .array .int
  | 16 => .array .int
  | 17 => .array .int
  | 18 => .array .int
  | 19 => .array .int
  | 20 => .array .int
  | 21 => .array .boolean
  | 22 => .array .boolean
  | 23 => .int
  | 24 => .int
  | 25 => .array .int
  | 26 => .array .int
  | 27 => .int
  | 28 => .int
  | 29 => .int
  | 30 => .long
  | 31 => .int
  | 32 => .int
  | 33 => .int
  | 34 => .int
  | 35 => .array .int
  | 36 => .int
  | 37 => .array .int
  | 38 => .array .int
  | 39 => .int
  | 40 => .array .int
  | 41 => .array .int
  | 42 => .array .int
  | 43 => .array .int
  | 44 => .int
  | 45 => .array .int
  | 46 => .array .int
  | 47 => .int
  | 48 => .int
  | 49 => .array .int
  | 50 => .array .int
  | 51 => .int
  | 52 => .array .int
  | 53 => .array .int
  | 54 => .array .int
  | 55 => .array .int
  | _ => .array .boolean
abbrev wsX110 : List Cond := u_ws RX11 TX11 57
theorem nmX11 : ∀ a, a < 57 → ∀ b, b < 57 → a ≠ b → (TX11 a).2.1 ≠ (TX11 b).2.1 := by decide +kernel
theorem tyX11_ok : ∀ k, k < 57 → parseFieldDescriptor (TX11 k).2.2.1 = some (tyX11 k) := by decide +kernel
abbrev cX11_init : ByteArray := prog_13_method_1_code
def yX11_init : MethodName := ⟨RX11, "<init>", "()V"⟩
abbrev cX11_in : ByteArray := prog_13_method_3_code
def yX11_in : MethodName := ⟨RX11, "in", "(JJJ)Z"⟩
abbrev cX11_has : ByteArray := prog_13_method_4_code
def yX11_has : MethodName := ⟨RX11, "has", "(II)Z"⟩
abbrev cX11_bits : ByteArray := prog_13_method_5_code
def yX11_bits : MethodName := ⟨RX11, "bits", "(I)I"⟩
abbrev cX11_isTrade : ByteArray := prog_13_method_6_code
def yX11_isTrade : MethodName := ⟨RX11, "isTrade", "(I)Z"⟩
abbrev cX11_isPerson : ByteArray := prog_13_method_7_code
def yX11_isPerson : MethodName := ⟨RX11, "isPerson", "(I)Z"⟩
abbrev cX11_knows : ByteArray := prog_13_method_8_code
def yX11_knows : MethodName := ⟨RX11, "knows", "(II)Z"⟩
abbrev cX11_knownMany : ByteArray := prog_13_method_9_code
def yX11_knownMany : MethodName := ⟨RX11, "knownMany", "(I)I"⟩
abbrev cX11_bestOf : ByteArray := prog_13_method_10_code
def yX11_bestOf : MethodName := ⟨RX11, "bestOf", "(I)I"⟩
abbrev cX11_begin : ByteArray := prog_13_method_11_code
def yX11_begin : MethodName := ⟨RX11, "begin", "()I"⟩
abbrev cX11_feed : ByteArray := prog_13_method_12_code
def yX11_feed : MethodName := ⟨RX11, "feed", "(IJ)I"⟩
abbrev cX11_here : ByteArray := prog_13_method_13_code
def yX11_here : MethodName := ⟨RX11, "here", "()I"⟩
abbrev cX11_fails : ByteArray := prog_13_method_14_code
def yX11_fails : MethodName := ⟨RX11, "fails", "(II)I"⟩
abbrev cX11_readWord : ByteArray := prog_13_method_15_code
def yX11_readWord : MethodName := ⟨RX11, "readWord", "()V"⟩
abbrev cX11_code : ByteArray := prog_13_method_16_code
def yX11_code : MethodName := ⟨RX11, "code", "(IIII)J"⟩
abbrev cX11_longer : ByteArray := prog_13_method_17_code
def yX11_longer : MethodName := ⟨RX11, "longer", "(JI)J"⟩
abbrev cX11_takeNumber : ByteArray := prog_13_method_18_code
def yX11_takeNumber : MethodName := ⟨RX11, "takeNumber", "(II)I"⟩
abbrev cX11_into : ByteArray := prog_13_method_19_code
def yX11_into : MethodName := ⟨RX11, "into", "([IIII)I"⟩
abbrev cX11_takeStop : ByteArray := prog_13_method_20_code
def yX11_takeStop : MethodName := ⟨RX11, "takeStop", "()I"⟩
abbrev cX11_takeTrade : ByteArray := prog_13_method_21_code
def yX11_takeTrade : MethodName := ⟨RX11, "takeTrade", "()I"⟩
abbrev cX11_takePerson : ByteArray := prog_13_method_22_code
def yX11_takePerson : MethodName := ⟨RX11, "takePerson", "()I"⟩
abbrev cX11_takeLikes : ByteArray := prog_13_method_23_code
def yX11_takeLikes : MethodName := ⟨RX11, "takeLikes", "()I"⟩
abbrev cX11_takeClause : ByteArray := prog_13_method_24_code
def yX11_takeClause : MethodName := ⟨RX11, "takeClause", "()I"⟩
abbrev cX11_town : ByteArray := prog_13_method_25_code
def yX11_town : MethodName := ⟨RX11, "town", "()I"⟩
abbrev cX11_takeLaw : ByteArray := prog_13_method_26_code
def yX11_takeLaw : MethodName := ⟨RX11, "takeLaw", "()I"⟩
abbrev cX11_laws : ByteArray := prog_13_method_27_code
def yX11_laws : MethodName := ⟨RX11, "laws", "()I"⟩
abbrev cX11_fault : ByteArray := prog_13_method_28_code
def yX11_fault : MethodName := ⟨RX11, "fault", "()I"⟩
abbrev cX11_livesSet : ByteArray := prog_13_method_29_code
def yX11_livesSet : MethodName := ⟨RX11, "livesSet", "()I"⟩
abbrev cX11_knowers : ByteArray := prog_13_method_30_code
def yX11_knowers : MethodName := ⟨RX11, "knowers", "(II)I"⟩
abbrev cX11_deadSet : ByteArray := prog_13_method_31_code
def yX11_deadSet : MethodName := ⟨RX11, "deadSet", "()I"⟩
abbrev cX11_told : ByteArray := prog_13_method_32_code
def yX11_told : MethodName := ⟨RX11, "told", "(I)I"⟩
abbrev cX11_trade : ByteArray := prog_13_method_33_code
def yX11_trade : MethodName := ⟨RX11, "trade", "(II)I"⟩
abbrev cX11_knownSet : ByteArray := prog_13_method_34_code
def yX11_knownSet : MethodName := ⟨RX11, "knownSet", "(I)I"⟩
abbrev cX11_person : ByteArray := prog_13_method_35_code
def yX11_person : MethodName := ⟨RX11, "person", "(II)I"⟩
abbrev cX11_skill : ByteArray := prog_13_method_36_code
def yX11_skill : MethodName := ⟨RX11, "skill", "(II)I"⟩
abbrev cX11_like : ByteArray := prog_13_method_37_code
def yX11_like : MethodName := ⟨RX11, "like", "(II)I"⟩
abbrev cX11_findWitnesses : ByteArray := prog_13_method_38_code
def yX11_findWitnesses : MethodName := ⟨RX11, "findWitnesses", "(II)I"⟩
abbrev cX11_mayLearn : ByteArray := prog_13_method_39_code
def yX11_mayLearn : MethodName := ⟨RX11, "mayLearn", "(II)Z"⟩
abbrev cX11_mayGive : ByteArray := prog_13_method_40_code
def yX11_mayGive : MethodName := ⟨RX11, "mayGive", "(IIII)Z"⟩
abbrev cX11_changeNow : ByteArray := prog_13_method_41_code
def yX11_changeNow : MethodName := ⟨RX11, "changeNow", "(IIII)I"⟩
abbrev cX11_change : ByteArray := prog_13_method_42_code
def yX11_change : MethodName := ⟨RX11, "change", "(IIII)I"⟩
abbrev cX11_practise : ByteArray := prog_13_method_43_code
def yX11_practise : MethodName := ⟨RX11, "practise", "(II)I"⟩
abbrev cX11_draw : ByteArray := prog_13_method_44_code
def yX11_draw : MethodName := ⟨RX11, "draw", "(I)I"⟩
abbrev cX11_night : ByteArray := prog_13_method_45_code
def yX11_night : MethodName := ⟨RX11, "night", "(II)I"⟩
abbrev cX11_forgetOn : ByteArray := prog_13_method_46_code
def yX11_forgetOn : MethodName := ⟨RX11, "forgetOn", "(II)V"⟩
abbrev cX11_learnOn : ByteArray := prog_13_method_47_code
def yX11_learnOn : MethodName := ⟨RX11, "learnOn", "(II)V"⟩
abbrev cX11_tradeYear : ByteArray := prog_13_method_48_code
def yX11_tradeYear : MethodName := ⟨RX11, "tradeYear", "(II)V"⟩
abbrev cX11_die : ByteArray := prog_13_method_49_code
def yX11_die : MethodName := ⟨RX11, "die", "(I)V"⟩
abbrev cX11_yearNow : ByteArray := prog_13_method_50_code
def yX11_yearNow : MethodName := ⟨RX11, "yearNow", "()I"⟩
abbrev cX11_year : ByteArray := prog_13_method_51_code
def yX11_year : MethodName := ⟨RX11, "year", "(I)I"⟩
abbrev cX11_leastLiked : ByteArray := prog_13_method_52_code
def yX11_leastLiked : MethodName := ⟨RX11, "leastLiked", "(I)I"⟩
abbrev cX11_drawYear : ByteArray := prog_13_method_53_code
def yX11_drawYear : MethodName := ⟨RX11, "drawYear", "(I)V"⟩
abbrev cX11_isDrift : ByteArray := prog_13_method_54_code
def yX11_isDrift : MethodName := ⟨RX11, "isDrift", "(II)Z"⟩
abbrev cX11_drift : ByteArray := prog_13_method_55_code
def yX11_drift : MethodName := ⟨RX11, "drift", "(II)I"⟩
abbrev cX11_compared : ByteArray := prog_13_method_56_code
def yX11_compared : MethodName := ⟨RX11, "compared", "(III)I"⟩
abbrev cX11_want : ByteArray := prog_13_method_57_code
def yX11_want : MethodName := ⟨RX11, "want", "(II)I"⟩
abbrev cX11_costOf : ByteArray := prog_13_method_58_code
def yX11_costOf : MethodName := ⟨RX11, "costOf", "(II)I"⟩
abbrev cX11_findLeast : ByteArray := prog_13_method_59_code
def yX11_findLeast : MethodName := ⟨RX11, "findLeast", "()Z"⟩
abbrev cX11_byGiving : ByteArray := prog_13_method_60_code
def yX11_byGiving : MethodName := ⟨RX11, "byGiving", "(III)I"⟩
abbrev cX11_changed : ByteArray := prog_13_method_61_code
def yX11_changed : MethodName := ⟨RX11, "changed", "(I)I"⟩
abbrev cX11_maySwap : ByteArray := prog_13_method_62_code
def yX11_maySwap : MethodName := ⟨RX11, "maySwap", "(I)Z"⟩
abbrev cX11_gainBy : ByteArray := prog_13_method_63_code
def yX11_gainBy : MethodName := ⟨RX11, "gainBy", "(II)I"⟩
abbrev cX11_ringSum : ByteArray := prog_13_method_64_code
def yX11_ringSum : MethodName := ⟨RX11, "ringSum", "(I)I"⟩
abbrev cX11_isRing : ByteArray := prog_13_method_65_code
def yX11_isRing : MethodName := ⟨RX11, "isRing", "(II)Z"⟩
abbrev cX11_findRing : ByteArray := prog_13_method_66_code
def yX11_findRing : MethodName := ⟨RX11, "findRing", "()I"⟩
abbrev cX11_ring : ByteArray := prog_13_method_67_code
def yX11_ring : MethodName := ⟨RX11, "ring", "(I)I"⟩
abbrev cX11_lastHand : ByteArray := prog_13_method_68_code
def yX11_lastHand : MethodName := ⟨RX11, "lastHand", "(II)I"⟩
abbrev cX11_till : ByteArray := prog_13_method_69_code
def yX11_till : MethodName := ⟨RX11, "till", "(I)I"⟩
abbrev cX11_make : ByteArray := prog_13_method_70_code
def yX11_make : MethodName := ⟨RX11, "make", "(II)I"⟩
abbrev cX11_makers : ByteArray := prog_13_method_71_code
def yX11_makers : MethodName := ⟨RX11, "makers", "(I)I"⟩
abbrev cX11_fits : ByteArray := prog_13_method_72_code
def yX11_fits : MethodName := ⟨RX11, "fits", "(II)I"⟩
abbrev cX11_write : ByteArray := prog_13_method_73_code
def yX11_write : MethodName := ⟨RX11, "write", "(III)I"⟩
abbrev cX11_tear : ByteArray := prog_13_method_74_code
def yX11_tear : MethodName := ⟨RX11, "tear", "()I"⟩
abbrev cX11_judge : ByteArray := prog_13_method_75_code
def yX11_judge : MethodName := ⟨RX11, "judge", "()I"⟩
abbrev cX11_seed : ByteArray := prog_13_method_76_code
def yX11_seed : MethodName := ⟨RX11, "seed", "(I)I"⟩
abbrev cX11_save : ByteArray := prog_13_method_77_code
def yX11_save : MethodName := ⟨RX11, "save", "(I)V"⟩
abbrev cX11_load : ByteArray := prog_13_method_78_code
def yX11_load : MethodName := ⟨RX11, "load", "(I)V"⟩
abbrev cX11_keep : ByteArray := prog_13_method_79_code
def yX11_keep : MethodName := ⟨RX11, "keep", "(I)I"⟩
abbrev cX11_goBack : ByteArray := prog_13_method_80_code
def yX11_goBack : MethodName := ⟨RX11, "goBack", "(I)I"⟩
def RJ6 : String := "java/lang/Integer"
def TJ6 : u_T := fun k => match k with
  | _ => ("", "", "", false)
def tyJ6 : Nat → FieldType := fun k => match k with
  | _ => .int
abbrev wsJ60 : List Cond := u_ws RJ6 TJ6 0
theorem nmJ6 : ∀ a, a < 0 → ∀ b, b < 0 → a ≠ b → (TJ6 a).2.1 ≠ (TJ6 b).2.1 := by decide +kernel
theorem tyJ6_ok : ∀ k, k < 0 → parseFieldDescriptor (TJ6 k).2.2.1 = some (tyJ6 k) := by decide +kernel
abbrev cJ6_bitCount_0f7a4 : ByteArray := prog_14_method_49_code
def yJ6_bitCount_0f7a4 : MethodName := ⟨RJ6, "bitCount", "(I)I"⟩
def RJ9 : String := "java/lang/Math"
def TJ9 : u_T := fun k => match k with
  | _ => ("", "", "", false)
def tyJ9 : Nat → FieldType := fun k => match k with
  | _ => .int
abbrev wsJ90 : List Cond := u_ws RJ9 TJ9 0
theorem nmJ9 : ∀ a, a < 0 → ∀ b, b < 0 → a ≠ b → (TJ9 a).2.1 ≠ (TJ9 b).2.1 := by decide +kernel
theorem tyJ9_ok : ∀ k, k < 0 → parseFieldDescriptor (TJ9 k).2.2.1 = some (tyJ9 k) := by decide +kernel
abbrev cJ9_max_7cf53 : ByteArray := prog_15_method_65_code
def yJ9_max_7cf53 : MethodName := ⟨RJ9, "max", "(II)I"⟩
abbrev cJ9_min_7cf53 : ByteArray := prog_15_method_69_code
def yJ9_min_7cf53 : MethodName := ⟨RJ9, "min", "(II)I"⟩
def RJ0 : String := "java/lang/String"
def TJ0 : u_T := fun k => match k with
  | _ => ("", "", "", false)
def tyJ0 : Nat → FieldType := fun k => match k with
  | _ => .int
abbrev wsJ00 : List Cond := u_ws RJ0 TJ0 0
theorem nmJ0 : ∀ a, a < 0 → ∀ b, b < 0 → a ≠ b → (TJ0 a).2.1 ≠ (TJ0 b).2.1 := by decide +kernel
theorem tyJ0_ok : ∀ k, k < 0 → parseFieldDescriptor (TJ0 k).2.2.1 = some (tyJ0 k) := by decide +kernel
abbrev cJ0_length_8abf5 : ByteArray := prog_16_method_54_code
def yJ0_length_8abf5 : MethodName := ⟨RJ0, "length", "()I"⟩
abbrev cJ0_charAt_5068e : ByteArray := prog_16_method_56_code
def yJ0_charAt_5068e : MethodName := ⟨RJ0, "charAt", "(I)C"⟩
abbrev cJ0_coder_7d493 : ByteArray := prog_16_method_152_code
def yJ0_coder_7d493 : MethodName := ⟨RJ0, "coder", "()B"⟩
abbrev cJ0_isLatin1_aae02 : ByteArray := prog_16_method_154_code
def yJ0_isLatin1_aae02 : MethodName := ⟨RJ0, "isLatin1", "()Z"⟩
abbrev cJ0_checkIndex_df160 : ByteArray := prog_16_method_155_code
def yJ0_checkIndex_df160 : MethodName := ⟨RJ0, "checkIndex", "(II)V"⟩
def RJ1 : String := "java/lang/StringLatin1"
def TJ1 : u_T := fun k => match k with
  | _ => ("", "", "", false)
def tyJ1 : Nat → FieldType := fun k => match k with
  | _ => .int
abbrev wsJ10 : List Cond := u_ws RJ1 TJ1 0
theorem nmJ1 : ∀ a, a < 0 → ∀ b, b < 0 → a ≠ b → (TJ1 a).2.1 ≠ (TJ1 b).2.1 := by decide +kernel
theorem tyJ1_ok : ∀ k, k < 0 → parseFieldDescriptor (TJ1 k).2.2.1 = some (tyJ1 k) := by decide +kernel
abbrev cJ1_charAt_3b067 : ByteArray := prog_17_method_2_code
def yJ1_charAt_3b067 : MethodName := ⟨RJ1, "charAt", "([BI)C"⟩
def RJ2 : String := "java/lang/StringUTF16"
def TJ2 : u_T := fun k => match k with
  | _ => ("", "", "", false)
def tyJ2 : Nat → FieldType := fun k => match k with
  | _ => .int
abbrev wsJ20 : List Cond := u_ws RJ2 TJ2 0
theorem nmJ2 : ∀ a, a < 0 → ∀ b, b < 0 → a ≠ b → (TJ2 a).2.1 ≠ (TJ2 b).2.1 := by decide +kernel
theorem tyJ2_ok : ∀ k, k < 0 → parseFieldDescriptor (TJ2 k).2.2.1 = some (tyJ2 k) := by decide +kernel
abbrev cJ2_getChar_3b067 : ByteArray := prog_18_method_5_code
def yJ2_getChar_3b067 : MethodName := ⟨RJ2, "getChar", "([BI)C"⟩
abbrev cJ2_length_9d52b : ByteArray := prog_18_method_6_code
def yJ2_length_9d52b : MethodName := ⟨RJ2, "length", "([B)I"⟩
abbrev cJ2_charAt_3b067 : ByteArray := prog_18_method_83_code
def yJ2_charAt_3b067 : MethodName := ⟨RJ2, "charAt", "([BI)C"⟩
abbrev cJ2_checkIndex_2214a : ByteArray := prog_18_method_91_code
def yJ2_checkIndex_2214a : MethodName := ⟨RJ2, "checkIndex", "(I[B)V"⟩
def RJ3 : String := "jdk/internal/util/Preconditions"
def TJ3 : u_T := fun k => match k with
  | _ => ("", "", "", false)
def tyJ3 : Nat → FieldType := fun k => match k with
  | _ => .int
abbrev wsJ30 : List Cond := u_ws RJ3 TJ3 0
theorem nmJ3 : ∀ a, a < 0 → ∀ b, b < 0 → a ≠ b → (TJ3 a).2.1 ≠ (TJ3 b).2.1 := by decide +kernel
theorem tyJ3_ok : ∀ k, k < 0 → parseFieldDescriptor (TJ3 k).2.2.1 = some (tyJ3 k) := by decide +kernel
abbrev cJ3_checkIndex_8e157 : ByteArray := prog_19_method_11_code
def yJ3_checkIndex_8e157 : MethodName := ⟨RJ3, "checkIndex", "(IILjava/util/function/BiFunction;)I"⟩
def RL : String := "ForgottenCraftsLaw"
abbrev cL_law : ByteArray := code
def yL_law : MethodName := ⟨RL, "law", "([I)Z"⟩
abbrev vwCl : List vw_C := [(RX0, TX0, 7), (RX1, TX1, 13), (RX2, TX2, 3), (RX3, TX3, 8), (RX4, TX4, 7), (RX5, TX5, 7), (RX6, TX6, 1), (RX7, TX7, 7), (RX8, TX8, 11), (RX9, TX9, 5), (RX10, TX10, 20), (RX11, TX11, 57)]
