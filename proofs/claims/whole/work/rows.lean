section
-- ===== PART A: goes FIRST, ahead of the names: the tables' words, and 'selects' of the private methods out of them =====
/-- a private method of a class that the tables say can be made, by its rows of tables_1 -/
def lw_okq (q : MethodName × Nat) : Prop := (q.1.cls ≠ "java/lang/invoke/MethodHandle" ∧ q.1.cls ≠ "java/lang/invoke/VarHandle") ∧ Cond.instantiable q.1.cls q.2 ∈ tables_1 ∧ Cond.privateMethod q.1 ∈ tables_1 ∧ Cond.instanceMethod q.1 ∈ tables_1
theorem lw_p0 : lw_okq (⟨"OneTimer$Page", "fitsPots", "(I)Z"⟩, 2) := ⟨⟨by decide +kernel, by decide +kernel⟩, List.mem_of_getElem? (i := 23) (by decide +kernel), List.mem_of_getElem? (i := 180) (by decide +kernel), List.mem_of_getElem? (i := 181) (by decide +kernel)⟩
theorem lw_p1 : lw_okq (⟨"OneTimer$Page", "fitsEnd", "(II)Z"⟩, 2) := ⟨⟨by decide +kernel, by decide +kernel⟩, List.mem_of_getElem? (i := 23) (by decide +kernel), List.mem_of_getElem? (i := 194) (by decide +kernel), List.mem_of_getElem? (i := 195) (by decide +kernel)⟩
theorem lw_p2 : lw_okq (⟨"OneTimer", "readPots", "()V"⟩, 18) := ⟨⟨by decide +kernel, by decide +kernel⟩, List.mem_of_getElem? (i := 15) (by decide +kernel), List.mem_of_getElem? (i := 207) (by decide +kernel), List.mem_of_getElem? (i := 208) (by decide +kernel)⟩
theorem lw_p3 : lw_okq (⟨"OneTimer$Page", "twoDigits", "(I)I"⟩, 2) := ⟨⟨by decide +kernel, by decide +kernel⟩, List.mem_of_getElem? (i := 23) (by decide +kernel), List.mem_of_getElem? (i := 226) (by decide +kernel), List.mem_of_getElem? (i := 227) (by decide +kernel)⟩
theorem lw_p4 : lw_okq (⟨"OneTimer", "startEvening", "()V"⟩, 18) := ⟨⟨by decide +kernel, by decide +kernel⟩, List.mem_of_getElem? (i := 15) (by decide +kernel), List.mem_of_getElem? (i := 328) (by decide +kernel), List.mem_of_getElem? (i := 329) (by decide +kernel)⟩
theorem lw_p5 : lw_okq (⟨"OneTimer", "potAt", "(I)LOneTimer$Pot;"⟩, 18) := ⟨⟨by decide +kernel, by decide +kernel⟩, List.mem_of_getElem? (i := 15) (by decide +kernel), List.mem_of_getElem? (i := 336) (by decide +kernel), List.mem_of_getElem? (i := 337) (by decide +kernel)⟩
theorem lw_p6 : lw_okq (⟨"OneTimer", "hasKitchen", "()Z"⟩, 18) := ⟨⟨by decide +kernel, by decide +kernel⟩, List.mem_of_getElem? (i := 15) (by decide +kernel), List.mem_of_getElem? (i := 422) (by decide +kernel), List.mem_of_getElem? (i := 423) (by decide +kernel)⟩
theorem lw_p7 : lw_okq (⟨"OneTimer$Planner", "fillMinute", "(I)V"⟩, 9) := ⟨⟨by decide +kernel, by decide +kernel⟩, List.mem_of_getElem? (i := 60) (by decide +kernel), List.mem_of_getElem? (i := 460) (by decide +kernel), List.mem_of_getElem? (i := 461) (by decide +kernel)⟩
theorem lw_p8 : lw_okq (⟨"OneTimer$Planner", "allPots", "()I"⟩, 9) := ⟨⟨by decide +kernel, by decide +kernel⟩, List.mem_of_getElem? (i := 60) (by decide +kernel), List.mem_of_getElem? (i := 464) (by decide +kernel), List.mem_of_getElem? (i := 465) (by decide +kernel)⟩
theorem lw_p9 : lw_okq (⟨"OneTimer$Planner", "goodAt", "(I)I"⟩, 9) := ⟨⟨by decide +kernel, by decide +kernel⟩, List.mem_of_getElem? (i := 60) (by decide +kernel), List.mem_of_getElem? (i := 468) (by decide +kernel), List.mem_of_getElem? (i := 469) (by decide +kernel)⟩
theorem lw_p10 : lw_okq (⟨"OneTimer$Planner", "byWinding", "(II)I"⟩, 9) := ⟨⟨by decide +kernel, by decide +kernel⟩, List.mem_of_getElem? (i := 60) (by decide +kernel), List.mem_of_getElem? (i := 472) (by decide +kernel), List.mem_of_getElem? (i := 473) (by decide +kernel)⟩
theorem lw_p11 : lw_okq (⟨"OneTimer$Planner", "byTaking", "(III)I"⟩, 9) := ⟨⟨by decide +kernel, by decide +kernel⟩, List.mem_of_getElem? (i := 60) (by decide +kernel), List.mem_of_getElem? (i := 476) (by decide +kernel), List.mem_of_getElem? (i := 477) (by decide +kernel)⟩
theorem lw_p12 : lw_okq (⟨"OneTimer$Planner", "leadsOn", "(II)Z"⟩, 9) := ⟨⟨by decide +kernel, by decide +kernel⟩, List.mem_of_getElem? (i := 60) (by decide +kernel), List.mem_of_getElem? (i := 498) (by decide +kernel), List.mem_of_getElem? (i := 499) (by decide +kernel)⟩
theorem lw_p13 : lw_okq (⟨"OneTimer", "bestWinding", "(LOneTimer$Pot;)I"⟩, 18) := ⟨⟨by decide +kernel, by decide +kernel⟩, List.mem_of_getElem? (i := 15) (by decide +kernel), List.mem_of_getElem? (i := 519) (by decide +kernel), List.mem_of_getElem? (i := 520) (by decide +kernel)⟩
theorem lw_p14 : lw_okq (⟨"OneTimer", "windingsThatFit", "()I"⟩, 18) := ⟨⟨by decide +kernel, by decide +kernel⟩, List.mem_of_getElem? (i := 15) (by decide +kernel), List.mem_of_getElem? (i := 543) (by decide +kernel), List.mem_of_getElem? (i := 544) (by decide +kernel)⟩
theorem lw_p15 : lw_okq (⟨"OneTimer", "leastThatFits", "()I"⟩, 18) := ⟨⟨by decide +kernel, by decide +kernel⟩, List.mem_of_getElem? (i := 15) (by decide +kernel), List.mem_of_getElem? (i := 552) (by decide +kernel), List.mem_of_getElem? (i := 553) (by decide +kernel)⟩
def lw_privs_1 : List (MethodName × Nat) := [(⟨"OneTimer$Page", "fitsPots", "(I)Z"⟩, 2), (⟨"OneTimer$Page", "fitsEnd", "(II)Z"⟩, 2), (⟨"OneTimer", "readPots", "()V"⟩, 18), (⟨"OneTimer$Page", "twoDigits", "(I)I"⟩, 2), (⟨"OneTimer", "startEvening", "()V"⟩, 18), (⟨"OneTimer", "potAt", "(I)LOneTimer$Pot;"⟩, 18), (⟨"OneTimer", "hasKitchen", "()Z"⟩, 18), (⟨"OneTimer$Planner", "fillMinute", "(I)V"⟩, 9), (⟨"OneTimer$Planner", "allPots", "()I"⟩, 9), (⟨"OneTimer$Planner", "goodAt", "(I)I"⟩, 9), (⟨"OneTimer$Planner", "byWinding", "(II)I"⟩, 9), (⟨"OneTimer$Planner", "byTaking", "(III)I"⟩, 9), (⟨"OneTimer$Planner", "leadsOn", "(II)Z"⟩, 9), (⟨"OneTimer", "bestWinding", "(LOneTimer$Pot;)I"⟩, 18), (⟨"OneTimer", "windingsThatFit", "()I"⟩, 18), (⟨"OneTimer", "leastThatFits", "()I"⟩, 18)]
theorem lw_r1 : ∀ q ∈ lw_privs_1, lw_okq q := List.forall_mem_cons.mpr ⟨lw_p0, List.forall_mem_cons.mpr ⟨lw_p1, List.forall_mem_cons.mpr ⟨lw_p2, List.forall_mem_cons.mpr ⟨lw_p3, List.forall_mem_cons.mpr ⟨lw_p4, List.forall_mem_cons.mpr ⟨lw_p5, List.forall_mem_cons.mpr ⟨lw_p6, List.forall_mem_cons.mpr ⟨lw_p7, List.forall_mem_cons.mpr ⟨lw_p8, List.forall_mem_cons.mpr ⟨lw_p9, List.forall_mem_cons.mpr ⟨lw_p10, List.forall_mem_cons.mpr ⟨lw_p11, List.forall_mem_cons.mpr ⟨lw_p12, List.forall_mem_cons.mpr ⟨lw_p13, List.forall_mem_cons.mpr ⟨lw_p14, List.forall_mem_cons.mpr ⟨lw_p15, fun _ h => absurd h List.not_mem_nil⟩⟩⟩⟩⟩⟩⟩⟩⟩⟩⟩⟩⟩⟩⟩⟩
theorem lw_p16 : lw_okq (⟨"OneTimer", "potsThatBoil", "()I"⟩, 18) := ⟨⟨by decide +kernel, by decide +kernel⟩, List.mem_of_getElem? (i := 15) (by decide +kernel), List.mem_of_getElem? (i := 603) (by decide +kernel), List.mem_of_getElem? (i := 604) (by decide +kernel)⟩
theorem lw_p17 : lw_okq (⟨"OneTimer", "digestOfPot", "(JI)J"⟩, 18) := ⟨⟨by decide +kernel, by decide +kernel⟩, List.mem_of_getElem? (i := 15) (by decide +kernel), List.mem_of_getElem? (i := 612) (by decide +kernel), List.mem_of_getElem? (i := 613) (by decide +kernel)⟩
theorem lw_p18 : lw_okq (⟨"OneTimerModel", "read", "()I"⟩, 39) := ⟨⟨by decide +kernel, by decide +kernel⟩, List.mem_of_getElem? (i := 622) (by decide +kernel), List.mem_of_getElem? (i := 762) (by decide +kernel), List.mem_of_getElem? (i := 763) (by decide +kernel)⟩
theorem lw_p19 : lw_okq (⟨"OneTimerModel", "readTwo", "(II)I"⟩, 39) := ⟨⟨by decide +kernel, by decide +kernel⟩, List.mem_of_getElem? (i := 622) (by decide +kernel), List.mem_of_getElem? (i := 769) (by decide +kernel), List.mem_of_getElem? (i := 770) (by decide +kernel)⟩
theorem lw_p20 : lw_okq (⟨"OneTimerModel", "figure", "(I)I"⟩, 39) := ⟨⟨by decide +kernel, by decide +kernel⟩, List.mem_of_getElem? (i := 622) (by decide +kernel), List.mem_of_getElem? (i := 773) (by decide +kernel), List.mem_of_getElem? (i := 774) (by decide +kernel)⟩
theorem lw_p21 : lw_okq (⟨"OneTimerModel", "readRest", "(I)I"⟩, 39) := ⟨⟨by decide +kernel, by decide +kernel⟩, List.mem_of_getElem? (i := 622) (by decide +kernel), List.mem_of_getElem? (i := 777) (by decide +kernel), List.mem_of_getElem? (i := 778) (by decide +kernel)⟩
theorem lw_p22 : lw_okq (⟨"OneTimerModel", "two", "(I)I"⟩, 39) := ⟨⟨by decide +kernel, by decide +kernel⟩, List.mem_of_getElem? (i := 622) (by decide +kernel), List.mem_of_getElem? (i := 785) (by decide +kernel), List.mem_of_getElem? (i := 786) (by decide +kernel)⟩
theorem lw_p23 : lw_okq (⟨"OneTimerModel", "isPot", "(I)Z"⟩, 39) := ⟨⟨by decide +kernel, by decide +kernel⟩, List.mem_of_getElem? (i := 622) (by decide +kernel), List.mem_of_getElem? (i := 793) (by decide +kernel), List.mem_of_getElem? (i := 794) (by decide +kernel)⟩
theorem lw_p24 : lw_okq (⟨"OneTimerModel", "potNow", "(II)I"⟩, 39) := ⟨⟨by decide +kernel, by decide +kernel⟩, List.mem_of_getElem? (i := 622) (by decide +kernel), List.mem_of_getElem? (i := 797) (by decide +kernel), List.mem_of_getElem? (i := 798) (by decide +kernel)⟩
theorem lw_p25 : lw_okq (⟨"OneTimerModel", "keepsOf", "(I)I"⟩, 39) := ⟨⟨by decide +kernel, by decide +kernel⟩, List.mem_of_getElem? (i := 622) (by decide +kernel), List.mem_of_getElem? (i := 801) (by decide +kernel), List.mem_of_getElem? (i := 802) (by decide +kernel)⟩
theorem lw_p26 : lw_okq (⟨"OneTimerModel", "boils", "(I)Z"⟩, 39) := ⟨⟨by decide +kernel, by decide +kernel⟩, List.mem_of_getElem? (i := 622) (by decide +kernel), List.mem_of_getElem? (i := 805) (by decide +kernel), List.mem_of_getElem? (i := 806) (by decide +kernel)⟩
theorem lw_p27 : lw_okq (⟨"OneTimerModel", "dueOf", "(I)I"⟩, 39) := ⟨⟨by decide +kernel, by decide +kernel⟩, List.mem_of_getElem? (i := 622) (by decide +kernel), List.mem_of_getElem? (i := 809) (by decide +kernel), List.mem_of_getElem? (i := 810) (by decide +kernel)⟩
theorem lw_p28 : lw_okq (⟨"OneTimerModel", "outAt", "(II)I"⟩, 39) := ⟨⟨by decide +kernel, by decide +kernel⟩, List.mem_of_getElem? (i := 622) (by decide +kernel), List.mem_of_getElem? (i := 813) (by decide +kernel), List.mem_of_getElem? (i := 814) (by decide +kernel)⟩
theorem lw_p29 : lw_okq (⟨"OneTimerModel", "planNow", "(I)I"⟩, 39) := ⟨⟨by decide +kernel, by decide +kernel⟩, List.mem_of_getElem? (i := 622) (by decide +kernel), List.mem_of_getElem? (i := 840) (by decide +kernel), List.mem_of_getElem? (i := 841) (by decide +kernel)⟩
theorem lw_p30 : lw_okq (⟨"OneTimerModel", "goodAt", "(I)I"⟩, 39) := ⟨⟨by decide +kernel, by decide +kernel⟩, List.mem_of_getElem? (i := 622) (by decide +kernel), List.mem_of_getElem? (i := 844) (by decide +kernel), List.mem_of_getElem? (i := 845) (by decide +kernel)⟩
theorem lw_p31 : lw_okq (⟨"OneTimerModel", "mark", "(IIIIII)V"⟩, 39) := ⟨⟨by decide +kernel, by decide +kernel⟩, List.mem_of_getElem? (i := 622) (by decide +kernel), List.mem_of_getElem? (i := 848) (by decide +kernel), List.mem_of_getElem? (i := 849) (by decide +kernel)⟩
def lw_privs_2 : List (MethodName × Nat) := [(⟨"OneTimer", "potsThatBoil", "()I"⟩, 18), (⟨"OneTimer", "digestOfPot", "(JI)J"⟩, 18), (⟨"OneTimerModel", "read", "()I"⟩, 39), (⟨"OneTimerModel", "readTwo", "(II)I"⟩, 39), (⟨"OneTimerModel", "figure", "(I)I"⟩, 39), (⟨"OneTimerModel", "readRest", "(I)I"⟩, 39), (⟨"OneTimerModel", "two", "(I)I"⟩, 39), (⟨"OneTimerModel", "isPot", "(I)Z"⟩, 39), (⟨"OneTimerModel", "potNow", "(II)I"⟩, 39), (⟨"OneTimerModel", "keepsOf", "(I)I"⟩, 39), (⟨"OneTimerModel", "boils", "(I)Z"⟩, 39), (⟨"OneTimerModel", "dueOf", "(I)I"⟩, 39), (⟨"OneTimerModel", "outAt", "(II)I"⟩, 39), (⟨"OneTimerModel", "planNow", "(I)I"⟩, 39), (⟨"OneTimerModel", "goodAt", "(I)I"⟩, 39), (⟨"OneTimerModel", "mark", "(IIIIII)V"⟩, 39)]
theorem lw_r2 : ∀ q ∈ lw_privs_2, lw_okq q := List.forall_mem_cons.mpr ⟨lw_p16, List.forall_mem_cons.mpr ⟨lw_p17, List.forall_mem_cons.mpr ⟨lw_p18, List.forall_mem_cons.mpr ⟨lw_p19, List.forall_mem_cons.mpr ⟨lw_p20, List.forall_mem_cons.mpr ⟨lw_p21, List.forall_mem_cons.mpr ⟨lw_p22, List.forall_mem_cons.mpr ⟨lw_p23, List.forall_mem_cons.mpr ⟨lw_p24, List.forall_mem_cons.mpr ⟨lw_p25, List.forall_mem_cons.mpr ⟨lw_p26, List.forall_mem_cons.mpr ⟨lw_p27, List.forall_mem_cons.mpr ⟨lw_p28, List.forall_mem_cons.mpr ⟨lw_p29, List.forall_mem_cons.mpr ⟨lw_p30, List.forall_mem_cons.mpr ⟨lw_p31, fun _ h => absurd h List.not_mem_nil⟩⟩⟩⟩⟩⟩⟩⟩⟩⟩⟩⟩⟩⟩⟩⟩
theorem lw_p32 : lw_okq (⟨"OneTimerModel", "goWave", "(I)Z"⟩, 39) := ⟨⟨by decide +kernel, by decide +kernel⟩, List.mem_of_getElem? (i := 622) (by decide +kernel), List.mem_of_getElem? (i := 855) (by decide +kernel), List.mem_of_getElem? (i := 856) (by decide +kernel)⟩
theorem lw_p33 : lw_okq (⟨"OneTimerModel", "sureNow", "(II)I"⟩, 39) := ⟨⟨by decide +kernel, by decide +kernel⟩, List.mem_of_getElem? (i := 622) (by decide +kernel), List.mem_of_getElem? (i := 864) (by decide +kernel), List.mem_of_getElem? (i := 865) (by decide +kernel)⟩
theorem lw_p34 : lw_okq (⟨"OneTimerModel", "bestNow", "(I)I"⟩, 39) := ⟨⟨by decide +kernel, by decide +kernel⟩, List.mem_of_getElem? (i := 622) (by decide +kernel), List.mem_of_getElem? (i := 872) (by decide +kernel), List.mem_of_getElem? (i := 873) (by decide +kernel)⟩
theorem lw_p35 : lw_okq (⟨"OneTimerModel", "togetherNow", "(II)I"⟩, 39) := ⟨⟨by decide +kernel, by decide +kernel⟩, List.mem_of_getElem? (i := 622) (by decide +kernel), List.mem_of_getElem? (i := 880) (by decide +kernel), List.mem_of_getElem? (i := 881) (by decide +kernel)⟩
theorem lw_p36 : lw_okq (⟨"OneTimerModel", "woundNow", "(I)I"⟩, 39) := ⟨⟨by decide +kernel, by decide +kernel⟩, List.mem_of_getElem? (i := 622) (by decide +kernel), List.mem_of_getElem? (i := 896) (by decide +kernel), List.mem_of_getElem? (i := 897) (by decide +kernel)⟩
theorem lw_p37 : lw_okq (⟨"OneTimerModel", "couldBe", "(I)Z"⟩, 39) := ⟨⟨by decide +kernel, by decide +kernel⟩, List.mem_of_getElem? (i := 622) (by decide +kernel), List.mem_of_getElem? (i := 900) (by decide +kernel), List.mem_of_getElem? (i := 901) (by decide +kernel)⟩
theorem lw_p38 : lw_okq (⟨"OneTimerModel", "eveningsNow", "(III)I"⟩, 39) := ⟨⟨by decide +kernel, by decide +kernel⟩, List.mem_of_getElem? (i := 622) (by decide +kernel), List.mem_of_getElem? (i := 908) (by decide +kernel), List.mem_of_getElem? (i := 909) (by decide +kernel)⟩
theorem lw_p39 : lw_okq (⟨"OneTimerModel", "draw", "(I)I"⟩, 39) := ⟨⟨by decide +kernel, by decide +kernel⟩, List.mem_of_getElem? (i := 622) (by decide +kernel), List.mem_of_getElem? (i := 912) (by decide +kernel), List.mem_of_getElem? (i := 913) (by decide +kernel)⟩
theorem lw_p40 : lw_okq (⟨"OneTimerModel", "howMany", "(I)I"⟩, 39) := ⟨⟨by decide +kernel, by decide +kernel⟩, List.mem_of_getElem? (i := 622) (by decide +kernel), List.mem_of_getElem? (i := 932) (by decide +kernel), List.mem_of_getElem? (i := 933) (by decide +kernel)⟩
theorem lw_p41 : lw_okq (⟨"OneTimerModel", "boiling", "()I"⟩, 39) := ⟨⟨by decide +kernel, by decide +kernel⟩, List.mem_of_getElem? (i := 622) (by decide +kernel), List.mem_of_getElem? (i := 936) (by decide +kernel), List.mem_of_getElem? (i := 937) (by decide +kernel)⟩
theorem lw_p42 : lw_okq (⟨"OneTimerModel", "mix", "(J)V"⟩, 39) := ⟨⟨by decide +kernel, by decide +kernel⟩, List.mem_of_getElem? (i := 622) (by decide +kernel), List.mem_of_getElem? (i := 945) (by decide +kernel), List.mem_of_getElem? (i := 946) (by decide +kernel)⟩
def lw_privs_3 : List (MethodName × Nat) := [(⟨"OneTimerModel", "goWave", "(I)Z"⟩, 39), (⟨"OneTimerModel", "sureNow", "(II)I"⟩, 39), (⟨"OneTimerModel", "bestNow", "(I)I"⟩, 39), (⟨"OneTimerModel", "togetherNow", "(II)I"⟩, 39), (⟨"OneTimerModel", "woundNow", "(I)I"⟩, 39), (⟨"OneTimerModel", "couldBe", "(I)Z"⟩, 39), (⟨"OneTimerModel", "eveningsNow", "(III)I"⟩, 39), (⟨"OneTimerModel", "draw", "(I)I"⟩, 39), (⟨"OneTimerModel", "howMany", "(I)I"⟩, 39), (⟨"OneTimerModel", "boiling", "()I"⟩, 39), (⟨"OneTimerModel", "mix", "(J)V"⟩, 39)]
theorem lw_r3 : ∀ q ∈ lw_privs_3, lw_okq q := List.forall_mem_cons.mpr ⟨lw_p32, List.forall_mem_cons.mpr ⟨lw_p33, List.forall_mem_cons.mpr ⟨lw_p34, List.forall_mem_cons.mpr ⟨lw_p35, List.forall_mem_cons.mpr ⟨lw_p36, List.forall_mem_cons.mpr ⟨lw_p37, List.forall_mem_cons.mpr ⟨lw_p38, List.forall_mem_cons.mpr ⟨lw_p39, List.forall_mem_cons.mpr ⟨lw_p40, List.forall_mem_cons.mpr ⟨lw_p41, List.forall_mem_cons.mpr ⟨lw_p42, fun _ h => absurd h List.not_mem_nil⟩⟩⟩⟩⟩⟩⟩⟩⟩⟩⟩
def lw_privs : List (MethodName × Nat) := lw_privs_1 ++ (lw_privs_2 ++ (lw_privs_3))
def lw_tbl : List Cond := k2_sels lw_privs ++ tables_1
theorem lw_privs_ok : ∀ q ∈ lw_privs, lw_okq q := by
  show ∀ q ∈ lw_privs_1 ++ (lw_privs_2 ++ (lw_privs_3)), lw_okq q
  exact List.forall_mem_append.mpr ⟨lw_r1, List.forall_mem_append.mpr ⟨lw_r2, lw_r3⟩⟩
end
section
/-! ===== BEGIN words of one list among another's, by their places ===== -/
theorem goodIn_r {big : List Cond} (ws : List Cond) (ps : List Nat) (hp : ws = ps.filterMap (fun i => big[i]?)) (h : ws.all goodWord = true) : GoodIn big ws := by
  intro w hw
  have h1 := List.all_eq_true.mp h w hw
  rw [hp] at hw
  obtain ⟨i, -, hi⟩ := List.mem_filterMap.mp hw
  have hm : w ∈ big := by first | exact List.mem_of_getElem? hi | exact List.getElem?_mem hi
  exact ⟨hm, good_of_word h1⟩
theorem goodIn_app {big a b : List Cond} (ha : GoodIn big a) (hb : GoodIn big b) : GoodIn big (a ++ b) := fun w h => (List.mem_append.mp h).elim (ha w) (hb w)
theorem goodIn_ca {big a b : List Cond} {c : Cond} (ha : GoodIn big (c :: a)) (hb : GoodIn big b) : GoodIn big (c :: (a ++ b)) := fun w h => (List.mem_cons.mp h).elim (fun e => ha w (List.mem_cons.mpr (Or.inl e))) (fun h => (List.mem_append.mp h).elim (fun h => ha w (List.mem_cons.mpr (Or.inr h))) (hb w))
theorem goodIn_sub {big ws : List Cond} (hm : ∀ w ∈ ws, w ∈ big) (h : ws.all goodWord = true) : GoodIn big ws := fun w hw => ⟨hm w hw, good_of_word (List.all_eq_true.mp h w hw)⟩
/-! ===== END ===== -/

/-! ===== BEGIN printed: names, fields, word lists, decode rows ===== -/
def RX0 : String := "OneTimer$Beans"
def TX0 : u_T := fun k => match k with
  | 0 => ("OneTimer$Pot", "wants", "I", true)
  | 1 => ("OneTimer$Pot", "since", "I", false)
  | 2 => ("OneTimer$Pot", "timesTaken", "I", false)
  | 3 => ("OneTimer$Pot", "lastOut", "I", false)
  | 4 => ("OneTimer$Pot", "keptSince", "I", false)
  | 5 => ("OneTimer$Pot", "keptTimesTaken", "I", false)
  | _ => ("OneTimer$Pot", "keptLastOut", "I", false)
def tyX0 : Nat → FieldType := fun k => match k with
  | 0 => .int
  | 1 => .int
  | 2 => .int
  | 3 => .int
  | 4 => .int
  | 5 => .int
  | _ => .int
abbrev wsX00 : List Cond := u_ws RX0 TX0 7
theorem nmX0 : ∀ a, a < 7 → ∀ b, b < 7 → a ≠ b → (TX0 a).2.1 ≠ (TX0 b).2.1 := by decide +kernel
theorem tyX0_ok : ∀ k, k < 7 → parseFieldDescriptor (TX0 k).2.2.1 = some (tyX0 k) := by decide +kernel
abbrev cX0_init : ByteArray := prog_2_method_1_code
def yX0_init : MethodName := ⟨RX0, "<init>", "(I)V"⟩
abbrev cX0_kind : ByteArray := prog_2_method_2_code
def yX0_kind : MethodName := ⟨RX0, "kind", "()I"⟩
abbrev cX0_keeps : ByteArray := prog_2_method_3_code
def yX0_keeps : MethodName := ⟨RX0, "keeps", "()I"⟩
def RX1 : String := "OneTimer$Draws"
def TX1 : u_T := fun k => match k with
  | _ => ("OneTimer$Draws", "seed", "I", false)
def tyX1 : Nat → FieldType := fun k => match k with
  | _ => .int
abbrev wsX10 : List Cond := u_ws RX1 TX1 1
theorem nmX1 : ∀ a, a < 1 → ∀ b, b < 1 → a ≠ b → (TX1 a).2.1 ≠ (TX1 b).2.1 := by decide +kernel
theorem tyX1_ok : ∀ k, k < 1 → parseFieldDescriptor (TX1 k).2.2.1 = some (tyX1 k) := by decide +kernel
abbrev cX1_init : ByteArray := prog_3_method_1_code
def yX1_init : MethodName := ⟨RX1, "<init>", "()V"⟩
abbrev cX1_next : ByteArray := prog_3_method_2_code
def yX1_next : MethodName := ⟨RX1, "next", "(I)I"⟩
def RX2 : String := "OneTimer$Eggs"
def TX2 : u_T := fun k => match k with
  | 0 => ("OneTimer$Pot", "wants", "I", true)
  | 1 => ("OneTimer$Pot", "since", "I", false)
  | 2 => ("OneTimer$Pot", "timesTaken", "I", false)
  | 3 => ("OneTimer$Pot", "lastOut", "I", false)
  | 4 => ("OneTimer$Pot", "keptSince", "I", false)
  | 5 => ("OneTimer$Pot", "keptTimesTaken", "I", false)
  | _ => ("OneTimer$Pot", "keptLastOut", "I", false)
def tyX2 : Nat → FieldType := fun k => match k with
  | 0 => .int
  | 1 => .int
  | 2 => .int
  | 3 => .int
  | 4 => .int
  | 5 => .int
  | _ => .int
abbrev wsX20 : List Cond := u_ws RX2 TX2 7
theorem nmX2 : ∀ a, a < 7 → ∀ b, b < 7 → a ≠ b → (TX2 a).2.1 ≠ (TX2 b).2.1 := by decide +kernel
theorem tyX2_ok : ∀ k, k < 7 → parseFieldDescriptor (TX2 k).2.2.1 = some (tyX2 k) := by decide +kernel
abbrev cX2_init : ByteArray := prog_4_method_1_code
def yX2_init : MethodName := ⟨RX2, "<init>", "(I)V"⟩
abbrev cX2_kind : ByteArray := prog_4_method_2_code
def yX2_kind : MethodName := ⟨RX2, "kind", "()I"⟩
abbrev cX2_keeps : ByteArray := prog_4_method_3_code
def yX2_keeps : MethodName := ⟨RX2, "keeps", "()I"⟩
def RX3 : String := "OneTimer$Page"
def TX3 : u_T := fun k => match k with
  | 0 => ("OneTimer$Page", "letters", "[I", true)
  | _ => ("OneTimer$Page", "size", "I", false)
def tyX3 : Nat → FieldType := fun k => match k with
  | 0 => .array .int
  | _ => .int
abbrev wsX30 : List Cond := u_ws RX3 TX3 2
theorem nmX3 : ∀ a, a < 2 → ∀ b, b < 2 → a ≠ b → (TX3 a).2.1 ≠ (TX3 b).2.1 := by decide +kernel
theorem tyX3_ok : ∀ k, k < 2 → parseFieldDescriptor (TX3 k).2.2.1 = some (tyX3 k) := by decide +kernel
abbrev cX3_init : ByteArray := prog_5_method_1_code
def yX3_init : MethodName := ⟨RX3, "<init>", "()V"⟩
abbrev cX3_write : ByteArray := prog_5_method_2_code
def yX3_write : MethodName := ⟨RX3, "write", "(I)Z"⟩
abbrev cX3_codeAt : ByteArray := prog_5_method_3_code
def yX3_codeAt : MethodName := ⟨RX3, "codeAt", "(I)I"⟩
abbrev cX3_faultPlace : ByteArray := prog_5_method_4_code
def yX3_faultPlace : MethodName := ⟨RX3, "faultPlace", "()I"⟩
abbrev cX3_fitsPots : ByteArray := prog_5_method_5_code
def yX3_fitsPots : MethodName := ⟨RX3, "fitsPots", "(I)Z"⟩
abbrev cX3_fitsEnd : ByteArray := prog_5_method_6_code
def yX3_fitsEnd : MethodName := ⟨RX3, "fitsEnd", "(II)Z"⟩
abbrev cX3_fitsSecondDigit : ByteArray := prog_5_method_7_code
def yX3_fitsSecondDigit : MethodName := ⟨RX3, "fitsSecondDigit", "(III)Z"⟩
abbrev cX3_kindOf : ByteArray := prog_5_method_8_code
def yX3_kindOf : MethodName := ⟨RX3, "kindOf", "(I)I"⟩
abbrev cX3_isKitchen : ByteArray := prog_5_method_9_code
def yX3_isKitchen : MethodName := ⟨RX3, "isKitchen", "()Z"⟩
abbrev cX3_potsTold : ByteArray := prog_5_method_10_code
def yX3_potsTold : MethodName := ⟨RX3, "potsTold", "()I"⟩
abbrev cX3_kindTold : ByteArray := prog_5_method_11_code
def yX3_kindTold : MethodName := ⟨RX3, "kindTold", "(I)I"⟩
abbrev cX3_wantsTold : ByteArray := prog_5_method_12_code
def yX3_wantsTold : MethodName := ⟨RX3, "wantsTold", "(I)I"⟩
abbrev cX3_springTold : ByteArray := prog_5_method_13_code
def yX3_springTold : MethodName := ⟨RX3, "springTold", "()I"⟩
abbrev cX3_handsTold : ByteArray := prog_5_method_14_code
def yX3_handsTold : MethodName := ⟨RX3, "handsTold", "()I"⟩
abbrev cX3_twoDigits : ByteArray := prog_5_method_15_code
def yX3_twoDigits : MethodName := ⟨RX3, "twoDigits", "(I)I"⟩
def RX4 : String := "OneTimer$Planner"
def TX4 : u_T := fun k => match k with
  | 0 => ("OneTimer$Planner", "fewest", "[I", true)
  | 1 => ("OneTimer$Planner", "afterTaking", "[I", true)
  | 2 => ("OneTimer$Planner", "opens", "[I", true)
  | 3 => ("OneTimer$Planner", "closes", "[I", true)
  | 4 => ("OneTimer$Planner", "size", "I", false)
  | 5 => ("OneTimer$Planner", "spring", "I", false)
  | 6 => ("OneTimer$Planner", "hands", "I", false)
  | 7 => ("OneTimer$Planner", "freeNow", "I", false)
  | _ => ("OneTimer$Planner", "last", "I", false)
def tyX4 : Nat → FieldType := fun k => match k with
  | 0 => .array .int
  | 1 => .array .int
  | 2 => .array .int
  | 3 => .array .int
  | 4 => .int
  | 5 => .int
  | 6 => .int
  | 7 => .int
  | _ => .int
abbrev wsX40 : List Cond := u_ws RX4 TX4 9
theorem nmX4 : ∀ a, a < 9 → ∀ b, b < 9 → a ≠ b → (TX4 a).2.1 ≠ (TX4 b).2.1 := by decide +kernel
theorem tyX4_ok : ∀ k, k < 9 → parseFieldDescriptor (TX4 k).2.2.1 = some (tyX4 k) := by decide +kernel
abbrev cX4_init : ByteArray := prog_6_method_1_code
def yX4_init : MethodName := ⟨RX4, "<init>", "()V"⟩
abbrev cX4_begin : ByteArray := prog_6_method_2_code
def yX4_begin : MethodName := ⟨RX4, "begin", "(III)V"⟩
abbrev cX4_add : ByteArray := prog_6_method_3_code
def yX4_add : MethodName := ⟨RX4, "add", "(II)V"⟩
abbrev cX4_fill : ByteArray := prog_6_method_4_code
def yX4_fill : MethodName := ⟨RX4, "fill", "()V"⟩
abbrev cX4_allPots : ByteArray := prog_6_method_5_code
def yX4_allPots : MethodName := ⟨RX4, "allPots", "()I"⟩
abbrev cX4_fillMinute : ByteArray := prog_6_method_6_code
def yX4_fillMinute : MethodName := ⟨RX4, "fillMinute", "(I)V"⟩
abbrev cX4_goodAt : ByteArray := prog_6_method_7_code
def yX4_goodAt : MethodName := ⟨RX4, "goodAt", "(I)I"⟩
abbrev cX4_byWinding : ByteArray := prog_6_method_8_code
def yX4_byWinding : MethodName := ⟨RX4, "byWinding", "(II)I"⟩
abbrev cX4_byTaking : ByteArray := prog_6_method_9_code
def yX4_byTaking : MethodName := ⟨RX4, "byTaking", "(III)I"⟩
abbrev cX4_canTake : ByteArray := prog_6_method_10_code
def yX4_canTake : MethodName := ⟨RX4, "canTake", "(III)Z"⟩
abbrev cX4_howFew : ByteArray := prog_6_method_11_code
def yX4_howFew : MethodName := ⟨RX4, "howFew", "()I"⟩
abbrev cX4_first : ByteArray := prog_6_method_12_code
def yX4_first : MethodName := ⟨RX4, "first", "()I"⟩
abbrev cX4_leadsOn : ByteArray := prog_6_method_13_code
def yX4_leadsOn : MethodName := ⟨RX4, "leadsOn", "(II)Z"⟩
def RX5 : String := "OneTimer$Pot"
def TX5 : u_T := fun k => match k with
  | 0 => ("OneTimer$Pot", "wants", "I", true)
  | 1 => ("OneTimer$Pot", "since", "I", false)
  | 2 => ("OneTimer$Pot", "timesTaken", "I", false)
  | 3 => ("OneTimer$Pot", "lastOut", "I", false)
  | 4 => ("OneTimer$Pot", "keptSince", "I", false)
  | 5 => ("OneTimer$Pot", "keptTimesTaken", "I", false)
  | _ => ("OneTimer$Pot", "keptLastOut", "I", false)
def tyX5 : Nat → FieldType := fun k => match k with
  | 0 => .int
  | 1 => .int
  | 2 => .int
  | 3 => .int
  | 4 => .int
  | 5 => .int
  | _ => .int
abbrev wsX50 : List Cond := u_ws RX5 TX5 7
theorem nmX5 : ∀ a, a < 7 → ∀ b, b < 7 → a ≠ b → (TX5 a).2.1 ≠ (TX5 b).2.1 := by decide +kernel
theorem tyX5_ok : ∀ k, k < 7 → parseFieldDescriptor (TX5 k).2.2.1 = some (tyX5 k) := by decide +kernel
abbrev cX5_init : ByteArray := prog_7_method_1_code
def yX5_init : MethodName := ⟨RX5, "<init>", "(I)V"⟩
abbrev cX5_kind : ByteArray := prog_7_method_2_code
def yX5_kind : MethodName := ⟨RX5, "kind", "()I"⟩
abbrev cX5_keeps : ByteArray := prog_7_method_3_code
def yX5_keeps : MethodName := ⟨RX5, "keeps", "()I"⟩
abbrev cX5_boils : ByteArray := prog_7_method_4_code
def yX5_boils : MethodName := ⟨RX5, "boils", "()Z"⟩
abbrev cX5_due : ByteArray := prog_7_method_5_code
def yX5_due : MethodName := ⟨RX5, "due", "()I"⟩
abbrev cX5_outAt : ByteArray := prog_7_method_6_code
def yX5_outAt : MethodName := ⟨RX5, "outAt", "(I)I"⟩
abbrev cX5_comeOut : ByteArray := prog_7_method_7_code
def yX5_comeOut : MethodName := ⟨RX5, "comeOut", "(I)V"⟩
abbrev cX5_sureAt : ByteArray := prog_7_method_8_code
def yX5_sureAt : MethodName := ⟨RX5, "sureAt", "(I)I"⟩
abbrev cX5_keepImage : ByteArray := prog_7_method_9_code
def yX5_keepImage : MethodName := ⟨RX5, "keepImage", "()V"⟩
abbrev cX5_goBack : ByteArray := prog_7_method_10_code
def yX5_goBack : MethodName := ⟨RX5, "goBack", "()V"⟩
def RX6 : String := "OneTimer$Rice"
def TX6 : u_T := fun k => match k with
  | 0 => ("OneTimer$Pot", "wants", "I", true)
  | 1 => ("OneTimer$Pot", "since", "I", false)
  | 2 => ("OneTimer$Pot", "timesTaken", "I", false)
  | 3 => ("OneTimer$Pot", "lastOut", "I", false)
  | 4 => ("OneTimer$Pot", "keptSince", "I", false)
  | 5 => ("OneTimer$Pot", "keptTimesTaken", "I", false)
  | _ => ("OneTimer$Pot", "keptLastOut", "I", false)
def tyX6 : Nat → FieldType := fun k => match k with
  | 0 => .int
  | 1 => .int
  | 2 => .int
  | 3 => .int
  | 4 => .int
  | 5 => .int
  | _ => .int
abbrev wsX60 : List Cond := u_ws RX6 TX6 7
theorem nmX6 : ∀ a, a < 7 → ∀ b, b < 7 → a ≠ b → (TX6 a).2.1 ≠ (TX6 b).2.1 := by decide +kernel
theorem tyX6_ok : ∀ k, k < 7 → parseFieldDescriptor (TX6 k).2.2.1 = some (tyX6 k) := by decide +kernel
abbrev cX6_init : ByteArray := prog_8_method_1_code
def yX6_init : MethodName := ⟨RX6, "<init>", "(I)V"⟩
abbrev cX6_kind : ByteArray := prog_8_method_2_code
def yX6_kind : MethodName := ⟨RX6, "kind", "()I"⟩
abbrev cX6_keeps : ByteArray := prog_8_method_3_code
def yX6_keeps : MethodName := ⟨RX6, "keeps", "()I"⟩
def RX7 : String := "OneTimer$Stew"
def TX7 : u_T := fun k => match k with
  | 0 => ("OneTimer$Pot", "wants", "I", true)
  | 1 => ("OneTimer$Pot", "since", "I", false)
  | 2 => ("OneTimer$Pot", "timesTaken", "I", false)
  | 3 => ("OneTimer$Pot", "lastOut", "I", false)
  | 4 => ("OneTimer$Pot", "keptSince", "I", false)
  | 5 => ("OneTimer$Pot", "keptTimesTaken", "I", false)
  | _ => ("OneTimer$Pot", "keptLastOut", "I", false)
def tyX7 : Nat → FieldType := fun k => match k with
  | 0 => .int
  | 1 => .int
  | 2 => .int
  | 3 => .int
  | 4 => .int
  | 5 => .int
  | _ => .int
abbrev wsX70 : List Cond := u_ws RX7 TX7 7
theorem nmX7 : ∀ a, a < 7 → ∀ b, b < 7 → a ≠ b → (TX7 a).2.1 ≠ (TX7 b).2.1 := by decide +kernel
theorem tyX7_ok : ∀ k, k < 7 → parseFieldDescriptor (TX7 k).2.2.1 = some (tyX7 k) := by decide +kernel
abbrev cX7_init : ByteArray := prog_9_method_1_code
def yX7_init : MethodName := ⟨RX7, "<init>", "(I)V"⟩
abbrev cX7_kind : ByteArray := prog_9_method_2_code
def yX7_kind : MethodName := ⟨RX7, "kind", "()I"⟩
abbrev cX7_keeps : ByteArray := prog_9_method_3_code
def yX7_keeps : MethodName := ⟨RX7, "keeps", "()I"⟩
def RX8 : String := "OneTimer$Told"
def TX8 : u_T := fun k => match k with
  | 0 => ("OneTimer$Told", "untilDue", "[I", true)
  | 1 => ("OneTimer$Told", "keeps", "[I", true)
  | 2 => ("OneTimer$Told", "outs", "[I", true)
  | _ => ("OneTimer$Told", "size", "I", false)
def tyX8 : Nat → FieldType := fun k => match k with
  | 0 => .array .int
  | 1 => .array .int
  | 2 => .array .int
  | _ => .int
abbrev wsX80 : List Cond := u_ws RX8 TX8 4
theorem nmX8 : ∀ a, a < 4 → ∀ b, b < 4 → a ≠ b → (TX8 a).2.1 ≠ (TX8 b).2.1 := by decide +kernel
theorem tyX8_ok : ∀ k, k < 4 → parseFieldDescriptor (TX8 k).2.2.1 = some (tyX8 k) := by decide +kernel
abbrev cX8_init : ByteArray := prog_10_method_1_code
def yX8_init : MethodName := ⟨RX8, "<init>", "()V"⟩
abbrev cX8_add : ByteArray := prog_10_method_2_code
def yX8_add : MethodName := ⟨RX8, "add", "(III)Z"⟩
abbrev cX8_fits : ByteArray := prog_10_method_3_code
def yX8_fits : MethodName := ⟨RX8, "fits", "(I)Z"⟩
abbrev cX8_copyFrom : ByteArray := prog_10_method_4_code
def yX8_copyFrom : MethodName := ⟨RX8, "copyFrom", "(LOneTimer$Told;)V"⟩
def RX9 : String := "OneTimer"
def TX9 : u_T := fun k => match k with
  | 0 => ("OneTimer", "page", "LOneTimer$Page;", true)
  | 1 => ("OneTimer", "pots", "[LOneTimer$Pot;", true)
  | 2 => ("OneTimer", "told", "LOneTimer$Told;", true)
  | 3 => ("OneTimer", "keptTold", "LOneTimer$Told;", true)
  | 4 => ("OneTimer", "planner", "LOneTimer$Planner;", true)
  | 5 => ("OneTimer", "draws", "LOneTimer$Draws;", true)
  | 6 => ("OneTimer", "potCount", "I", false)
  | 7 => ("OneTimer", "spring", "I", false)
  | 8 => ("OneTimer", "hands", "I", false)
  | 9 => ("OneTimer", "minute", "I", false)
  | 10 => ("OneTimer", "free", "I", false)
  | 11 => ("OneTimer", "windings", "I", false)
  | 12 => ("OneTimer", "hasImage", "Z", false)
  | 13 => ("OneTimer", "keptMinute", "I", false)
  | 14 => ("OneTimer", "keptFree", "I", false)
  | 15 => ("OneTimer", "keptWindings", "I", false)
  | 16 => ("OneTimer", "kitchensRead", "I", false)
  | _ => ("OneTimer", "plansDone", "I", false)
def tyX9 : Nat → FieldType := fun k => match k with
  | 0 => .object "OneTimer$Page"
  | 1 => .array (.object "OneTimer$Pot")
  | 2 => .object "OneTimer$Told"
  | 3 => .object "OneTimer$Told"
  | 4 => .object "OneTimer$Planner"
  | 5 => .object "OneTimer$Draws"
  | 6 => .int
  | 7 => .int
  | 8 => .int
  | 9 => .int
  | 10 => .int
  | 11 => .int
  | 12 => .boolean
  | 13 => .int
  | 14 => .int
  | 15 => .int
  | 16 => .int
  | _ => .int
abbrev wsX90 : List Cond := u_ws RX9 TX9 18
theorem nmX9 : ∀ a, a < 18 → ∀ b, b < 18 → a ≠ b → (TX9 a).2.1 ≠ (TX9 b).2.1 := by decide +kernel
theorem tyX9_ok : ∀ k, k < 18 → parseFieldDescriptor (TX9 k).2.2.1 = some (tyX9 k) := by decide +kernel
abbrev cX9_init : ByteArray := prog_1_method_1_code
def yX9_init : MethodName := ⟨RX9, "<init>", "()V"⟩
abbrev cX9_letter : ByteArray := prog_1_method_2_code
def yX9_letter : MethodName := ⟨RX9, "letter", "(I)I"⟩
abbrev cX9_blank : ByteArray := prog_1_method_3_code
def yX9_blank : MethodName := ⟨RX9, "blank", "()I"⟩
abbrev cX9_fault : ByteArray := prog_1_method_4_code
def yX9_fault : MethodName := ⟨RX9, "fault", "()I"⟩
abbrev cX9_kitchen : ByteArray := prog_1_method_5_code
def yX9_kitchen : MethodName := ⟨RX9, "kitchen", "()I"⟩
abbrev cX9_readPots : ByteArray := prog_1_method_6_code
def yX9_readPots : MethodName := ⟨RX9, "readPots", "()V"⟩
abbrev cX9_startEvening : ByteArray := prog_1_method_7_code
def yX9_startEvening : MethodName := ⟨RX9, "startEvening", "()V"⟩
abbrev cX9_newPot : ByteArray := prog_1_method_8_code
def yX9_newPot : MethodName := ⟨RX9, "newPot", "(II)LOneTimer$Pot;"⟩
abbrev cX9_hasKitchen : ByteArray := prog_1_method_9_code
def yX9_hasKitchen : MethodName := ⟨RX9, "hasKitchen", "()Z"⟩
abbrev cX9_potAt : ByteArray := prog_1_method_10_code
def yX9_potAt : MethodName := ⟨RX9, "potAt", "(I)LOneTimer$Pot;"⟩
abbrev cX9_about : ByteArray := prog_1_method_11_code
def yX9_about : MethodName := ⟨RX9, "about", "(II)I"⟩
abbrev cX9_as : ByteArray := prog_1_method_12_code
def yX9_as : MethodName := ⟨RX9, "as", "(II)I"⟩
abbrev cX9_isOfKind : ByteArray := prog_1_method_13_code
def yX9_isOfKind : MethodName := ⟨RX9, "isOfKind", "(LOneTimer$Pot;I)Z"⟩
abbrev cX9_boil : ByteArray := prog_1_method_14_code
def yX9_boil : MethodName := ⟨RX9, "boil", "(I)I"⟩
abbrev cX9_wind : ByteArray := prog_1_method_15_code
def yX9_wind : MethodName := ⟨RX9, "wind", "(I)I"⟩
abbrev cX9_take : ByteArray := prog_1_method_16_code
def yX9_take : MethodName := ⟨RX9, "take", "(I)I"⟩
abbrev cX9_plan : ByteArray := prog_1_method_17_code
def yX9_plan : MethodName := ⟨RX9, "plan", "(I)I"⟩
abbrev cX9_sure : ByteArray := prog_1_method_18_code
def yX9_sure : MethodName := ⟨RX9, "sure", "(II)I"⟩
abbrev cX9_best : ByteArray := prog_1_method_19_code
def yX9_best : MethodName := ⟨RX9, "best", "(I)I"⟩
abbrev cX9_bestWinding : ByteArray := prog_1_method_20_code
def yX9_bestWinding : MethodName := ⟨RX9, "bestWinding", "(LOneTimer$Pot;)I"⟩
abbrev cX9_together : ByteArray := prog_1_method_21_code
def yX9_together : MethodName := ⟨RX9, "together", "(II)I"⟩
abbrev cX9_tell : ByteArray := prog_1_method_22_code
def yX9_tell : MethodName := ⟨RX9, "tell", "(II)I"⟩
abbrev cX9_forget : ByteArray := prog_1_method_23_code
def yX9_forget : MethodName := ⟨RX9, "forget", "()I"⟩
abbrev cX9_wound : ByteArray := prog_1_method_24_code
def yX9_wound : MethodName := ⟨RX9, "wound", "(I)I"⟩
abbrev cX9_windingsThatFit : ByteArray := prog_1_method_25_code
def yX9_windingsThatFit : MethodName := ⟨RX9, "windingsThatFit", "()I"⟩
abbrev cX9_leastThatFits : ByteArray := prog_1_method_26_code
def yX9_leastThatFits : MethodName := ⟨RX9, "leastThatFits", "()I"⟩
abbrev cX9_evenings : ByteArray := prog_1_method_27_code
def yX9_evenings : MethodName := ⟨RX9, "evenings", "(III)I"⟩
abbrev cX9_image : ByteArray := prog_1_method_28_code
def yX9_image : MethodName := ⟨RX9, "image", "()I"⟩
abbrev cX9_restore : ByteArray := prog_1_method_29_code
def yX9_restore : MethodName := ⟨RX9, "restore", "()I"⟩
abbrev cX9_count : ByteArray := prog_1_method_30_code
def yX9_count : MethodName := ⟨RX9, "count", "(I)I"⟩
abbrev cX9_potsThatBoil : ByteArray := prog_1_method_31_code
def yX9_potsThatBoil : MethodName := ⟨RX9, "potsThatBoil", "()I"⟩
abbrev cX9_digest : ByteArray := prog_1_method_32_code
def yX9_digest : MethodName := ⟨RX9, "digest", "()J"⟩
abbrev cX9_digestOfPot : ByteArray := prog_1_method_33_code
def yX9_digestOfPot : MethodName := ⟨RX9, "digestOfPot", "(JI)J"⟩
abbrev cX9_outBy : ByteArray := prog_1_method_34_code
def yX9_outBy : MethodName := ⟨RX9, "outBy", "(II)I"⟩
def RX10 : String := "OneTimerModel"
def TX10 : u_T := fun k => match k with
  | 0 => ("OneTimerModel", "kitchens", "I", false)
  | 1 => ("OneTimerModel", "pots", "I", false)
  | 2 => ("OneTimerModel", "spring", "I", false)
  | 3 => ("OneTimerModel", "hands", "I", false)
  | 4 => ("OneTimerModel", "kindOf", "[I", true)
  | 5 => ("OneTimerModel", "wantsOf", "[I", true)
  | 6 => ("OneTimerModel", "minute", "I", false)
  | 7 => ("OneTimerModel", "free", "I", false)
  | 8 => ("OneTimerModel", "windings", "I", false)
  | 9 => ("OneTimerModel", "sinceOf", "[I", true)
  | 10 => ("OneTimerModel", "takenOf", "[I", true)
  | 11 => ("OneTimerModel", "outOf", "[I", true)
  | 12 => ("OneTimerModel", "told", "I", false)
  | 13 => ("OneTimerModel", "toldMinute", "[I", true)
  | 14 => ("OneTimerModel", "toldDue", "[I", true)
  | 15 => ("OneTimerModel", "toldKeeps", "[I", true)
  | 16 => ("OneTimerModel", "toldOut", "[I", true)
  | 17 => ("OneTimerModel", "asks", "I", false)
  | 18 => ("OneTimerModel", "pageLength", "I", false)
  | 19 => ("OneTimerModel", "page", "[B", true)
  | 20 => ("OneTimerModel", "isWhole", "Z", false)
  | 21 => ("OneTimerModel", "newMany", "I", false)
  | 22 => ("OneTimerModel", "farOf", "[I", true)
  | 23 => ("OneTimerModel", "firstOf", "[I", true)
  | 24 => ("OneTimerModel", "seedNow", "J", false)
  | 25 => ("OneTimerModel", "isKept", "Z", false)
  | 26 => ("OneTimerModel", "keptKitchen", "I", false)
  | 27 => ("OneTimerModel", "keptMinute", "I", false)
  | 28 => ("OneTimerModel", "keptFree", "I", false)
  | 29 => ("OneTimerModel", "keptWindings", "I", false)
  | 30 => ("OneTimerModel", "keptTold", "I", false)
  | 31 => ("OneTimerModel", "keptSince", "[I", true)
  | 32 => ("OneTimerModel", "keptTaken", "[I", true)
  | 33 => ("OneTimerModel", "keptOut", "[I", true)
  | 34 => ("OneTimerModel", "keptToldMinute", "[I", true)
  | 35 => ("OneTimerModel", "keptDue", "[I", true)
  | 36 => ("OneTimerModel", "keptKeeps", "[I", true)
  | 37 => ("OneTimerModel", "keptToldOut", "[I", true)
  | _ => ("OneTimerModel", "h", "J", false)
def tyX10 : Nat → FieldType := fun k => match k with
  | 0 => .int
  | 1 => .int
  | 2 => .int
  | 3 => .int
  | 4 => .array .int
  | 5 => .array .int
  | 6 => .int
  | 7 => .int
  | 8 => .int
  | 9 => .array .int
  | 10 => .array .int
  | 11 => .array .int
  | 12 => .int
  | 13 => .array .int
  | 14 => .array .int
  | 15 => .array .int
  | 16 => .array .int
  | 17 => .int
  | 18 => .int
  | 19 => .array .byte
  | 20 => .boolean
  | 21 => .int
  | 22 => .array .int
  | 23 => .array .int
  | 24 => .long
  | 25 => .boolean
  | 26 => .int
  | 27 => .int
  | 28 => .int
  | 29 => .int
  | 30 => .int
  | 31 => .array .int
  | 32 => .array .int
  | 33 => .array .int
  | 34 => .array .int
  | 35 => .array .int
  | 36 => .array .int
  | 37 => .array .int
  | _ => .long
abbrev wsX100 : List Cond := u_ws RX10 TX10 39
theorem nmX10 : ∀ a, a < 39 → ∀ b, b < 39 → a ≠ b → (TX10 a).2.1 ≠ (TX10 b).2.1 := by decide +kernel
theorem tyX10_ok : ∀ k, k < 39 → parseFieldDescriptor (TX10 k).2.2.1 = some (tyX10 k) := by decide +kernel
abbrev cX10_init : ByteArray := prog_12_method_1_code
def yX10_init : MethodName := ⟨RX10, "<init>", "()V"⟩
abbrev cX10_within : ByteArray := prog_12_method_3_code
def yX10_within : MethodName := ⟨RX10, "within", "(III)Z"⟩
abbrev cX10_letter : ByteArray := prog_12_method_4_code
def yX10_letter : MethodName := ⟨RX10, "letter", "(I)I"⟩
abbrev cX10_blank : ByteArray := prog_12_method_5_code
def yX10_blank : MethodName := ⟨RX10, "blank", "()I"⟩
abbrev cX10_kindBy : ByteArray := prog_12_method_6_code
def yX10_kindBy : MethodName := ⟨RX10, "kindBy", "(I)I"⟩
abbrev cX10_figure : ByteArray := prog_12_method_7_code
def yX10_figure : MethodName := ⟨RX10, "figure", "(I)I"⟩
abbrev cX10_readTwo : ByteArray := prog_12_method_8_code
def yX10_readTwo : MethodName := ⟨RX10, "readTwo", "(II)I"⟩
abbrev cX10_two : ByteArray := prog_12_method_9_code
def yX10_two : MethodName := ⟨RX10, "two", "(I)I"⟩
abbrev cX10_readRest : ByteArray := prog_12_method_10_code
def yX10_readRest : MethodName := ⟨RX10, "readRest", "(I)I"⟩
abbrev cX10_read : ByteArray := prog_12_method_11_code
def yX10_read : MethodName := ⟨RX10, "read", "()I"⟩
abbrev cX10_fault : ByteArray := prog_12_method_12_code
def yX10_fault : MethodName := ⟨RX10, "fault", "()I"⟩
abbrev cX10_kitchen : ByteArray := prog_12_method_13_code
def yX10_kitchen : MethodName := ⟨RX10, "kitchen", "()I"⟩
abbrev cX10_isPot : ByteArray := prog_12_method_14_code
def yX10_isPot : MethodName := ⟨RX10, "isPot", "(I)Z"⟩
abbrev cX10_keepsOf : ByteArray := prog_12_method_15_code
def yX10_keepsOf : MethodName := ⟨RX10, "keepsOf", "(I)I"⟩
abbrev cX10_out : ByteArray := prog_12_method_16_code
def yX10_out : MethodName := ⟨RX10, "out", "(III)I"⟩
abbrev cX10_boils : ByteArray := prog_12_method_17_code
def yX10_boils : MethodName := ⟨RX10, "boils", "(I)Z"⟩
abbrev cX10_dueOf : ByteArray := prog_12_method_18_code
def yX10_dueOf : MethodName := ⟨RX10, "dueOf", "(I)I"⟩
abbrev cX10_outAt : ByteArray := prog_12_method_19_code
def yX10_outAt : MethodName := ⟨RX10, "outAt", "(II)I"⟩
abbrev cX10_potNow : ByteArray := prog_12_method_20_code
def yX10_potNow : MethodName := ⟨RX10, "potNow", "(II)I"⟩
abbrev cX10_about : ByteArray := prog_12_method_21_code
def yX10_about : MethodName := ⟨RX10, "about", "(II)I"⟩
abbrev cX10_as : ByteArray := prog_12_method_22_code
def yX10_as : MethodName := ⟨RX10, "as", "(II)I"⟩
abbrev cX10_boil : ByteArray := prog_12_method_23_code
def yX10_boil : MethodName := ⟨RX10, "boil", "(I)I"⟩
abbrev cX10_wind : ByteArray := prog_12_method_24_code
def yX10_wind : MethodName := ⟨RX10, "wind", "(I)I"⟩
abbrev cX10_take : ByteArray := prog_12_method_25_code
def yX10_take : MethodName := ⟨RX10, "take", "(I)I"⟩
abbrev cX10_size : ByteArray := prog_12_method_26_code
def yX10_size : MethodName := ⟨RX10, "size", "(I)I"⟩
abbrev cX10_goodAt : ByteArray := prog_12_method_27_code
def yX10_goodAt : MethodName := ⟨RX10, "goodAt", "(I)I"⟩
abbrev cX10_mark : ByteArray := prog_12_method_28_code
def yX10_mark : MethodName := ⟨RX10, "mark", "(IIIIII)V"⟩
abbrev cX10_goWave : ByteArray := prog_12_method_29_code
def yX10_goWave : MethodName := ⟨RX10, "goWave", "(I)Z"⟩
abbrev cX10_planNow : ByteArray := prog_12_method_30_code
def yX10_planNow : MethodName := ⟨RX10, "planNow", "(I)I"⟩
abbrev cX10_plan : ByteArray := prog_12_method_31_code
def yX10_plan : MethodName := ⟨RX10, "plan", "(I)I"⟩
abbrev cX10_sureNow : ByteArray := prog_12_method_32_code
def yX10_sureNow : MethodName := ⟨RX10, "sureNow", "(II)I"⟩
abbrev cX10_sure : ByteArray := prog_12_method_33_code
def yX10_sure : MethodName := ⟨RX10, "sure", "(II)I"⟩
abbrev cX10_bestNow : ByteArray := prog_12_method_34_code
def yX10_bestNow : MethodName := ⟨RX10, "bestNow", "(I)I"⟩
abbrev cX10_best : ByteArray := prog_12_method_35_code
def yX10_best : MethodName := ⟨RX10, "best", "(I)I"⟩
abbrev cX10_togetherNow : ByteArray := prog_12_method_36_code
def yX10_togetherNow : MethodName := ⟨RX10, "togetherNow", "(II)I"⟩
abbrev cX10_together : ByteArray := prog_12_method_37_code
def yX10_together : MethodName := ⟨RX10, "together", "(II)I"⟩
abbrev cX10_tell : ByteArray := prog_12_method_38_code
def yX10_tell : MethodName := ⟨RX10, "tell", "(II)I"⟩
abbrev cX10_forget : ByteArray := prog_12_method_39_code
def yX10_forget : MethodName := ⟨RX10, "forget", "()I"⟩
abbrev cX10_couldBe : ByteArray := prog_12_method_40_code
def yX10_couldBe : MethodName := ⟨RX10, "couldBe", "(I)Z"⟩
abbrev cX10_woundNow : ByteArray := prog_12_method_41_code
def yX10_woundNow : MethodName := ⟨RX10, "woundNow", "(I)I"⟩
abbrev cX10_wound : ByteArray := prog_12_method_42_code
def yX10_wound : MethodName := ⟨RX10, "wound", "(I)I"⟩
abbrev cX10_draw : ByteArray := prog_12_method_43_code
def yX10_draw : MethodName := ⟨RX10, "draw", "(I)I"⟩
abbrev cX10_eveningsNow : ByteArray := prog_12_method_44_code
def yX10_eveningsNow : MethodName := ⟨RX10, "eveningsNow", "(III)I"⟩
abbrev cX10_evenings : ByteArray := prog_12_method_45_code
def yX10_evenings : MethodName := ⟨RX10, "evenings", "(III)I"⟩
abbrev cX10_image : ByteArray := prog_12_method_46_code
def yX10_image : MethodName := ⟨RX10, "image", "()I"⟩
abbrev cX10_restore : ByteArray := prog_12_method_47_code
def yX10_restore : MethodName := ⟨RX10, "restore", "()I"⟩
abbrev cX10_boiling : ByteArray := prog_12_method_48_code
def yX10_boiling : MethodName := ⟨RX10, "boiling", "()I"⟩
abbrev cX10_howMany : ByteArray := prog_12_method_49_code
def yX10_howMany : MethodName := ⟨RX10, "howMany", "(I)I"⟩
abbrev cX10_count : ByteArray := prog_12_method_50_code
def yX10_count : MethodName := ⟨RX10, "count", "(I)I"⟩
abbrev cX10_mix : ByteArray := prog_12_method_51_code
def yX10_mix : MethodName := ⟨RX10, "mix", "(J)V"⟩
abbrev cX10_digest : ByteArray := prog_12_method_52_code
def yX10_digest : MethodName := ⟨RX10, "digest", "()J"⟩
def RJ6 : String := "java/lang/Integer"
def TJ6 : u_T := fun k => match k with
  | _ => ("", "", "", false)
def tyJ6 : Nat → FieldType := fun k => match k with
  | _ => .int
abbrev wsJ60 : List Cond := u_ws RJ6 TJ6 0
theorem nmJ6 : ∀ a, a < 0 → ∀ b, b < 0 → a ≠ b → (TJ6 a).2.1 ≠ (TJ6 b).2.1 := by decide +kernel
theorem tyJ6_ok : ∀ k, k < 0 → parseFieldDescriptor (TJ6 k).2.2.1 = some (tyJ6 k) := by decide +kernel
abbrev cJ6_bitCount_0f7a4 : ByteArray := prog_13_method_49_code
def yJ6_bitCount_0f7a4 : MethodName := ⟨RJ6, "bitCount", "(I)I"⟩
def RJ9 : String := "java/lang/Math"
def TJ9 : u_T := fun k => match k with
  | _ => ("", "", "", false)
def tyJ9 : Nat → FieldType := fun k => match k with
  | _ => .int
abbrev wsJ90 : List Cond := u_ws RJ9 TJ9 0
theorem nmJ9 : ∀ a, a < 0 → ∀ b, b < 0 → a ≠ b → (TJ9 a).2.1 ≠ (TJ9 b).2.1 := by decide +kernel
theorem tyJ9_ok : ∀ k, k < 0 → parseFieldDescriptor (TJ9 k).2.2.1 = some (tyJ9 k) := by decide +kernel
abbrev cJ9_max_7cf53 : ByteArray := prog_14_method_65_code
def yJ9_max_7cf53 : MethodName := ⟨RJ9, "max", "(II)I"⟩
abbrev cJ9_min_7cf53 : ByteArray := prog_14_method_69_code
def yJ9_min_7cf53 : MethodName := ⟨RJ9, "min", "(II)I"⟩
def RL : String := "OneTimerLaw"
abbrev cL_law : ByteArray := code
def yL_law : MethodName := ⟨RL, "law", "([I)Z"⟩
def wsX5_init : List Cond := .code yX5_init cX5_init 2 none :: ([.methodLink RX5 3 objectInit, .instanceMethod objectInit, .code objectInit ⟨#[0xb1]⟩ 1 none, .fieldLink RX5 9 "OneTimer$Pot" "since" "I", .fieldLink RX5 15 "OneTimer$Pot" "lastOut" "I", .fieldLink RX5 18 "OneTimer$Pot" "keptSince" "I", .fieldLink RX5 21 "OneTimer$Pot" "keptLastOut" "I", .fieldLink RX5 24 "OneTimer$Pot" "wants" "I"] ++ wsX00 ++ wsX20 ++ wsX50 ++ wsX60 ++ wsX70)
def wsX6_init : List Cond := .code yX6_init cX6_init 2 none :: ([.methodLink RX6 1 yX5_init, .instanceMethod yX5_init, .initialized RX5, .code yX5_init cX5_init 2 none, .methodLink RX5 3 objectInit, .instanceMethod objectInit, .code objectInit ⟨#[0xb1]⟩ 1 none, .fieldLink RX5 9 "OneTimer$Pot" "since" "I", .fieldLink RX5 15 "OneTimer$Pot" "lastOut" "I", .fieldLink RX5 18 "OneTimer$Pot" "keptSince" "I", .fieldLink RX5 21 "OneTimer$Pot" "keptLastOut" "I", .fieldLink RX5 24 "OneTimer$Pot" "wants" "I"] ++ wsX00 ++ wsX20 ++ wsX50 ++ wsX60 ++ wsX70)
def wsX0_init : List Cond := .code yX0_init cX0_init 2 none :: ([.methodLink RX0 1 yX6_init, .instanceMethod yX6_init, .initialized RX6, .code yX6_init cX6_init 2 none, .methodLink RX6 1 yX5_init, .instanceMethod yX5_init, .initialized RX5, .code yX5_init cX5_init 2 none, .methodLink RX5 3 objectInit, .instanceMethod objectInit, .code objectInit ⟨#[0xb1]⟩ 1 none, .fieldLink RX5 9 "OneTimer$Pot" "since" "I", .fieldLink RX5 15 "OneTimer$Pot" "lastOut" "I", .fieldLink RX5 18 "OneTimer$Pot" "keptSince" "I", .fieldLink RX5 21 "OneTimer$Pot" "keptLastOut" "I", .fieldLink RX5 24 "OneTimer$Pot" "wants" "I"] ++ wsX00 ++ wsX20 ++ wsX50 ++ wsX60 ++ wsX70)
def wsX0_kind : List Cond := .code yX0_kind cX0_kind 1 (some .int) :: ([])
def wsX6_keeps : List Cond := .code yX6_keeps cX6_keeps 1 (some .int) :: ([])
def wsX0_keeps : List Cond := .code yX0_keeps cX0_keeps 1 (some .int) :: ([.methodLink RX0 7 yX6_keeps, .sameMethod "OneTimer$Rice" "OneTimer$Rice" "keeps" "()I", .superclass RX0 RX6, .instanceMethod yX6_keeps, .initialized RX6, .code yX6_keeps cX6_keeps 1 (some .int)])
def wsX1_init : List Cond := .code yX1_init cX1_init 1 none :: ([.methodLink RX1 1 objectInit, .instanceMethod objectInit, .code objectInit ⟨#[0xb1]⟩ 1 none])
def wsX1_next : List Cond := .code yX1_next cX1_next 2 (some .int) :: ([.constantLong RX1 7 (1103515245), .fieldLink RX1 9 "OneTimer$Draws" "seed" "I", .constantLong RX1 15 (12345), .constantLong RX1 17 (2147483647), .constant RX1 19 (65536)] ++ wsX10)
def wsX2_init : List Cond := .code yX2_init cX2_init 2 none :: ([.methodLink RX2 1 yX5_init, .instanceMethod yX5_init, .initialized RX5, .code yX5_init cX5_init 2 none, .methodLink RX5 3 objectInit, .instanceMethod objectInit, .code objectInit ⟨#[0xb1]⟩ 1 none, .fieldLink RX5 9 "OneTimer$Pot" "since" "I", .fieldLink RX5 15 "OneTimer$Pot" "lastOut" "I", .fieldLink RX5 18 "OneTimer$Pot" "keptSince" "I", .fieldLink RX5 21 "OneTimer$Pot" "keptLastOut" "I", .fieldLink RX5 24 "OneTimer$Pot" "wants" "I"] ++ wsX00 ++ wsX20 ++ wsX50 ++ wsX60 ++ wsX70)
def wsX2_kind : List Cond := .code yX2_kind cX2_kind 1 (some .int) :: ([])
def wsX2_keeps : List Cond := .code yX2_keeps cX2_keeps 1 (some .int) :: ([])
def wsX3_init : List Cond := .code yX3_init cX3_init 1 none :: ([.methodLink RX3 3 objectInit, .instanceMethod objectInit, .code objectInit ⟨#[0xb1]⟩ 1 none, .arrayClass .int, .fieldLink RX3 11 "OneTimer$Page" "letters" "[I"] ++ wsX30)
def wsX3_write : List Cond := .code yX3_write cX3_write 2 (some .boolean) :: ([.fieldLink RX3 15 "OneTimer$Page" "size" "I", .fieldLink RX3 11 "OneTimer$Page" "letters" "[I"] ++ wsX30)
def wsX3_codeAt : List Cond := .code yX3_codeAt cX3_codeAt 2 (some .int) :: ([.fieldLink RX3 15 "OneTimer$Page" "size" "I", .fieldLink RX3 11 "OneTimer$Page" "letters" "[I"] ++ wsX30)
def wsX3_kindOf : List Cond := .code yX3_kindOf cX3_kindOf 1 (some .int) :: ([])
def wsX3_fitsSecondDigit : List Cond := .code yX3_fitsSecondDigit cX3_fitsSecondDigit 3 (some .boolean) :: ([])
def wsX3_fitsPots : List Cond := .code yX3_fitsPots cX3_fitsPots 3 (some .boolean) :: ([.methodLink RX3 27 yX3_codeAt, .instanceMethod yX3_codeAt, .selects RX3 yX3_codeAt yX3_codeAt, .initialized RX3, .code yX3_codeAt cX3_codeAt 2 (some .int), .fieldLink RX3 15 "OneTimer$Page" "size" "I", .fieldLink RX3 11 "OneTimer$Page" "letters" "[I", .methodLink RX3 31 yX3_kindOf, .static yX3_kindOf, .code yX3_kindOf cX3_kindOf 1 (some .int), .methodLink RX3 34 yX3_fitsSecondDigit, .static yX3_fitsSecondDigit, .code yX3_fitsSecondDigit cX3_fitsSecondDigit 3 (some .boolean)] ++ wsX30)
def wsX3_fitsEnd : List Cond := .code yX3_fitsEnd cX3_fitsEnd 4 (some .boolean) :: ([.methodLink RX3 27 yX3_codeAt, .instanceMethod yX3_codeAt, .selects RX3 yX3_codeAt yX3_codeAt, .initialized RX3, .code yX3_codeAt cX3_codeAt 2 (some .int), .fieldLink RX3 15 "OneTimer$Page" "size" "I", .fieldLink RX3 11 "OneTimer$Page" "letters" "[I", .methodLink RX3 34 yX3_fitsSecondDigit, .static yX3_fitsSecondDigit, .code yX3_fitsSecondDigit cX3_fitsSecondDigit 3 (some .boolean)] ++ wsX30)
def wsX3_faultPlace : List Cond := .code yX3_faultPlace cX3_faultPlace 4 (some .int) :: ([.fieldLink RX3 15 "OneTimer$Page" "size" "I", .methodLink RX3 19 yX3_fitsPots, .instanceMethod yX3_fitsPots, .selects RX3 yX3_fitsPots yX3_fitsPots, .initialized RX3, .code yX3_fitsPots cX3_fitsPots 3 (some .boolean), .methodLink RX3 27 yX3_codeAt, .instanceMethod yX3_codeAt, .selects RX3 yX3_codeAt yX3_codeAt, .code yX3_codeAt cX3_codeAt 2 (some .int), .fieldLink RX3 11 "OneTimer$Page" "letters" "[I", .methodLink RX3 31 yX3_kindOf, .static yX3_kindOf, .code yX3_kindOf cX3_kindOf 1 (some .int), .methodLink RX3 34 yX3_fitsSecondDigit, .static yX3_fitsSecondDigit, .code yX3_fitsSecondDigit cX3_fitsSecondDigit 3 (some .boolean), .methodLink RX3 23 yX3_fitsEnd, .instanceMethod yX3_fitsEnd, .selects RX3 yX3_fitsEnd yX3_fitsEnd, .code yX3_fitsEnd cX3_fitsEnd 4 (some .boolean)] ++ wsX30)
def wsX3_isKitchen_r1 : List Cond := [Cond.fieldLink RX3 15 "OneTimer$Page" "size" "I", Cond.methodLink RX3 27 yX3_codeAt, Cond.instanceMethod yX3_codeAt, Cond.selects RX3 yX3_codeAt yX3_codeAt, Cond.initialized RX3, Cond.code yX3_codeAt cX3_codeAt 2 (some .int), Cond.fieldLink RX3 11 "OneTimer$Page" "letters" "[I", Cond.methodLink RX3 38 yX3_faultPlace, Cond.instanceMethod yX3_faultPlace, Cond.selects RX3 yX3_faultPlace yX3_faultPlace, Cond.code yX3_faultPlace cX3_faultPlace 4 (some .int), Cond.methodLink RX3 19 yX3_fitsPots, Cond.instanceMethod yX3_fitsPots, Cond.selects RX3 yX3_fitsPots yX3_fitsPots, Cond.code yX3_fitsPots cX3_fitsPots 3 (some .boolean), Cond.methodLink RX3 31 yX3_kindOf, Cond.static yX3_kindOf, Cond.code yX3_kindOf cX3_kindOf 1 (some .int), Cond.methodLink RX3 34 yX3_fitsSecondDigit, Cond.static yX3_fitsSecondDigit, Cond.code yX3_fitsSecondDigit cX3_fitsSecondDigit 3 (some .boolean), Cond.methodLink RX3 23 yX3_fitsEnd, Cond.instanceMethod yX3_fitsEnd, Cond.selects RX3 yX3_fitsEnd yX3_fitsEnd]
def wsX3_isKitchen_r2 : List Cond := [Cond.code yX3_fitsEnd cX3_fitsEnd 4 (some .boolean)]
def wsX3_isKitchen : List Cond := .code yX3_isKitchen cX3_isKitchen 1 (some .boolean) :: ((wsX3_isKitchen_r1 ++ wsX3_isKitchen_r2) ++ wsX30)
def wsX3_potsTold : List Cond := .code yX3_potsTold cX3_potsTold 1 (some .int) :: ([.fieldLink RX3 15 "OneTimer$Page" "size" "I"] ++ wsX30)
def wsX3_kindTold : List Cond := .code yX3_kindTold cX3_kindTold 2 (some .int) :: ([.methodLink RX3 27 yX3_codeAt, .instanceMethod yX3_codeAt, .selects RX3 yX3_codeAt yX3_codeAt, .initialized RX3, .code yX3_codeAt cX3_codeAt 2 (some .int), .fieldLink RX3 15 "OneTimer$Page" "size" "I", .fieldLink RX3 11 "OneTimer$Page" "letters" "[I", .methodLink RX3 31 yX3_kindOf, .static yX3_kindOf, .code yX3_kindOf cX3_kindOf 1 (some .int)] ++ wsX30)
def wsX3_twoDigits : List Cond := .code yX3_twoDigits cX3_twoDigits 2 (some .int) :: ([.methodLink RX3 27 yX3_codeAt, .instanceMethod yX3_codeAt, .selects RX3 yX3_codeAt yX3_codeAt, .initialized RX3, .code yX3_codeAt cX3_codeAt 2 (some .int), .fieldLink RX3 15 "OneTimer$Page" "size" "I", .fieldLink RX3 11 "OneTimer$Page" "letters" "[I"] ++ wsX30)
def wsX3_wantsTold : List Cond := .code yX3_wantsTold cX3_wantsTold 2 (some .int) :: ([.methodLink RX3 42 yX3_twoDigits, .instanceMethod yX3_twoDigits, .selects RX3 yX3_twoDigits yX3_twoDigits, .initialized RX3, .code yX3_twoDigits cX3_twoDigits 2 (some .int), .methodLink RX3 27 yX3_codeAt, .instanceMethod yX3_codeAt, .selects RX3 yX3_codeAt yX3_codeAt, .code yX3_codeAt cX3_codeAt 2 (some .int), .fieldLink RX3 15 "OneTimer$Page" "size" "I", .fieldLink RX3 11 "OneTimer$Page" "letters" "[I"] ++ wsX30)
def wsX3_springTold : List Cond := .code yX3_springTold cX3_springTold 1 (some .int) :: ([.fieldLink RX3 15 "OneTimer$Page" "size" "I", .methodLink RX3 42 yX3_twoDigits, .instanceMethod yX3_twoDigits, .selects RX3 yX3_twoDigits yX3_twoDigits, .initialized RX3, .code yX3_twoDigits cX3_twoDigits 2 (some .int), .methodLink RX3 27 yX3_codeAt, .instanceMethod yX3_codeAt, .selects RX3 yX3_codeAt yX3_codeAt, .code yX3_codeAt cX3_codeAt 2 (some .int), .fieldLink RX3 11 "OneTimer$Page" "letters" "[I"] ++ wsX30)
def wsX3_handsTold : List Cond := .code yX3_handsTold cX3_handsTold 1 (some .int) :: ([.fieldLink RX3 15 "OneTimer$Page" "size" "I", .methodLink RX3 27 yX3_codeAt, .instanceMethod yX3_codeAt, .selects RX3 yX3_codeAt yX3_codeAt, .initialized RX3, .code yX3_codeAt cX3_codeAt 2 (some .int), .fieldLink RX3 11 "OneTimer$Page" "letters" "[I"] ++ wsX30)
def wsX4_init : List Cond := .code yX4_init cX4_init 1 none :: ([.methodLink RX4 3 objectInit, .instanceMethod objectInit, .code objectInit ⟨#[0xb1]⟩ 1 none, .arrayClass .int, .fieldLink RX4 11 "OneTimer$Planner" "fewest" "[I", .fieldLink RX4 15 "OneTimer$Planner" "afterTaking" "[I", .fieldLink RX4 18 "OneTimer$Planner" "opens" "[I", .fieldLink RX4 21 "OneTimer$Planner" "closes" "[I"] ++ wsX40)
def wsX4_begin : List Cond := .code yX4_begin cX4_begin 4 none :: ([.fieldLink RX4 24 "OneTimer$Planner" "size" "I", .fieldLink RX4 28 "OneTimer$Planner" "last" "I", .fieldLink RX4 31 "OneTimer$Planner" "spring" "I", .fieldLink RX4 34 "OneTimer$Planner" "hands" "I", .fieldLink RX4 37 "OneTimer$Planner" "freeNow" "I"] ++ wsX40)
def wsX4_add : List Cond := .code yX4_add cX4_add 3 none :: ([.fieldLink RX4 24 "OneTimer$Planner" "size" "I", .fieldLink RX4 18 "OneTimer$Planner" "opens" "[I", .fieldLink RX4 21 "OneTimer$Planner" "closes" "[I", .fieldLink RX4 28 "OneTimer$Planner" "last" "I", .methodLink RX4 40 Lib.Math.max.name, .static Lib.Math.max.name, .initialized "java/lang/Math", .code Lib.Math.max.name Lib.Math.max.code 2 (some .int), .methodLink RX4 46 Lib.Math.min.name, .static Lib.Math.min.name, .code Lib.Math.min.name Lib.Math.min.code 2 (some .int)] ++ wsX40)
def wsX4_allPots : List Cond := .code yX4_allPots cX4_allPots 1 (some .int) :: ([.fieldLink RX4 24 "OneTimer$Planner" "size" "I"] ++ wsX40)
def wsX4_goodAt : List Cond := .code yX4_goodAt cX4_goodAt 4 (some .int) :: ([.fieldLink RX4 24 "OneTimer$Planner" "size" "I", .fieldLink RX4 18 "OneTimer$Planner" "opens" "[I", .fieldLink RX4 21 "OneTimer$Planner" "closes" "[I"] ++ wsX40)
def wsX4_byWinding : List Cond := .code yX4_byWinding cX4_byWinding 5 (some .int) :: ([.fieldLink RX4 31 "OneTimer$Planner" "spring" "I", .fieldLink RX4 28 "OneTimer$Planner" "last" "I", .fieldLink RX4 11 "OneTimer$Planner" "fewest" "[I", .methodLink RX4 46 Lib.Math.min.name, .static Lib.Math.min.name, .initialized "java/lang/Math", .code Lib.Math.min.name Lib.Math.min.code 2 (some .int)] ++ wsX40)
def wsJ6_bitCount_0f7a4 : List Cond := .code yJ6_bitCount_0f7a4 cJ6_bitCount_0f7a4 1 (some .int) :: ([.constant RJ6 265 (1431655765), .constant RJ6 266 (858993459), .constant RJ6 267 (252645135)])
def wsX4_canTake : List Cond := .code yX4_canTake cX4_canTake 3 (some .boolean) :: ([.methodLink RX4 72 yJ6_bitCount_0f7a4, .static yJ6_bitCount_0f7a4, .initialized RJ6, .code yJ6_bitCount_0f7a4 cJ6_bitCount_0f7a4 1 (some .int), .constant RJ6 265 (1431655765), .constant RJ6 266 (858993459), .constant RJ6 267 (252645135)])
def wsX4_byTaking : List Cond := .code yX4_byTaking cX4_byTaking 6 (some .int) :: ([.fieldLink RX4 15 "OneTimer$Planner" "afterTaking" "[I", .methodLink RX4 46 Lib.Math.min.name, .static Lib.Math.min.name, .initialized "java/lang/Math", .code Lib.Math.min.name Lib.Math.min.code 2 (some .int), .methodLink RX4 68 yX4_canTake, .static yX4_canTake, .initialized RX4, .code yX4_canTake cX4_canTake 3 (some .boolean), .methodLink RX4 72 yJ6_bitCount_0f7a4, .static yJ6_bitCount_0f7a4, .initialized RJ6, .code yJ6_bitCount_0f7a4 cJ6_bitCount_0f7a4 1 (some .int), .constant RJ6 265 (1431655765), .constant RJ6 266 (858993459), .constant RJ6 267 (252645135)] ++ wsX40)
def wsX4_fillMinute_r1 : List Cond := [Cond.fieldLink RX4 15 "OneTimer$Planner" "afterTaking" "[I", Cond.fieldLink RX4 11 "OneTimer$Planner" "fewest" "[I", Cond.fieldLink RX4 37 "OneTimer$Planner" "freeNow" "I", Cond.fieldLink RX4 34 "OneTimer$Planner" "hands" "I", Cond.methodLink RX4 53 yX4_allPots, Cond.instanceMethod yX4_allPots, Cond.selects RX4 yX4_allPots yX4_allPots, Cond.initialized RX4, Cond.code yX4_allPots cX4_allPots 1 (some .int), Cond.fieldLink RX4 24 "OneTimer$Planner" "size" "I", Cond.methodLink RX4 57 yX4_goodAt, Cond.instanceMethod yX4_goodAt, Cond.selects RX4 yX4_goodAt yX4_goodAt, Cond.code yX4_goodAt cX4_goodAt 4 (some .int), Cond.fieldLink RX4 18 "OneTimer$Planner" "opens" "[I", Cond.fieldLink RX4 21 "OneTimer$Planner" "closes" "[I", Cond.methodLink RX4 61 yX4_byWinding, Cond.instanceMethod yX4_byWinding, Cond.selects RX4 yX4_byWinding yX4_byWinding, Cond.code yX4_byWinding cX4_byWinding 5 (some .int), Cond.fieldLink RX4 31 "OneTimer$Planner" "spring" "I", Cond.fieldLink RX4 28 "OneTimer$Planner" "last" "I", Cond.methodLink RX4 46 Lib.Math.min.name, Cond.static Lib.Math.min.name]
def wsX4_fillMinute_r2 : List Cond := [Cond.initialized "java/lang/Math", Cond.code Lib.Math.min.name Lib.Math.min.code 2 (some .int), Cond.methodLink RX4 64 yX4_byTaking, Cond.instanceMethod yX4_byTaking, Cond.selects RX4 yX4_byTaking yX4_byTaking, Cond.code yX4_byTaking cX4_byTaking 6 (some .int), Cond.methodLink RX4 68 yX4_canTake, Cond.static yX4_canTake, Cond.code yX4_canTake cX4_canTake 3 (some .boolean), Cond.methodLink RX4 72 yJ6_bitCount_0f7a4, Cond.static yJ6_bitCount_0f7a4, Cond.initialized RJ6, Cond.code yJ6_bitCount_0f7a4 cJ6_bitCount_0f7a4 1 (some .int), Cond.constant RJ6 265 (1431655765), Cond.constant RJ6 266 (858993459), Cond.constant RJ6 267 (252645135)]
def wsX4_fillMinute : List Cond := .code yX4_fillMinute cX4_fillMinute 5 none :: ((wsX4_fillMinute_r1 ++ wsX4_fillMinute_r2) ++ wsX40)
def wsX4_fill_r1 : List Cond := [Cond.fieldLink RX4 28 "OneTimer$Planner" "last" "I", Cond.methodLink RX4 49 yX4_fillMinute, Cond.instanceMethod yX4_fillMinute, Cond.selects RX4 yX4_fillMinute yX4_fillMinute, Cond.initialized RX4, Cond.code yX4_fillMinute cX4_fillMinute 5 none, Cond.fieldLink RX4 15 "OneTimer$Planner" "afterTaking" "[I", Cond.fieldLink RX4 11 "OneTimer$Planner" "fewest" "[I", Cond.fieldLink RX4 37 "OneTimer$Planner" "freeNow" "I", Cond.fieldLink RX4 34 "OneTimer$Planner" "hands" "I", Cond.methodLink RX4 53 yX4_allPots, Cond.instanceMethod yX4_allPots, Cond.selects RX4 yX4_allPots yX4_allPots, Cond.code yX4_allPots cX4_allPots 1 (some .int), Cond.fieldLink RX4 24 "OneTimer$Planner" "size" "I", Cond.methodLink RX4 57 yX4_goodAt, Cond.instanceMethod yX4_goodAt, Cond.selects RX4 yX4_goodAt yX4_goodAt, Cond.code yX4_goodAt cX4_goodAt 4 (some .int), Cond.fieldLink RX4 18 "OneTimer$Planner" "opens" "[I", Cond.fieldLink RX4 21 "OneTimer$Planner" "closes" "[I", Cond.methodLink RX4 61 yX4_byWinding, Cond.instanceMethod yX4_byWinding, Cond.selects RX4 yX4_byWinding yX4_byWinding]
def wsX4_fill_r2 : List Cond := [Cond.code yX4_byWinding cX4_byWinding 5 (some .int), Cond.fieldLink RX4 31 "OneTimer$Planner" "spring" "I", Cond.methodLink RX4 46 Lib.Math.min.name, Cond.static Lib.Math.min.name, Cond.initialized "java/lang/Math", Cond.code Lib.Math.min.name Lib.Math.min.code 2 (some .int), Cond.methodLink RX4 64 yX4_byTaking, Cond.instanceMethod yX4_byTaking, Cond.selects RX4 yX4_byTaking yX4_byTaking, Cond.code yX4_byTaking cX4_byTaking 6 (some .int), Cond.methodLink RX4 68 yX4_canTake, Cond.static yX4_canTake, Cond.code yX4_canTake cX4_canTake 3 (some .boolean), Cond.methodLink RX4 72 yJ6_bitCount_0f7a4, Cond.static yJ6_bitCount_0f7a4, Cond.initialized RJ6, Cond.code yJ6_bitCount_0f7a4 cJ6_bitCount_0f7a4 1 (some .int), Cond.constant RJ6 265 (1431655765), Cond.constant RJ6 266 (858993459), Cond.constant RJ6 267 (252645135)]
def wsX4_fill : List Cond := .code yX4_fill cX4_fill 2 none :: ((wsX4_fill_r1 ++ wsX4_fill_r2) ++ wsX40)
def wsX4_howFew : List Cond := .code yX4_howFew cX4_howFew 2 (some .int) :: ([.fieldLink RX4 11 "OneTimer$Planner" "fewest" "[I", .methodLink RX4 53 yX4_allPots, .instanceMethod yX4_allPots, .selects RX4 yX4_allPots yX4_allPots, .initialized RX4, .code yX4_allPots cX4_allPots 1 (some .int), .fieldLink RX4 24 "OneTimer$Planner" "size" "I"] ++ wsX40)
def wsX4_leadsOn : List Cond := .code yX4_leadsOn cX4_leadsOn 5 (some .boolean) :: ([.fieldLink RX4 37 "OneTimer$Planner" "freeNow" "I", .fieldLink RX4 11 "OneTimer$Planner" "fewest" "[I", .methodLink RX4 57 yX4_goodAt, .instanceMethod yX4_goodAt, .selects RX4 yX4_goodAt yX4_goodAt, .initialized RX4, .code yX4_goodAt cX4_goodAt 4 (some .int), .fieldLink RX4 24 "OneTimer$Planner" "size" "I", .fieldLink RX4 18 "OneTimer$Planner" "opens" "[I", .fieldLink RX4 21 "OneTimer$Planner" "closes" "[I", .methodLink RX4 68 yX4_canTake, .static yX4_canTake, .code yX4_canTake cX4_canTake 3 (some .boolean), .methodLink RX4 72 yJ6_bitCount_0f7a4, .static yJ6_bitCount_0f7a4, .initialized RJ6, .code yJ6_bitCount_0f7a4 cJ6_bitCount_0f7a4 1 (some .int), .constant RJ6 265 (1431655765), .constant RJ6 266 (858993459), .constant RJ6 267 (252645135), .methodLink RX4 53 yX4_allPots, .instanceMethod yX4_allPots, .selects RX4 yX4_allPots yX4_allPots, .code yX4_allPots cX4_allPots 1 (some .int)] ++ wsX40)
def wsX4_first_r1 : List Cond := [Cond.fieldLink RX4 31 "OneTimer$Planner" "spring" "I", Cond.fieldLink RX4 28 "OneTimer$Planner" "last" "I", Cond.methodLink RX4 77 yX4_howFew, Cond.instanceMethod yX4_howFew, Cond.selects RX4 yX4_howFew yX4_howFew, Cond.initialized RX4, Cond.code yX4_howFew cX4_howFew 2 (some .int), Cond.fieldLink RX4 11 "OneTimer$Planner" "fewest" "[I", Cond.methodLink RX4 53 yX4_allPots, Cond.instanceMethod yX4_allPots, Cond.selects RX4 yX4_allPots yX4_allPots, Cond.code yX4_allPots cX4_allPots 1 (some .int), Cond.fieldLink RX4 24 "OneTimer$Planner" "size" "I", Cond.methodLink RX4 80 yX4_leadsOn, Cond.instanceMethod yX4_leadsOn, Cond.selects RX4 yX4_leadsOn yX4_leadsOn, Cond.code yX4_leadsOn cX4_leadsOn 5 (some .boolean), Cond.fieldLink RX4 37 "OneTimer$Planner" "freeNow" "I", Cond.methodLink RX4 57 yX4_goodAt, Cond.instanceMethod yX4_goodAt, Cond.selects RX4 yX4_goodAt yX4_goodAt, Cond.code yX4_goodAt cX4_goodAt 4 (some .int), Cond.fieldLink RX4 18 "OneTimer$Planner" "opens" "[I", Cond.fieldLink RX4 21 "OneTimer$Planner" "closes" "[I"]
def wsX4_first_r2 : List Cond := [Cond.methodLink RX4 68 yX4_canTake, Cond.static yX4_canTake, Cond.code yX4_canTake cX4_canTake 3 (some .boolean), Cond.methodLink RX4 72 yJ6_bitCount_0f7a4, Cond.static yJ6_bitCount_0f7a4, Cond.initialized RJ6, Cond.code yJ6_bitCount_0f7a4 cJ6_bitCount_0f7a4 1 (some .int), Cond.constant RJ6 265 (1431655765), Cond.constant RJ6 266 (858993459), Cond.constant RJ6 267 (252645135)]
def wsX4_first : List Cond := .code yX4_first cX4_first 3 (some .int) :: ((wsX4_first_r1 ++ wsX4_first_r2) ++ wsX40)
def wsX5_kind : List Cond := .code yX5_kind cX5_kind 1 (some .int) :: ([])
def wsX5_keeps : List Cond := .code yX5_keeps cX5_keeps 1 (some .int) :: ([])
def wsX5_boils : List Cond := .code yX5_boils cX5_boils 1 (some .boolean) :: ([.fieldLink RX5 9 "OneTimer$Pot" "since" "I"] ++ wsX00 ++ wsX20 ++ wsX50 ++ wsX60 ++ wsX70)
def wsX5_due : List Cond := .code yX5_due cX5_due 1 (some .int) :: ([.fieldLink RX5 9 "OneTimer$Pot" "since" "I", .fieldLink RX5 24 "OneTimer$Pot" "wants" "I"] ++ wsX00 ++ wsX20 ++ wsX50 ++ wsX60 ++ wsX70)
def wsX7_keeps : List Cond := .code yX7_keeps cX7_keeps 1 (some .int) :: ([])
def wsX9_outBy : List Cond := .code yX9_outBy cX9_outBy 2 (some .int) :: ([])
def wsX5_outAt_r1 : List Cond := [Cond.methodLink RX5 27 ⟨"OneTimer$Pot", "due", "()I"⟩, Cond.sameMethod "OneTimer$Pot" "OneTimer$Pot" "due" "()I", Cond.selects RX0 ⟨"OneTimer$Pot", "due", "()I"⟩ yX5_due, Cond.instanceMethod yX5_due, Cond.initialized RX5, Cond.code yX5_due cX5_due 1 (some .int), Cond.fieldLink RX5 9 "OneTimer$Pot" "since" "I", Cond.fieldLink RX5 24 "OneTimer$Pot" "wants" "I", Cond.selects RX2 ⟨"OneTimer$Pot", "due", "()I"⟩ yX5_due, Cond.methodLink RX5 27 yX5_due, Cond.selects RX5 yX5_due yX5_due, Cond.selects RX6 ⟨"OneTimer$Pot", "due", "()I"⟩ yX5_due, Cond.selects RX7 ⟨"OneTimer$Pot", "due", "()I"⟩ yX5_due, Cond.methodLink RX5 31 ⟨"OneTimer$Pot", "keeps", "()I"⟩, Cond.sameMethod "OneTimer$Pot" "OneTimer$Pot" "keeps" "()I", Cond.instanceMethod ⟨"OneTimer$Pot", "keeps", "()I"⟩, Cond.selects RX0 ⟨"OneTimer$Pot", "keeps", "()I"⟩ yX0_keeps, Cond.instanceMethod yX0_keeps, Cond.initialized RX0, Cond.code yX0_keeps cX0_keeps 1 (some .int), Cond.methodLink RX0 7 yX6_keeps, Cond.sameMethod "OneTimer$Rice" "OneTimer$Rice" "keeps" "()I", Cond.superclass RX0 RX6, Cond.instanceMethod yX6_keeps]
def wsX5_outAt_r2 : List Cond := [Cond.initialized RX6, Cond.code yX6_keeps cX6_keeps 1 (some .int), Cond.code yX5_keeps cX5_keeps 1 (some .int), Cond.selects RX2 ⟨"OneTimer$Pot", "keeps", "()I"⟩ yX2_keeps, Cond.instanceMethod yX2_keeps, Cond.initialized RX2, Cond.code yX2_keeps cX2_keeps 1 (some .int), Cond.methodLink RX5 31 yX5_keeps, Cond.instanceMethod yX5_keeps, Cond.selects RX5 yX5_keeps yX5_keeps, Cond.selects RX6 ⟨"OneTimer$Pot", "keeps", "()I"⟩ yX6_keeps, Cond.selects RX7 ⟨"OneTimer$Pot", "keeps", "()I"⟩ yX7_keeps, Cond.instanceMethod yX7_keeps, Cond.initialized RX7, Cond.code yX7_keeps cX7_keeps 1 (some .int), Cond.static yX9_outBy, Cond.initialized RX9, Cond.code yX9_outBy cX9_outBy 2 (some .int)]
def wsX5_outAt : List Cond := .code yX5_outAt cX5_outAt 2 (some .int) :: ((wsX5_outAt_r1 ++ wsX5_outAt_r2) ++ wsX00 ++ wsX20 ++ wsX50 ++ wsX60 ++ wsX70)
def wsX5_comeOut_r1 : List Cond := [Cond.fieldLink RX5 15 "OneTimer$Pot" "lastOut" "I", Cond.fieldLink RX5 42 "OneTimer$Pot" "timesTaken" "I", Cond.fieldLink RX5 9 "OneTimer$Pot" "since" "I", Cond.methodLink RX5 38 ⟨"OneTimer$Pot", "outAt", "(I)I"⟩, Cond.sameMethod "OneTimer$Pot" "OneTimer$Pot" "outAt" "(I)I", Cond.selects RX0 ⟨"OneTimer$Pot", "outAt", "(I)I"⟩ yX5_outAt, Cond.instanceMethod yX5_outAt, Cond.initialized RX5, Cond.code yX5_outAt cX5_outAt 2 (some .int), Cond.methodLink RX5 27 ⟨"OneTimer$Pot", "due", "()I"⟩, Cond.sameMethod "OneTimer$Pot" "OneTimer$Pot" "due" "()I", Cond.selects RX0 ⟨"OneTimer$Pot", "due", "()I"⟩ yX5_due, Cond.instanceMethod yX5_due, Cond.code yX5_due cX5_due 1 (some .int), Cond.fieldLink RX5 24 "OneTimer$Pot" "wants" "I", Cond.selects RX2 ⟨"OneTimer$Pot", "due", "()I"⟩ yX5_due, Cond.methodLink RX5 27 yX5_due, Cond.selects RX5 yX5_due yX5_due, Cond.selects RX6 ⟨"OneTimer$Pot", "due", "()I"⟩ yX5_due, Cond.selects RX7 ⟨"OneTimer$Pot", "due", "()I"⟩ yX5_due, Cond.methodLink RX5 31 ⟨"OneTimer$Pot", "keeps", "()I"⟩, Cond.sameMethod "OneTimer$Pot" "OneTimer$Pot" "keeps" "()I", Cond.instanceMethod ⟨"OneTimer$Pot", "keeps", "()I"⟩, Cond.selects RX0 ⟨"OneTimer$Pot", "keeps", "()I"⟩ yX0_keeps]
def wsX5_comeOut_r2 : List Cond := [Cond.instanceMethod yX0_keeps, Cond.initialized RX0, Cond.code yX0_keeps cX0_keeps 1 (some .int), Cond.methodLink RX0 7 yX6_keeps, Cond.sameMethod "OneTimer$Rice" "OneTimer$Rice" "keeps" "()I", Cond.superclass RX0 RX6, Cond.instanceMethod yX6_keeps, Cond.initialized RX6, Cond.code yX6_keeps cX6_keeps 1 (some .int), Cond.code yX5_keeps cX5_keeps 1 (some .int), Cond.selects RX2 ⟨"OneTimer$Pot", "keeps", "()I"⟩ yX2_keeps, Cond.instanceMethod yX2_keeps, Cond.initialized RX2, Cond.code yX2_keeps cX2_keeps 1 (some .int), Cond.methodLink RX5 31 yX5_keeps, Cond.instanceMethod yX5_keeps, Cond.selects RX5 yX5_keeps yX5_keeps, Cond.selects RX6 ⟨"OneTimer$Pot", "keeps", "()I"⟩ yX6_keeps, Cond.selects RX7 ⟨"OneTimer$Pot", "keeps", "()I"⟩ yX7_keeps, Cond.instanceMethod yX7_keeps, Cond.initialized RX7, Cond.code yX7_keeps cX7_keeps 1 (some .int), Cond.static yX9_outBy, Cond.initialized RX9]
def wsX5_comeOut_r3 : List Cond := [Cond.code yX9_outBy cX9_outBy 2 (some .int), Cond.selects RX2 ⟨"OneTimer$Pot", "outAt", "(I)I"⟩ yX5_outAt, Cond.methodLink RX5 38 yX5_outAt, Cond.selects RX5 yX5_outAt yX5_outAt, Cond.selects RX6 ⟨"OneTimer$Pot", "outAt", "(I)I"⟩ yX5_outAt, Cond.selects RX7 ⟨"OneTimer$Pot", "outAt", "(I)I"⟩ yX5_outAt]
def wsX5_comeOut : List Cond := .code yX5_comeOut cX5_comeOut 2 none :: ((wsX5_comeOut_r1 ++ (wsX5_comeOut_r2 ++ wsX5_comeOut_r3)) ++ wsX00 ++ wsX20 ++ wsX50 ++ wsX60 ++ wsX70)
def wsX5_sureAt_r1 : List Cond := [Cond.methodLink RX5 38 ⟨"OneTimer$Pot", "outAt", "(I)I"⟩, Cond.sameMethod "OneTimer$Pot" "OneTimer$Pot" "outAt" "(I)I", Cond.selects RX0 ⟨"OneTimer$Pot", "outAt", "(I)I"⟩ yX5_outAt, Cond.instanceMethod yX5_outAt, Cond.initialized RX5, Cond.code yX5_outAt cX5_outAt 2 (some .int), Cond.methodLink RX5 27 ⟨"OneTimer$Pot", "due", "()I"⟩, Cond.sameMethod "OneTimer$Pot" "OneTimer$Pot" "due" "()I", Cond.selects RX0 ⟨"OneTimer$Pot", "due", "()I"⟩ yX5_due, Cond.instanceMethod yX5_due, Cond.code yX5_due cX5_due 1 (some .int), Cond.fieldLink RX5 9 "OneTimer$Pot" "since" "I", Cond.fieldLink RX5 24 "OneTimer$Pot" "wants" "I", Cond.selects RX2 ⟨"OneTimer$Pot", "due", "()I"⟩ yX5_due, Cond.methodLink RX5 27 yX5_due, Cond.selects RX5 yX5_due yX5_due, Cond.selects RX6 ⟨"OneTimer$Pot", "due", "()I"⟩ yX5_due, Cond.selects RX7 ⟨"OneTimer$Pot", "due", "()I"⟩ yX5_due, Cond.methodLink RX5 31 ⟨"OneTimer$Pot", "keeps", "()I"⟩, Cond.sameMethod "OneTimer$Pot" "OneTimer$Pot" "keeps" "()I", Cond.instanceMethod ⟨"OneTimer$Pot", "keeps", "()I"⟩, Cond.selects RX0 ⟨"OneTimer$Pot", "keeps", "()I"⟩ yX0_keeps, Cond.instanceMethod yX0_keeps, Cond.initialized RX0]
def wsX5_sureAt_r2 : List Cond := [Cond.code yX0_keeps cX0_keeps 1 (some .int), Cond.methodLink RX0 7 yX6_keeps, Cond.sameMethod "OneTimer$Rice" "OneTimer$Rice" "keeps" "()I", Cond.superclass RX0 RX6, Cond.instanceMethod yX6_keeps, Cond.initialized RX6, Cond.code yX6_keeps cX6_keeps 1 (some .int), Cond.code yX5_keeps cX5_keeps 1 (some .int), Cond.selects RX2 ⟨"OneTimer$Pot", "keeps", "()I"⟩ yX2_keeps, Cond.instanceMethod yX2_keeps, Cond.initialized RX2, Cond.code yX2_keeps cX2_keeps 1 (some .int), Cond.methodLink RX5 31 yX5_keeps, Cond.instanceMethod yX5_keeps, Cond.selects RX5 yX5_keeps yX5_keeps, Cond.selects RX6 ⟨"OneTimer$Pot", "keeps", "()I"⟩ yX6_keeps, Cond.selects RX7 ⟨"OneTimer$Pot", "keeps", "()I"⟩ yX7_keeps, Cond.instanceMethod yX7_keeps, Cond.initialized RX7, Cond.code yX7_keeps cX7_keeps 1 (some .int), Cond.static yX9_outBy, Cond.initialized RX9, Cond.code yX9_outBy cX9_outBy 2 (some .int), Cond.selects RX2 ⟨"OneTimer$Pot", "outAt", "(I)I"⟩ yX5_outAt]
def wsX5_sureAt_r3 : List Cond := [Cond.methodLink RX5 38 yX5_outAt, Cond.selects RX5 yX5_outAt yX5_outAt, Cond.selects RX6 ⟨"OneTimer$Pot", "outAt", "(I)I"⟩ yX5_outAt, Cond.selects RX7 ⟨"OneTimer$Pot", "outAt", "(I)I"⟩ yX5_outAt]
def wsX5_sureAt : List Cond := .code yX5_sureAt cX5_sureAt 3 (some .int) :: ((wsX5_sureAt_r1 ++ (wsX5_sureAt_r2 ++ wsX5_sureAt_r3)) ++ wsX00 ++ wsX20 ++ wsX50 ++ wsX60 ++ wsX70)
def wsX5_keepImage : List Cond := .code yX5_keepImage cX5_keepImage 1 none :: ([.fieldLink RX5 9 "OneTimer$Pot" "since" "I", .fieldLink RX5 18 "OneTimer$Pot" "keptSince" "I", .fieldLink RX5 42 "OneTimer$Pot" "timesTaken" "I", .fieldLink RX5 45 "OneTimer$Pot" "keptTimesTaken" "I", .fieldLink RX5 15 "OneTimer$Pot" "lastOut" "I", .fieldLink RX5 21 "OneTimer$Pot" "keptLastOut" "I"] ++ wsX00 ++ wsX20 ++ wsX50 ++ wsX60 ++ wsX70)
def wsX5_goBack : List Cond := .code yX5_goBack cX5_goBack 1 none :: ([.fieldLink RX5 18 "OneTimer$Pot" "keptSince" "I", .fieldLink RX5 9 "OneTimer$Pot" "since" "I", .fieldLink RX5 45 "OneTimer$Pot" "keptTimesTaken" "I", .fieldLink RX5 42 "OneTimer$Pot" "timesTaken" "I", .fieldLink RX5 21 "OneTimer$Pot" "keptLastOut" "I", .fieldLink RX5 15 "OneTimer$Pot" "lastOut" "I"] ++ wsX00 ++ wsX20 ++ wsX50 ++ wsX60 ++ wsX70)
def wsX6_kind : List Cond := .code yX6_kind cX6_kind 1 (some .int) :: ([])
def wsX7_init : List Cond := .code yX7_init cX7_init 2 none :: ([.methodLink RX7 1 yX5_init, .instanceMethod yX5_init, .initialized RX5, .code yX5_init cX5_init 2 none, .methodLink RX5 3 objectInit, .instanceMethod objectInit, .code objectInit ⟨#[0xb1]⟩ 1 none, .fieldLink RX5 9 "OneTimer$Pot" "since" "I", .fieldLink RX5 15 "OneTimer$Pot" "lastOut" "I", .fieldLink RX5 18 "OneTimer$Pot" "keptSince" "I", .fieldLink RX5 21 "OneTimer$Pot" "keptLastOut" "I", .fieldLink RX5 24 "OneTimer$Pot" "wants" "I"] ++ wsX00 ++ wsX20 ++ wsX50 ++ wsX60 ++ wsX70)
def wsX7_kind : List Cond := .code yX7_kind cX7_kind 1 (some .int) :: ([])
def wsX8_init : List Cond := .code yX8_init cX8_init 1 none :: ([.methodLink RX8 1 objectInit, .instanceMethod objectInit, .code objectInit ⟨#[0xb1]⟩ 1 none, .arrayClass .int, .fieldLink RX8 9 "OneTimer$Told" "untilDue" "[I", .fieldLink RX8 13 "OneTimer$Told" "keeps" "[I", .fieldLink RX8 16 "OneTimer$Told" "outs" "[I"] ++ wsX80)
def wsX8_add : List Cond := .code yX8_add cX8_add 4 (some .boolean) :: ([.fieldLink RX8 19 "OneTimer$Told" "size" "I", .fieldLink RX8 9 "OneTimer$Told" "untilDue" "[I", .fieldLink RX8 13 "OneTimer$Told" "keeps" "[I", .fieldLink RX8 16 "OneTimer$Told" "outs" "[I"] ++ wsX80)
def wsX8_fits : List Cond := .code yX8_fits cX8_fits 3 (some .boolean) :: ([.fieldLink RX8 19 "OneTimer$Told" "size" "I", .fieldLink RX8 9 "OneTimer$Told" "untilDue" "[I", .fieldLink RX8 13 "OneTimer$Told" "keeps" "[I", .fieldLink RX8 16 "OneTimer$Told" "outs" "[I", .static yX9_outBy, .initialized RX9, .code yX9_outBy cX9_outBy 2 (some .int)] ++ wsX80)
def wsX8_copyFrom : List Cond := .code yX8_copyFrom cX8_copyFrom 3 none :: ([.fieldLink RX8 9 "OneTimer$Told" "untilDue" "[I", .fieldLink RX8 13 "OneTimer$Told" "keeps" "[I", .fieldLink RX8 16 "OneTimer$Told" "outs" "[I", .fieldLink RX8 19 "OneTimer$Told" "size" "I"] ++ wsX80)
def wsX9_init_r1 : List Cond := [Cond.methodLink RX9 1 objectInit, Cond.instanceMethod objectInit, Cond.code objectInit ⟨#[0xb1]⟩ 1 none, Cond.classLink RX9 7 RX3, Cond.instantiable RX3 2, Cond.initialized RX3, Cond.fieldLink RX9 10 "OneTimer" "page" "LOneTimer$Page;", Cond.classLink RX9 16 RX5, Cond.fieldLink RX9 18 "OneTimer" "pots" "[LOneTimer$Pot;", Cond.classLink RX9 22 RX8, Cond.instantiable RX8 4, Cond.initialized RX8, Cond.fieldLink RX9 25 "OneTimer" "told" "LOneTimer$Told;", Cond.fieldLink RX9 29 "OneTimer" "keptTold" "LOneTimer$Told;", Cond.classLink RX9 32 RX4, Cond.instantiable RX4 9, Cond.initialized RX4, Cond.fieldLink RX9 35 "OneTimer" "planner" "LOneTimer$Planner;", Cond.classLink RX9 39 RX1, Cond.instantiable RX1 1, Cond.initialized RX1, Cond.fieldLink RX9 42 "OneTimer" "draws" "LOneTimer$Draws;", Cond.instanceMethod yX3_init, Cond.code yX3_init cX3_init 1 none]
def wsX9_init_r2 : List Cond := [Cond.methodLink RX3 3 objectInit, Cond.arrayClass .int, Cond.fieldLink RX3 11 "OneTimer$Page" "letters" "[I", Cond.instanceMethod yX8_init, Cond.code yX8_init cX8_init 1 none, Cond.methodLink RX8 1 objectInit, Cond.fieldLink RX8 9 "OneTimer$Told" "untilDue" "[I", Cond.fieldLink RX8 13 "OneTimer$Told" "keeps" "[I", Cond.fieldLink RX8 16 "OneTimer$Told" "outs" "[I", Cond.instanceMethod yX4_init, Cond.code yX4_init cX4_init 1 none, Cond.methodLink RX4 3 objectInit, Cond.fieldLink RX4 11 "OneTimer$Planner" "fewest" "[I", Cond.fieldLink RX4 15 "OneTimer$Planner" "afterTaking" "[I", Cond.fieldLink RX4 18 "OneTimer$Planner" "opens" "[I", Cond.fieldLink RX4 21 "OneTimer$Planner" "closes" "[I", Cond.instanceMethod yX1_init, Cond.code yX1_init cX1_init 1 none, Cond.methodLink RX1 1 objectInit]
def wsX9_init : List Cond := .code yX9_init cX9_init 1 none :: ((wsX9_init_r1 ++ wsX9_init_r2) ++ wsX30 ++ wsX90 ++ wsX80 ++ wsX40 ++ wsX10)
def wsX9_letter : List Cond := .code yX9_letter cX9_letter 2 (some .int) :: ([.fieldLink RX9 10 "OneTimer" "page" "LOneTimer$Page;", .fieldLink RX9 50 "OneTimer$Page" "size" "I", .methodLink RX9 46 yX3_write, .instanceMethod yX3_write, .selects RX3 yX3_write yX3_write, .initialized RX3, .code yX3_write cX3_write 2 (some .boolean), .fieldLink RX3 15 "OneTimer$Page" "size" "I", .fieldLink RX3 11 "OneTimer$Page" "letters" "[I"] ++ wsX90 ++ wsX30)
def wsX9_blank : List Cond := .code yX9_blank cX9_blank 2 (some .int) :: ([.fieldLink RX9 10 "OneTimer" "page" "LOneTimer$Page;", .fieldLink RX9 50 "OneTimer$Page" "size" "I"] ++ wsX90 ++ wsX30)
def wsX9_fault_r1 : List Cond := [Cond.fieldLink RX9 10 "OneTimer" "page" "LOneTimer$Page;", Cond.methodLink RX9 54 yX3_faultPlace, Cond.instanceMethod yX3_faultPlace, Cond.selects RX3 yX3_faultPlace yX3_faultPlace, Cond.initialized RX3, Cond.code yX3_faultPlace cX3_faultPlace 4 (some .int), Cond.fieldLink RX3 15 "OneTimer$Page" "size" "I", Cond.methodLink RX3 19 yX3_fitsPots, Cond.instanceMethod yX3_fitsPots, Cond.selects RX3 yX3_fitsPots yX3_fitsPots, Cond.code yX3_fitsPots cX3_fitsPots 3 (some .boolean), Cond.methodLink RX3 27 yX3_codeAt, Cond.instanceMethod yX3_codeAt, Cond.selects RX3 yX3_codeAt yX3_codeAt, Cond.code yX3_codeAt cX3_codeAt 2 (some .int), Cond.fieldLink RX3 11 "OneTimer$Page" "letters" "[I", Cond.methodLink RX3 31 yX3_kindOf, Cond.static yX3_kindOf, Cond.code yX3_kindOf cX3_kindOf 1 (some .int), Cond.methodLink RX3 34 yX3_fitsSecondDigit, Cond.static yX3_fitsSecondDigit, Cond.code yX3_fitsSecondDigit cX3_fitsSecondDigit 3 (some .boolean), Cond.methodLink RX3 23 yX3_fitsEnd, Cond.instanceMethod yX3_fitsEnd]
def wsX9_fault_r2 : List Cond := [Cond.selects RX3 yX3_fitsEnd yX3_fitsEnd, Cond.code yX3_fitsEnd cX3_fitsEnd 4 (some .boolean)]
def wsX9_fault : List Cond := .code yX9_fault cX9_fault 1 (some .int) :: ((wsX9_fault_r1 ++ wsX9_fault_r2) ++ wsX90 ++ wsX30)
def wsX9_newPot_r1 : List Cond := [Cond.classLink RX9 120 RX2, Cond.instantiable RX2 7, Cond.initialized RX2, Cond.classLink RX9 125 RX6, Cond.instantiable RX6 7, Cond.initialized RX6, Cond.classLink RX9 128 RX7, Cond.instantiable RX7 7, Cond.initialized RX7, Cond.classLink RX9 131 RX0, Cond.instantiable RX0 7, Cond.initialized RX0, Cond.classLink RX9 16 RX5, Cond.instantiable RX5 7, Cond.initialized RX5, Cond.methodLink RX9 122 yX2_init, Cond.instanceMethod yX2_init, Cond.code yX2_init cX2_init 2 none, Cond.methodLink RX2 1 yX5_init, Cond.instanceMethod yX5_init, Cond.code yX5_init cX5_init 2 none, Cond.methodLink RX5 3 objectInit, Cond.instanceMethod objectInit, Cond.code objectInit ⟨#[0xb1]⟩ 1 none]
def wsX9_newPot_r2 : List Cond := [Cond.fieldLink RX5 9 "OneTimer$Pot" "since" "I", Cond.fieldLink RX5 15 "OneTimer$Pot" "lastOut" "I", Cond.fieldLink RX5 18 "OneTimer$Pot" "keptSince" "I", Cond.fieldLink RX5 21 "OneTimer$Pot" "keptLastOut" "I", Cond.fieldLink RX5 24 "OneTimer$Pot" "wants" "I", Cond.methodLink RX9 127 yX6_init, Cond.instanceMethod yX6_init, Cond.code yX6_init cX6_init 2 none, Cond.methodLink RX6 1 yX5_init, Cond.methodLink RX9 130 yX7_init, Cond.instanceMethod yX7_init, Cond.code yX7_init cX7_init 2 none, Cond.methodLink RX7 1 yX5_init, Cond.methodLink RX9 133 yX0_init, Cond.instanceMethod yX0_init, Cond.code yX0_init cX0_init 2 none, Cond.methodLink RX0 1 yX6_init, Cond.methodLink RX9 134 yX5_init]
def wsX9_newPot : List Cond := .code yX9_newPot cX9_newPot 2 (some (.object "OneTimer$Pot")) :: ((wsX9_newPot_r1 ++ wsX9_newPot_r2) ++ wsX20 ++ wsX60 ++ wsX70 ++ wsX00 ++ wsX50)
def wsX9_readPots_r1 : List Cond := [Cond.fieldLink RX9 10 "OneTimer" "page" "LOneTimer$Page;", Cond.methodLink RX9 89 Lib.Math.min.name, Cond.static Lib.Math.min.name, Cond.initialized "java/lang/Math", Cond.code Lib.Math.min.name Lib.Math.min.code 2 (some .int), Cond.fieldLink RX9 83 "OneTimer" "potCount" "I", Cond.fieldLink RX9 18 "OneTimer" "pots" "[LOneTimer$Pot;", Cond.methodLink RX9 86 yX3_potsTold, Cond.instanceMethod yX3_potsTold, Cond.selects RX3 yX3_potsTold yX3_potsTold, Cond.initialized RX3, Cond.code yX3_potsTold cX3_potsTold 1 (some .int), Cond.fieldLink RX3 15 "OneTimer$Page" "size" "I", Cond.methodLink RX9 95 yX3_kindTold, Cond.instanceMethod yX3_kindTold, Cond.selects RX3 yX3_kindTold yX3_kindTold, Cond.code yX3_kindTold cX3_kindTold 2 (some .int), Cond.methodLink RX3 27 yX3_codeAt, Cond.instanceMethod yX3_codeAt, Cond.selects RX3 yX3_codeAt yX3_codeAt, Cond.code yX3_codeAt cX3_codeAt 2 (some .int), Cond.fieldLink RX3 11 "OneTimer$Page" "letters" "[I", Cond.methodLink RX3 31 yX3_kindOf, Cond.static yX3_kindOf]
def wsX9_readPots_r2 : List Cond := [Cond.code yX3_kindOf cX3_kindOf 1 (some .int), Cond.methodLink RX9 99 yX3_wantsTold, Cond.instanceMethod yX3_wantsTold, Cond.selects RX3 yX3_wantsTold yX3_wantsTold, Cond.code yX3_wantsTold cX3_wantsTold 2 (some .int), Cond.methodLink RX3 42 yX3_twoDigits, Cond.instanceMethod yX3_twoDigits, Cond.selects RX3 yX3_twoDigits yX3_twoDigits, Cond.code yX3_twoDigits cX3_twoDigits 2 (some .int), Cond.methodLink RX9 102 yX9_newPot, Cond.static yX9_newPot, Cond.initialized RX9, Cond.code yX9_newPot cX9_newPot 2 (some (.object "OneTimer$Pot")), Cond.classLink RX9 120 RX2, Cond.instantiable RX2 7, Cond.initialized RX2, Cond.classLink RX9 125 RX6, Cond.instantiable RX6 7, Cond.initialized RX6, Cond.classLink RX9 128 RX7, Cond.instantiable RX7 7, Cond.initialized RX7, Cond.classLink RX9 131 RX0, Cond.instantiable RX0 7]
def wsX9_readPots_r3 : List Cond := [Cond.initialized RX0, Cond.classLink RX9 16 RX5, Cond.instantiable RX5 7, Cond.initialized RX5, Cond.methodLink RX9 122 yX2_init, Cond.instanceMethod yX2_init, Cond.code yX2_init cX2_init 2 none, Cond.methodLink RX2 1 yX5_init, Cond.instanceMethod yX5_init, Cond.code yX5_init cX5_init 2 none, Cond.methodLink RX5 3 objectInit, Cond.instanceMethod objectInit, Cond.code objectInit ⟨#[0xb1]⟩ 1 none, Cond.fieldLink RX5 9 "OneTimer$Pot" "since" "I", Cond.fieldLink RX5 15 "OneTimer$Pot" "lastOut" "I", Cond.fieldLink RX5 18 "OneTimer$Pot" "keptSince" "I", Cond.fieldLink RX5 21 "OneTimer$Pot" "keptLastOut" "I", Cond.fieldLink RX5 24 "OneTimer$Pot" "wants" "I", Cond.methodLink RX9 127 yX6_init, Cond.instanceMethod yX6_init, Cond.code yX6_init cX6_init 2 none, Cond.methodLink RX6 1 yX5_init, Cond.methodLink RX9 130 yX7_init, Cond.instanceMethod yX7_init]
def wsX9_readPots_r4 : List Cond := [Cond.code yX7_init cX7_init 2 none, Cond.methodLink RX7 1 yX5_init, Cond.methodLink RX9 133 yX0_init, Cond.instanceMethod yX0_init, Cond.code yX0_init cX0_init 2 none, Cond.methodLink RX0 1 yX6_init, Cond.methodLink RX9 134 yX5_init]
def wsX9_readPots : List Cond := .code yX9_readPots cX9_readPots 2 none :: ((wsX9_readPots_r1 ++ (wsX9_readPots_r2 ++ (wsX9_readPots_r3 ++ wsX9_readPots_r4))) ++ wsX90 ++ wsX30 ++ wsX20 ++ wsX60 ++ wsX70 ++ wsX00 ++ wsX50)
def wsX9_startEvening : List Cond := .code yX9_startEvening cX9_startEvening 1 none :: ([.fieldLink RX9 106 "OneTimer" "minute" "I", .fieldLink RX9 74 "OneTimer" "hands" "I", .fieldLink RX9 109 "OneTimer" "free" "I", .fieldLink RX9 112 "OneTimer" "windings" "I", .fieldLink RX9 25 "OneTimer" "told" "LOneTimer$Told;", .fieldLink RX9 115 "OneTimer$Told" "size" "I", .fieldLink RX9 116 "OneTimer" "hasImage" "Z"] ++ wsX90 ++ wsX80)
def wsX9_kitchen_r1 : List Cond := [Cond.fieldLink RX9 10 "OneTimer" "page" "LOneTimer$Page;", Cond.fieldLink RX9 68 "OneTimer" "spring" "I", Cond.fieldLink RX9 74 "OneTimer" "hands" "I", Cond.fieldLink RX9 50 "OneTimer$Page" "size" "I", Cond.fieldLink RX9 80 "OneTimer" "kitchensRead" "I", Cond.fieldLink RX9 83 "OneTimer" "potCount" "I", Cond.methodLink RX9 58 yX3_isKitchen, Cond.instanceMethod yX3_isKitchen, Cond.selects RX3 yX3_isKitchen yX3_isKitchen, Cond.initialized RX3, Cond.code yX3_isKitchen cX3_isKitchen 1 (some .boolean), Cond.fieldLink RX3 15 "OneTimer$Page" "size" "I", Cond.methodLink RX3 27 yX3_codeAt, Cond.instanceMethod yX3_codeAt, Cond.selects RX3 yX3_codeAt yX3_codeAt, Cond.code yX3_codeAt cX3_codeAt 2 (some .int), Cond.fieldLink RX3 11 "OneTimer$Page" "letters" "[I", Cond.methodLink RX3 38 yX3_faultPlace, Cond.instanceMethod yX3_faultPlace, Cond.selects RX3 yX3_faultPlace yX3_faultPlace, Cond.code yX3_faultPlace cX3_faultPlace 4 (some .int), Cond.methodLink RX3 19 yX3_fitsPots, Cond.instanceMethod yX3_fitsPots, Cond.selects RX3 yX3_fitsPots yX3_fitsPots]
def wsX9_kitchen_r2 : List Cond := [Cond.code yX3_fitsPots cX3_fitsPots 3 (some .boolean), Cond.methodLink RX3 31 yX3_kindOf, Cond.static yX3_kindOf, Cond.code yX3_kindOf cX3_kindOf 1 (some .int), Cond.methodLink RX3 34 yX3_fitsSecondDigit, Cond.static yX3_fitsSecondDigit, Cond.code yX3_fitsSecondDigit cX3_fitsSecondDigit 3 (some .boolean), Cond.methodLink RX3 23 yX3_fitsEnd, Cond.instanceMethod yX3_fitsEnd, Cond.selects RX3 yX3_fitsEnd yX3_fitsEnd, Cond.code yX3_fitsEnd cX3_fitsEnd 4 (some .boolean), Cond.methodLink RX9 62 yX9_readPots, Cond.instanceMethod yX9_readPots, Cond.selects RX9 yX9_readPots yX9_readPots, Cond.initialized RX9, Cond.code yX9_readPots cX9_readPots 2 none, Cond.methodLink RX9 89 Lib.Math.min.name, Cond.static Lib.Math.min.name, Cond.initialized "java/lang/Math", Cond.code Lib.Math.min.name Lib.Math.min.code 2 (some .int), Cond.fieldLink RX9 18 "OneTimer" "pots" "[LOneTimer$Pot;", Cond.methodLink RX9 86 yX3_potsTold, Cond.instanceMethod yX3_potsTold, Cond.selects RX3 yX3_potsTold yX3_potsTold]
def wsX9_kitchen_r3 : List Cond := [Cond.code yX3_potsTold cX3_potsTold 1 (some .int), Cond.methodLink RX9 95 yX3_kindTold, Cond.instanceMethod yX3_kindTold, Cond.selects RX3 yX3_kindTold yX3_kindTold, Cond.code yX3_kindTold cX3_kindTold 2 (some .int), Cond.methodLink RX9 99 yX3_wantsTold, Cond.instanceMethod yX3_wantsTold, Cond.selects RX3 yX3_wantsTold yX3_wantsTold, Cond.code yX3_wantsTold cX3_wantsTold 2 (some .int), Cond.methodLink RX3 42 yX3_twoDigits, Cond.instanceMethod yX3_twoDigits, Cond.selects RX3 yX3_twoDigits yX3_twoDigits, Cond.code yX3_twoDigits cX3_twoDigits 2 (some .int), Cond.methodLink RX9 102 yX9_newPot, Cond.static yX9_newPot, Cond.code yX9_newPot cX9_newPot 2 (some (.object "OneTimer$Pot")), Cond.classLink RX9 120 RX2, Cond.instantiable RX2 7, Cond.initialized RX2, Cond.classLink RX9 125 RX6, Cond.instantiable RX6 7, Cond.initialized RX6, Cond.classLink RX9 128 RX7, Cond.instantiable RX7 7]
def wsX9_kitchen_r4 : List Cond := [Cond.initialized RX7, Cond.classLink RX9 131 RX0, Cond.instantiable RX0 7, Cond.initialized RX0, Cond.classLink RX9 16 RX5, Cond.instantiable RX5 7, Cond.initialized RX5, Cond.methodLink RX9 122 yX2_init, Cond.instanceMethod yX2_init, Cond.code yX2_init cX2_init 2 none, Cond.methodLink RX2 1 yX5_init, Cond.instanceMethod yX5_init, Cond.code yX5_init cX5_init 2 none, Cond.methodLink RX5 3 objectInit, Cond.instanceMethod objectInit, Cond.code objectInit ⟨#[0xb1]⟩ 1 none, Cond.fieldLink RX5 9 "OneTimer$Pot" "since" "I", Cond.fieldLink RX5 15 "OneTimer$Pot" "lastOut" "I", Cond.fieldLink RX5 18 "OneTimer$Pot" "keptSince" "I", Cond.fieldLink RX5 21 "OneTimer$Pot" "keptLastOut" "I", Cond.fieldLink RX5 24 "OneTimer$Pot" "wants" "I", Cond.methodLink RX9 127 yX6_init, Cond.instanceMethod yX6_init, Cond.code yX6_init cX6_init 2 none]
def wsX9_kitchen_r5 : List Cond := [Cond.methodLink RX6 1 yX5_init, Cond.methodLink RX9 130 yX7_init, Cond.instanceMethod yX7_init, Cond.code yX7_init cX7_init 2 none, Cond.methodLink RX7 1 yX5_init, Cond.methodLink RX9 133 yX0_init, Cond.instanceMethod yX0_init, Cond.code yX0_init cX0_init 2 none, Cond.methodLink RX0 1 yX6_init, Cond.methodLink RX9 134 yX5_init, Cond.methodLink RX9 65 yX3_springTold, Cond.instanceMethod yX3_springTold, Cond.selects RX3 yX3_springTold yX3_springTold, Cond.code yX3_springTold cX3_springTold 1 (some .int), Cond.methodLink RX9 71 yX3_handsTold, Cond.instanceMethod yX3_handsTold, Cond.selects RX3 yX3_handsTold yX3_handsTold, Cond.code yX3_handsTold cX3_handsTold 1 (some .int), Cond.methodLink RX9 77 yX9_startEvening, Cond.instanceMethod yX9_startEvening, Cond.selects RX9 yX9_startEvening yX9_startEvening, Cond.code yX9_startEvening cX9_startEvening 1 none, Cond.fieldLink RX9 106 "OneTimer" "minute" "I", Cond.fieldLink RX9 109 "OneTimer" "free" "I"]
def wsX9_kitchen_r6 : List Cond := [Cond.fieldLink RX9 112 "OneTimer" "windings" "I", Cond.fieldLink RX9 25 "OneTimer" "told" "LOneTimer$Told;", Cond.fieldLink RX9 115 "OneTimer$Told" "size" "I", Cond.fieldLink RX9 116 "OneTimer" "hasImage" "Z"]
def wsX9_kitchen : List Cond := .code yX9_kitchen cX9_kitchen 1 (some .int) :: ((wsX9_kitchen_r1 ++ (wsX9_kitchen_r2 ++ (wsX9_kitchen_r3 ++ (wsX9_kitchen_r4 ++ (wsX9_kitchen_r5 ++ wsX9_kitchen_r6))))) ++ wsX90 ++ wsX30 ++ wsX20 ++ wsX60 ++ wsX70 ++ wsX00 ++ wsX50 ++ wsX80)
def wsX9_hasKitchen : List Cond := .code yX9_hasKitchen cX9_hasKitchen 1 (some .boolean) :: ([.fieldLink RX9 83 "OneTimer" "potCount" "I"] ++ wsX90)
def wsX9_potAt : List Cond := .code yX9_potAt cX9_potAt 2 (some (.object "OneTimer$Pot")) :: ([.fieldLink RX9 83 "OneTimer" "potCount" "I", .fieldLink RX9 18 "OneTimer" "pots" "[LOneTimer$Pot;"] ++ wsX90)
def wsX9_about_r1 : List Cond := [Cond.fieldLink RX9 142 "OneTimer$Pot" "wants" "I", Cond.fieldLink RX9 148 "OneTimer$Pot" "since" "I", Cond.fieldLink RX9 106 "OneTimer" "minute" "I", Cond.fieldLink RX9 160 "OneTimer$Pot" "timesTaken" "I", Cond.fieldLink RX9 163 "OneTimer$Pot" "lastOut" "I", Cond.methodLink RX9 135 yX9_potAt, Cond.instanceMethod yX9_potAt, Cond.selects RX9 yX9_potAt yX9_potAt, Cond.initialized RX9, Cond.code yX9_potAt cX9_potAt 2 (some (.object "OneTimer$Pot")), Cond.fieldLink RX9 83 "OneTimer" "potCount" "I", Cond.fieldLink RX9 18 "OneTimer" "pots" "[LOneTimer$Pot;", Cond.methodLink RX9 139 ⟨"OneTimer$Pot", "kind", "()I"⟩, Cond.sameMethod "OneTimer$Pot" "OneTimer$Pot" "kind" "()I", Cond.instanceMethod ⟨"OneTimer$Pot", "kind", "()I"⟩, Cond.selects RX0 ⟨"OneTimer$Pot", "kind", "()I"⟩ yX0_kind, Cond.instanceMethod yX0_kind, Cond.initialized RX0, Cond.code yX0_kind cX0_kind 1 (some .int), Cond.code yX5_kind cX5_kind 1 (some .int), Cond.selects RX2 ⟨"OneTimer$Pot", "kind", "()I"⟩ yX2_kind, Cond.instanceMethod yX2_kind, Cond.initialized RX2, Cond.code yX2_kind cX2_kind 1 (some .int)]
def wsX9_about_r2 : List Cond := [Cond.methodLink RX9 139 yX5_kind, Cond.instanceMethod yX5_kind, Cond.selects RX5 yX5_kind yX5_kind, Cond.initialized RX5, Cond.selects RX6 ⟨"OneTimer$Pot", "kind", "()I"⟩ yX6_kind, Cond.instanceMethod yX6_kind, Cond.initialized RX6, Cond.code yX6_kind cX6_kind 1 (some .int), Cond.selects RX7 ⟨"OneTimer$Pot", "kind", "()I"⟩ yX7_kind, Cond.instanceMethod yX7_kind, Cond.initialized RX7, Cond.code yX7_kind cX7_kind 1 (some .int), Cond.methodLink RX9 145 ⟨"OneTimer$Pot", "keeps", "()I"⟩, Cond.sameMethod "OneTimer$Pot" "OneTimer$Pot" "keeps" "()I", Cond.instanceMethod ⟨"OneTimer$Pot", "keeps", "()I"⟩, Cond.selects RX0 ⟨"OneTimer$Pot", "keeps", "()I"⟩ yX0_keeps, Cond.instanceMethod yX0_keeps, Cond.code yX0_keeps cX0_keeps 1 (some .int), Cond.methodLink RX0 7 yX6_keeps, Cond.sameMethod "OneTimer$Rice" "OneTimer$Rice" "keeps" "()I", Cond.superclass RX0 RX6, Cond.instanceMethod yX6_keeps, Cond.code yX6_keeps cX6_keeps 1 (some .int), Cond.code yX5_keeps cX5_keeps 1 (some .int)]
def wsX9_about_r3 : List Cond := [Cond.selects RX2 ⟨"OneTimer$Pot", "keeps", "()I"⟩ yX2_keeps, Cond.instanceMethod yX2_keeps, Cond.code yX2_keeps cX2_keeps 1 (some .int), Cond.methodLink RX9 145 yX5_keeps, Cond.instanceMethod yX5_keeps, Cond.selects RX5 yX5_keeps yX5_keeps, Cond.selects RX6 ⟨"OneTimer$Pot", "keeps", "()I"⟩ yX6_keeps, Cond.selects RX7 ⟨"OneTimer$Pot", "keeps", "()I"⟩ yX7_keeps, Cond.instanceMethod yX7_keeps, Cond.code yX7_keeps cX7_keeps 1 (some .int), Cond.methodLink RX9 151 ⟨"OneTimer$Pot", "boils", "()Z"⟩, Cond.sameMethod "OneTimer$Pot" "OneTimer$Pot" "boils" "()Z", Cond.selects RX0 ⟨"OneTimer$Pot", "boils", "()Z"⟩ yX5_boils, Cond.instanceMethod yX5_boils, Cond.code yX5_boils cX5_boils 1 (some .boolean), Cond.fieldLink RX5 9 "OneTimer$Pot" "since" "I", Cond.selects RX2 ⟨"OneTimer$Pot", "boils", "()Z"⟩ yX5_boils, Cond.methodLink RX9 151 yX5_boils, Cond.selects RX5 yX5_boils yX5_boils, Cond.selects RX6 ⟨"OneTimer$Pot", "boils", "()Z"⟩ yX5_boils, Cond.selects RX7 ⟨"OneTimer$Pot", "boils", "()Z"⟩ yX5_boils, Cond.methodLink RX9 154 ⟨"OneTimer$Pot", "due", "()I"⟩, Cond.sameMethod "OneTimer$Pot" "OneTimer$Pot" "due" "()I", Cond.selects RX0 ⟨"OneTimer$Pot", "due", "()I"⟩ yX5_due]
def wsX9_about_r4 : List Cond := [Cond.instanceMethod yX5_due, Cond.code yX5_due cX5_due 1 (some .int), Cond.fieldLink RX5 24 "OneTimer$Pot" "wants" "I", Cond.selects RX2 ⟨"OneTimer$Pot", "due", "()I"⟩ yX5_due, Cond.methodLink RX9 154 yX5_due, Cond.selects RX5 yX5_due yX5_due, Cond.selects RX6 ⟨"OneTimer$Pot", "due", "()I"⟩ yX5_due, Cond.selects RX7 ⟨"OneTimer$Pot", "due", "()I"⟩ yX5_due, Cond.methodLink RX9 157 ⟨"OneTimer$Pot", "outAt", "(I)I"⟩, Cond.sameMethod "OneTimer$Pot" "OneTimer$Pot" "outAt" "(I)I", Cond.selects RX0 ⟨"OneTimer$Pot", "outAt", "(I)I"⟩ yX5_outAt, Cond.instanceMethod yX5_outAt, Cond.code yX5_outAt cX5_outAt 2 (some .int), Cond.methodLink RX5 27 ⟨"OneTimer$Pot", "due", "()I"⟩, Cond.methodLink RX5 27 yX5_due, Cond.methodLink RX5 31 ⟨"OneTimer$Pot", "keeps", "()I"⟩, Cond.methodLink RX5 31 yX5_keeps, Cond.static yX9_outBy, Cond.code yX9_outBy cX9_outBy 2 (some .int), Cond.selects RX2 ⟨"OneTimer$Pot", "outAt", "(I)I"⟩ yX5_outAt, Cond.methodLink RX9 157 yX5_outAt, Cond.selects RX5 yX5_outAt yX5_outAt, Cond.selects RX6 ⟨"OneTimer$Pot", "outAt", "(I)I"⟩ yX5_outAt, Cond.selects RX7 ⟨"OneTimer$Pot", "outAt", "(I)I"⟩ yX5_outAt]
def wsX9_about : List Cond := .code yX9_about cX9_about 4 (some .int) :: ((wsX9_about_r1 ++ (wsX9_about_r2 ++ (wsX9_about_r3 ++ wsX9_about_r4))) ++ wsX00 ++ wsX20 ++ wsX50 ++ wsX60 ++ wsX70 ++ wsX90)
def wsX9_isOfKind : List Cond := .code yX9_isOfKind cX9_isOfKind 2 (some .boolean) :: ([.classLink RX9 120 "OneTimer$Eggs", .classLink RX9 125 "OneTimer$Rice", .classLink RX9 128 "OneTimer$Stew", .classLink RX9 131 "OneTimer$Beans"])
def wsX9_as : List Cond := .code yX9_as cX9_as 4 (some .int) :: ([.methodLink RX9 135 yX9_potAt, .instanceMethod yX9_potAt, .selects RX9 yX9_potAt yX9_potAt, .initialized RX9, .code yX9_potAt cX9_potAt 2 (some (.object "OneTimer$Pot")), .fieldLink RX9 83 "OneTimer" "potCount" "I", .fieldLink RX9 18 "OneTimer" "pots" "[LOneTimer$Pot;", .methodLink RX9 166 yX9_isOfKind, .static yX9_isOfKind, .code yX9_isOfKind cX9_isOfKind 2 (some .boolean), .classLink RX9 120 "OneTimer$Eggs", .classLink RX9 125 "OneTimer$Rice", .classLink RX9 128 "OneTimer$Stew", .classLink RX9 131 "OneTimer$Beans"] ++ wsX90)
def wsX9_boil_r1 : List Cond := [Cond.fieldLink RX9 106 "OneTimer" "minute" "I", Cond.fieldLink RX9 148 "OneTimer$Pot" "since" "I", Cond.methodLink RX9 135 yX9_potAt, Cond.instanceMethod yX9_potAt, Cond.selects RX9 yX9_potAt yX9_potAt, Cond.initialized RX9, Cond.code yX9_potAt cX9_potAt 2 (some (.object "OneTimer$Pot")), Cond.fieldLink RX9 83 "OneTimer" "potCount" "I", Cond.fieldLink RX9 18 "OneTimer" "pots" "[LOneTimer$Pot;", Cond.methodLink RX9 151 ⟨"OneTimer$Pot", "boils", "()Z"⟩, Cond.sameMethod "OneTimer$Pot" "OneTimer$Pot" "boils" "()Z", Cond.selects RX0 ⟨"OneTimer$Pot", "boils", "()Z"⟩ yX5_boils, Cond.instanceMethod yX5_boils, Cond.initialized RX5, Cond.code yX5_boils cX5_boils 1 (some .boolean), Cond.fieldLink RX5 9 "OneTimer$Pot" "since" "I", Cond.selects RX2 ⟨"OneTimer$Pot", "boils", "()Z"⟩ yX5_boils, Cond.methodLink RX9 151 yX5_boils, Cond.selects RX5 yX5_boils yX5_boils, Cond.selects RX6 ⟨"OneTimer$Pot", "boils", "()Z"⟩ yX5_boils, Cond.selects RX7 ⟨"OneTimer$Pot", "boils", "()Z"⟩ yX5_boils, Cond.methodLink RX9 154 ⟨"OneTimer$Pot", "due", "()I"⟩, Cond.sameMethod "OneTimer$Pot" "OneTimer$Pot" "due" "()I", Cond.selects RX0 ⟨"OneTimer$Pot", "due", "()I"⟩ yX5_due]
def wsX9_boil_r2 : List Cond := [Cond.instanceMethod yX5_due, Cond.code yX5_due cX5_due 1 (some .int), Cond.fieldLink RX5 24 "OneTimer$Pot" "wants" "I", Cond.selects RX2 ⟨"OneTimer$Pot", "due", "()I"⟩ yX5_due, Cond.methodLink RX9 154 yX5_due, Cond.selects RX5 yX5_due yX5_due, Cond.selects RX6 ⟨"OneTimer$Pot", "due", "()I"⟩ yX5_due, Cond.selects RX7 ⟨"OneTimer$Pot", "due", "()I"⟩ yX5_due]
def wsX9_boil : List Cond := .code yX9_boil cX9_boil 3 (some .int) :: ((wsX9_boil_r1 ++ wsX9_boil_r2) ++ wsX90 ++ wsX00 ++ wsX20 ++ wsX50 ++ wsX60 ++ wsX70)
def wsX9_wind : List Cond := .code yX9_wind cX9_wind 2 (some .int) :: ([.fieldLink RX9 68 "OneTimer" "spring" "I", .fieldLink RX9 106 "OneTimer" "minute" "I", .fieldLink RX9 74 "OneTimer" "hands" "I", .fieldLink RX9 109 "OneTimer" "free" "I", .fieldLink RX9 112 "OneTimer" "windings" "I", .methodLink RX9 170 yX9_hasKitchen, .instanceMethod yX9_hasKitchen, .selects RX9 yX9_hasKitchen yX9_hasKitchen, .initialized RX9, .code yX9_hasKitchen cX9_hasKitchen 1 (some .boolean), .fieldLink RX9 83 "OneTimer" "potCount" "I"] ++ wsX90)
def wsX9_take_r1 : List Cond := [Cond.fieldLink RX9 109 "OneTimer" "free" "I", Cond.fieldLink RX9 106 "OneTimer" "minute" "I", Cond.fieldLink RX9 163 "OneTimer$Pot" "lastOut" "I", Cond.methodLink RX9 135 yX9_potAt, Cond.instanceMethod yX9_potAt, Cond.selects RX9 yX9_potAt yX9_potAt, Cond.initialized RX9, Cond.code yX9_potAt cX9_potAt 2 (some (.object "OneTimer$Pot")), Cond.fieldLink RX9 83 "OneTimer" "potCount" "I", Cond.fieldLink RX9 18 "OneTimer" "pots" "[LOneTimer$Pot;", Cond.methodLink RX9 151 ⟨"OneTimer$Pot", "boils", "()Z"⟩, Cond.sameMethod "OneTimer$Pot" "OneTimer$Pot" "boils" "()Z", Cond.selects RX0 ⟨"OneTimer$Pot", "boils", "()Z"⟩ yX5_boils, Cond.instanceMethod yX5_boils, Cond.initialized RX5, Cond.code yX5_boils cX5_boils 1 (some .boolean), Cond.fieldLink RX5 9 "OneTimer$Pot" "since" "I", Cond.selects RX2 ⟨"OneTimer$Pot", "boils", "()Z"⟩ yX5_boils, Cond.methodLink RX9 151 yX5_boils, Cond.selects RX5 yX5_boils yX5_boils, Cond.selects RX6 ⟨"OneTimer$Pot", "boils", "()Z"⟩ yX5_boils, Cond.selects RX7 ⟨"OneTimer$Pot", "boils", "()Z"⟩ yX5_boils, Cond.methodLink RX9 173 ⟨"OneTimer$Pot", "comeOut", "(I)V"⟩, Cond.sameMethod "OneTimer$Pot" "OneTimer$Pot" "comeOut" "(I)V"]
def wsX9_take_r2 : List Cond := [Cond.selects RX0 ⟨"OneTimer$Pot", "comeOut", "(I)V"⟩ yX5_comeOut, Cond.instanceMethod yX5_comeOut, Cond.code yX5_comeOut cX5_comeOut 2 none, Cond.fieldLink RX5 15 "OneTimer$Pot" "lastOut" "I", Cond.fieldLink RX5 42 "OneTimer$Pot" "timesTaken" "I", Cond.methodLink RX5 38 ⟨"OneTimer$Pot", "outAt", "(I)I"⟩, Cond.sameMethod "OneTimer$Pot" "OneTimer$Pot" "outAt" "(I)I", Cond.selects RX0 ⟨"OneTimer$Pot", "outAt", "(I)I"⟩ yX5_outAt, Cond.instanceMethod yX5_outAt, Cond.code yX5_outAt cX5_outAt 2 (some .int), Cond.methodLink RX5 27 ⟨"OneTimer$Pot", "due", "()I"⟩, Cond.sameMethod "OneTimer$Pot" "OneTimer$Pot" "due" "()I", Cond.selects RX0 ⟨"OneTimer$Pot", "due", "()I"⟩ yX5_due, Cond.instanceMethod yX5_due, Cond.code yX5_due cX5_due 1 (some .int), Cond.fieldLink RX5 24 "OneTimer$Pot" "wants" "I", Cond.selects RX2 ⟨"OneTimer$Pot", "due", "()I"⟩ yX5_due, Cond.methodLink RX5 27 yX5_due, Cond.selects RX5 yX5_due yX5_due, Cond.selects RX6 ⟨"OneTimer$Pot", "due", "()I"⟩ yX5_due, Cond.selects RX7 ⟨"OneTimer$Pot", "due", "()I"⟩ yX5_due, Cond.methodLink RX5 31 ⟨"OneTimer$Pot", "keeps", "()I"⟩, Cond.sameMethod "OneTimer$Pot" "OneTimer$Pot" "keeps" "()I", Cond.instanceMethod ⟨"OneTimer$Pot", "keeps", "()I"⟩]
def wsX9_take_r3 : List Cond := [Cond.selects RX0 ⟨"OneTimer$Pot", "keeps", "()I"⟩ yX0_keeps, Cond.instanceMethod yX0_keeps, Cond.initialized RX0, Cond.code yX0_keeps cX0_keeps 1 (some .int), Cond.methodLink RX0 7 yX6_keeps, Cond.sameMethod "OneTimer$Rice" "OneTimer$Rice" "keeps" "()I", Cond.superclass RX0 RX6, Cond.instanceMethod yX6_keeps, Cond.initialized RX6, Cond.code yX6_keeps cX6_keeps 1 (some .int), Cond.code yX5_keeps cX5_keeps 1 (some .int), Cond.selects RX2 ⟨"OneTimer$Pot", "keeps", "()I"⟩ yX2_keeps, Cond.instanceMethod yX2_keeps, Cond.initialized RX2, Cond.code yX2_keeps cX2_keeps 1 (some .int), Cond.methodLink RX5 31 yX5_keeps, Cond.instanceMethod yX5_keeps, Cond.selects RX5 yX5_keeps yX5_keeps, Cond.selects RX6 ⟨"OneTimer$Pot", "keeps", "()I"⟩ yX6_keeps, Cond.selects RX7 ⟨"OneTimer$Pot", "keeps", "()I"⟩ yX7_keeps, Cond.instanceMethod yX7_keeps, Cond.initialized RX7, Cond.code yX7_keeps cX7_keeps 1 (some .int), Cond.static yX9_outBy]
def wsX9_take_r4 : List Cond := [Cond.code yX9_outBy cX9_outBy 2 (some .int), Cond.selects RX2 ⟨"OneTimer$Pot", "outAt", "(I)I"⟩ yX5_outAt, Cond.methodLink RX5 38 yX5_outAt, Cond.selects RX5 yX5_outAt yX5_outAt, Cond.selects RX6 ⟨"OneTimer$Pot", "outAt", "(I)I"⟩ yX5_outAt, Cond.selects RX7 ⟨"OneTimer$Pot", "outAt", "(I)I"⟩ yX5_outAt, Cond.selects RX2 ⟨"OneTimer$Pot", "comeOut", "(I)V"⟩ yX5_comeOut, Cond.methodLink RX9 173 yX5_comeOut, Cond.selects RX5 yX5_comeOut yX5_comeOut, Cond.selects RX6 ⟨"OneTimer$Pot", "comeOut", "(I)V"⟩ yX5_comeOut, Cond.selects RX7 ⟨"OneTimer$Pot", "comeOut", "(I)V"⟩ yX5_comeOut]
def wsX9_take : List Cond := .code yX9_take cX9_take 3 (some .int) :: ((wsX9_take_r1 ++ (wsX9_take_r2 ++ (wsX9_take_r3 ++ wsX9_take_r4))) ++ wsX90 ++ wsX00 ++ wsX20 ++ wsX50 ++ wsX60 ++ wsX70)
def wsX9_plan_r1 : List Cond := [Cond.fieldLink RX9 176 "OneTimer" "plansDone" "I", Cond.fieldLink RX9 35 "OneTimer" "planner" "LOneTimer$Planner;", Cond.fieldLink RX9 68 "OneTimer" "spring" "I", Cond.fieldLink RX9 74 "OneTimer" "hands" "I", Cond.fieldLink RX9 109 "OneTimer" "free" "I", Cond.fieldLink RX9 83 "OneTimer" "potCount" "I", Cond.fieldLink RX9 106 "OneTimer" "minute" "I", Cond.methodLink RX9 170 yX9_hasKitchen, Cond.instanceMethod yX9_hasKitchen, Cond.selects RX9 yX9_hasKitchen yX9_hasKitchen, Cond.initialized RX9, Cond.code yX9_hasKitchen cX9_hasKitchen 1 (some .boolean), Cond.methodLink RX9 179 yX4_begin, Cond.instanceMethod yX4_begin, Cond.selects RX4 yX4_begin yX4_begin, Cond.initialized RX4, Cond.code yX4_begin cX4_begin 4 none, Cond.fieldLink RX4 24 "OneTimer$Planner" "size" "I", Cond.fieldLink RX4 28 "OneTimer$Planner" "last" "I", Cond.fieldLink RX4 31 "OneTimer$Planner" "spring" "I", Cond.fieldLink RX4 34 "OneTimer$Planner" "hands" "I", Cond.fieldLink RX4 37 "OneTimer$Planner" "freeNow" "I", Cond.methodLink RX9 135 yX9_potAt, Cond.instanceMethod yX9_potAt]
def wsX9_plan_r2 : List Cond := [Cond.selects RX9 yX9_potAt yX9_potAt, Cond.code yX9_potAt cX9_potAt 2 (some (.object "OneTimer$Pot")), Cond.fieldLink RX9 18 "OneTimer" "pots" "[LOneTimer$Pot;", Cond.methodLink RX9 151 ⟨"OneTimer$Pot", "boils", "()Z"⟩, Cond.sameMethod "OneTimer$Pot" "OneTimer$Pot" "boils" "()Z", Cond.selects RX0 ⟨"OneTimer$Pot", "boils", "()Z"⟩ yX5_boils, Cond.instanceMethod yX5_boils, Cond.initialized RX5, Cond.code yX5_boils cX5_boils 1 (some .boolean), Cond.fieldLink RX5 9 "OneTimer$Pot" "since" "I", Cond.selects RX2 ⟨"OneTimer$Pot", "boils", "()Z"⟩ yX5_boils, Cond.methodLink RX9 151 yX5_boils, Cond.selects RX5 yX5_boils yX5_boils, Cond.selects RX6 ⟨"OneTimer$Pot", "boils", "()Z"⟩ yX5_boils, Cond.selects RX7 ⟨"OneTimer$Pot", "boils", "()Z"⟩ yX5_boils, Cond.methodLink RX9 154 ⟨"OneTimer$Pot", "due", "()I"⟩, Cond.sameMethod "OneTimer$Pot" "OneTimer$Pot" "due" "()I", Cond.selects RX0 ⟨"OneTimer$Pot", "due", "()I"⟩ yX5_due, Cond.instanceMethod yX5_due, Cond.code yX5_due cX5_due 1 (some .int), Cond.fieldLink RX5 24 "OneTimer$Pot" "wants" "I", Cond.selects RX2 ⟨"OneTimer$Pot", "due", "()I"⟩ yX5_due, Cond.methodLink RX9 154 yX5_due, Cond.selects RX5 yX5_due yX5_due]
def wsX9_plan_r3 : List Cond := [Cond.selects RX6 ⟨"OneTimer$Pot", "due", "()I"⟩ yX5_due, Cond.selects RX7 ⟨"OneTimer$Pot", "due", "()I"⟩ yX5_due, Cond.methodLink RX9 145 ⟨"OneTimer$Pot", "keeps", "()I"⟩, Cond.sameMethod "OneTimer$Pot" "OneTimer$Pot" "keeps" "()I", Cond.instanceMethod ⟨"OneTimer$Pot", "keeps", "()I"⟩, Cond.selects RX0 ⟨"OneTimer$Pot", "keeps", "()I"⟩ yX0_keeps, Cond.instanceMethod yX0_keeps, Cond.initialized RX0, Cond.code yX0_keeps cX0_keeps 1 (some .int), Cond.methodLink RX0 7 yX6_keeps, Cond.sameMethod "OneTimer$Rice" "OneTimer$Rice" "keeps" "()I", Cond.superclass RX0 RX6, Cond.instanceMethod yX6_keeps, Cond.initialized RX6, Cond.code yX6_keeps cX6_keeps 1 (some .int), Cond.code yX5_keeps cX5_keeps 1 (some .int), Cond.selects RX2 ⟨"OneTimer$Pot", "keeps", "()I"⟩ yX2_keeps, Cond.instanceMethod yX2_keeps, Cond.initialized RX2, Cond.code yX2_keeps cX2_keeps 1 (some .int), Cond.methodLink RX9 145 yX5_keeps, Cond.instanceMethod yX5_keeps, Cond.selects RX5 yX5_keeps yX5_keeps, Cond.selects RX6 ⟨"OneTimer$Pot", "keeps", "()I"⟩ yX6_keeps]
def wsX9_plan_r4 : List Cond := [Cond.selects RX7 ⟨"OneTimer$Pot", "keeps", "()I"⟩ yX7_keeps, Cond.instanceMethod yX7_keeps, Cond.initialized RX7, Cond.code yX7_keeps cX7_keeps 1 (some .int), Cond.methodLink RX9 183 yX4_add, Cond.instanceMethod yX4_add, Cond.selects RX4 yX4_add yX4_add, Cond.code yX4_add cX4_add 3 none, Cond.fieldLink RX4 18 "OneTimer$Planner" "opens" "[I", Cond.fieldLink RX4 21 "OneTimer$Planner" "closes" "[I", Cond.methodLink RX4 40 Lib.Math.max.name, Cond.static Lib.Math.max.name, Cond.initialized "java/lang/Math", Cond.code Lib.Math.max.name Lib.Math.max.code 2 (some .int), Cond.methodLink RX4 46 Lib.Math.min.name, Cond.static Lib.Math.min.name, Cond.code Lib.Math.min.name Lib.Math.min.code 2 (some .int), Cond.methodLink RX9 187 yX4_fill, Cond.instanceMethod yX4_fill, Cond.selects RX4 yX4_fill yX4_fill, Cond.code yX4_fill cX4_fill 2 none, Cond.methodLink RX4 49 yX4_fillMinute, Cond.instanceMethod yX4_fillMinute, Cond.selects RX4 yX4_fillMinute yX4_fillMinute]
def wsX9_plan_r5 : List Cond := [Cond.code yX4_fillMinute cX4_fillMinute 5 none, Cond.fieldLink RX4 15 "OneTimer$Planner" "afterTaking" "[I", Cond.fieldLink RX4 11 "OneTimer$Planner" "fewest" "[I", Cond.methodLink RX4 53 yX4_allPots, Cond.instanceMethod yX4_allPots, Cond.selects RX4 yX4_allPots yX4_allPots, Cond.code yX4_allPots cX4_allPots 1 (some .int), Cond.methodLink RX4 57 yX4_goodAt, Cond.instanceMethod yX4_goodAt, Cond.selects RX4 yX4_goodAt yX4_goodAt, Cond.code yX4_goodAt cX4_goodAt 4 (some .int), Cond.methodLink RX4 61 yX4_byWinding, Cond.instanceMethod yX4_byWinding, Cond.selects RX4 yX4_byWinding yX4_byWinding, Cond.code yX4_byWinding cX4_byWinding 5 (some .int), Cond.methodLink RX4 64 yX4_byTaking, Cond.instanceMethod yX4_byTaking, Cond.selects RX4 yX4_byTaking yX4_byTaking, Cond.code yX4_byTaking cX4_byTaking 6 (some .int), Cond.methodLink RX4 68 yX4_canTake, Cond.static yX4_canTake, Cond.code yX4_canTake cX4_canTake 3 (some .boolean), Cond.methodLink RX4 72 yJ6_bitCount_0f7a4, Cond.static yJ6_bitCount_0f7a4]
def wsX9_plan_r6 : List Cond := [Cond.initialized RJ6, Cond.code yJ6_bitCount_0f7a4 cJ6_bitCount_0f7a4 1 (some .int), Cond.constant RJ6 265 (1431655765), Cond.constant RJ6 266 (858993459), Cond.constant RJ6 267 (252645135), Cond.methodLink RX9 190 yX4_howFew, Cond.instanceMethod yX4_howFew, Cond.selects RX4 yX4_howFew yX4_howFew, Cond.code yX4_howFew cX4_howFew 2 (some .int), Cond.methodLink RX9 193 yX4_first, Cond.instanceMethod yX4_first, Cond.selects RX4 yX4_first yX4_first, Cond.code yX4_first cX4_first 3 (some .int), Cond.methodLink RX4 77 yX4_howFew, Cond.methodLink RX4 80 yX4_leadsOn, Cond.instanceMethod yX4_leadsOn, Cond.selects RX4 yX4_leadsOn yX4_leadsOn, Cond.code yX4_leadsOn cX4_leadsOn 5 (some .boolean)]
def wsX9_plan : List Cond := .code yX9_plan cX9_plan 4 (some .int) :: ((wsX9_plan_r1 ++ (wsX9_plan_r2 ++ (wsX9_plan_r3 ++ (wsX9_plan_r4 ++ (wsX9_plan_r5 ++ wsX9_plan_r6))))) ++ wsX90 ++ wsX40 ++ wsX00 ++ wsX20 ++ wsX50 ++ wsX60 ++ wsX70)
def wsX9_sure_r1 : List Cond := [Cond.fieldLink RX9 68 "OneTimer" "spring" "I", Cond.fieldLink RX9 106 "OneTimer" "minute" "I", Cond.methodLink RX9 135 yX9_potAt, Cond.instanceMethod yX9_potAt, Cond.selects RX9 yX9_potAt yX9_potAt, Cond.initialized RX9, Cond.code yX9_potAt cX9_potAt 2 (some (.object "OneTimer$Pot")), Cond.fieldLink RX9 83 "OneTimer" "potCount" "I", Cond.fieldLink RX9 18 "OneTimer" "pots" "[LOneTimer$Pot;", Cond.methodLink RX9 151 ⟨"OneTimer$Pot", "boils", "()Z"⟩, Cond.sameMethod "OneTimer$Pot" "OneTimer$Pot" "boils" "()Z", Cond.selects RX0 ⟨"OneTimer$Pot", "boils", "()Z"⟩ yX5_boils, Cond.instanceMethod yX5_boils, Cond.initialized RX5, Cond.code yX5_boils cX5_boils 1 (some .boolean), Cond.fieldLink RX5 9 "OneTimer$Pot" "since" "I", Cond.selects RX2 ⟨"OneTimer$Pot", "boils", "()Z"⟩ yX5_boils, Cond.methodLink RX9 151 yX5_boils, Cond.selects RX5 yX5_boils yX5_boils, Cond.selects RX6 ⟨"OneTimer$Pot", "boils", "()Z"⟩ yX5_boils, Cond.selects RX7 ⟨"OneTimer$Pot", "boils", "()Z"⟩ yX5_boils, Cond.methodLink RX9 196 ⟨"OneTimer$Pot", "sureAt", "(I)I"⟩, Cond.sameMethod "OneTimer$Pot" "OneTimer$Pot" "sureAt" "(I)I", Cond.selects RX0 ⟨"OneTimer$Pot", "sureAt", "(I)I"⟩ yX5_sureAt]
def wsX9_sure_r2 : List Cond := [Cond.instanceMethod yX5_sureAt, Cond.code yX5_sureAt cX5_sureAt 3 (some .int), Cond.methodLink RX5 38 ⟨"OneTimer$Pot", "outAt", "(I)I"⟩, Cond.sameMethod "OneTimer$Pot" "OneTimer$Pot" "outAt" "(I)I", Cond.selects RX0 ⟨"OneTimer$Pot", "outAt", "(I)I"⟩ yX5_outAt, Cond.instanceMethod yX5_outAt, Cond.code yX5_outAt cX5_outAt 2 (some .int), Cond.methodLink RX5 27 ⟨"OneTimer$Pot", "due", "()I"⟩, Cond.sameMethod "OneTimer$Pot" "OneTimer$Pot" "due" "()I", Cond.selects RX0 ⟨"OneTimer$Pot", "due", "()I"⟩ yX5_due, Cond.instanceMethod yX5_due, Cond.code yX5_due cX5_due 1 (some .int), Cond.fieldLink RX5 24 "OneTimer$Pot" "wants" "I", Cond.selects RX2 ⟨"OneTimer$Pot", "due", "()I"⟩ yX5_due, Cond.methodLink RX5 27 yX5_due, Cond.selects RX5 yX5_due yX5_due, Cond.selects RX6 ⟨"OneTimer$Pot", "due", "()I"⟩ yX5_due, Cond.selects RX7 ⟨"OneTimer$Pot", "due", "()I"⟩ yX5_due, Cond.methodLink RX5 31 ⟨"OneTimer$Pot", "keeps", "()I"⟩, Cond.sameMethod "OneTimer$Pot" "OneTimer$Pot" "keeps" "()I", Cond.instanceMethod ⟨"OneTimer$Pot", "keeps", "()I"⟩, Cond.selects RX0 ⟨"OneTimer$Pot", "keeps", "()I"⟩ yX0_keeps, Cond.instanceMethod yX0_keeps, Cond.initialized RX0]
def wsX9_sure_r3 : List Cond := [Cond.code yX0_keeps cX0_keeps 1 (some .int), Cond.methodLink RX0 7 yX6_keeps, Cond.sameMethod "OneTimer$Rice" "OneTimer$Rice" "keeps" "()I", Cond.superclass RX0 RX6, Cond.instanceMethod yX6_keeps, Cond.initialized RX6, Cond.code yX6_keeps cX6_keeps 1 (some .int), Cond.code yX5_keeps cX5_keeps 1 (some .int), Cond.selects RX2 ⟨"OneTimer$Pot", "keeps", "()I"⟩ yX2_keeps, Cond.instanceMethod yX2_keeps, Cond.initialized RX2, Cond.code yX2_keeps cX2_keeps 1 (some .int), Cond.methodLink RX5 31 yX5_keeps, Cond.instanceMethod yX5_keeps, Cond.selects RX5 yX5_keeps yX5_keeps, Cond.selects RX6 ⟨"OneTimer$Pot", "keeps", "()I"⟩ yX6_keeps, Cond.selects RX7 ⟨"OneTimer$Pot", "keeps", "()I"⟩ yX7_keeps, Cond.instanceMethod yX7_keeps, Cond.initialized RX7, Cond.code yX7_keeps cX7_keeps 1 (some .int), Cond.static yX9_outBy, Cond.code yX9_outBy cX9_outBy 2 (some .int), Cond.selects RX2 ⟨"OneTimer$Pot", "outAt", "(I)I"⟩ yX5_outAt, Cond.methodLink RX5 38 yX5_outAt]
def wsX9_sure_r4 : List Cond := [Cond.selects RX5 yX5_outAt yX5_outAt, Cond.selects RX6 ⟨"OneTimer$Pot", "outAt", "(I)I"⟩ yX5_outAt, Cond.selects RX7 ⟨"OneTimer$Pot", "outAt", "(I)I"⟩ yX5_outAt, Cond.selects RX2 ⟨"OneTimer$Pot", "sureAt", "(I)I"⟩ yX5_sureAt, Cond.methodLink RX9 196 yX5_sureAt, Cond.selects RX5 yX5_sureAt yX5_sureAt, Cond.selects RX6 ⟨"OneTimer$Pot", "sureAt", "(I)I"⟩ yX5_sureAt, Cond.selects RX7 ⟨"OneTimer$Pot", "sureAt", "(I)I"⟩ yX5_sureAt]
def wsX9_sure : List Cond := .code yX9_sure cX9_sure 4 (some .int) :: ((wsX9_sure_r1 ++ (wsX9_sure_r2 ++ (wsX9_sure_r3 ++ wsX9_sure_r4))) ++ wsX90 ++ wsX00 ++ wsX20 ++ wsX50 ++ wsX60 ++ wsX70)
def wsX9_bestWinding_r1 : List Cond := [Cond.fieldLink RX9 106 "OneTimer" "minute" "I", Cond.fieldLink RX9 68 "OneTimer" "spring" "I", Cond.methodLink RX9 196 ⟨"OneTimer$Pot", "sureAt", "(I)I"⟩, Cond.sameMethod "OneTimer$Pot" "OneTimer$Pot" "sureAt" "(I)I", Cond.selects RX0 ⟨"OneTimer$Pot", "sureAt", "(I)I"⟩ yX5_sureAt, Cond.instanceMethod yX5_sureAt, Cond.initialized RX5, Cond.code yX5_sureAt cX5_sureAt 3 (some .int), Cond.methodLink RX5 38 ⟨"OneTimer$Pot", "outAt", "(I)I"⟩, Cond.sameMethod "OneTimer$Pot" "OneTimer$Pot" "outAt" "(I)I", Cond.selects RX0 ⟨"OneTimer$Pot", "outAt", "(I)I"⟩ yX5_outAt, Cond.instanceMethod yX5_outAt, Cond.code yX5_outAt cX5_outAt 2 (some .int), Cond.methodLink RX5 27 ⟨"OneTimer$Pot", "due", "()I"⟩, Cond.sameMethod "OneTimer$Pot" "OneTimer$Pot" "due" "()I", Cond.selects RX0 ⟨"OneTimer$Pot", "due", "()I"⟩ yX5_due, Cond.instanceMethod yX5_due, Cond.code yX5_due cX5_due 1 (some .int), Cond.fieldLink RX5 9 "OneTimer$Pot" "since" "I", Cond.fieldLink RX5 24 "OneTimer$Pot" "wants" "I", Cond.selects RX2 ⟨"OneTimer$Pot", "due", "()I"⟩ yX5_due, Cond.methodLink RX5 27 yX5_due, Cond.selects RX5 yX5_due yX5_due, Cond.selects RX6 ⟨"OneTimer$Pot", "due", "()I"⟩ yX5_due]
def wsX9_bestWinding_r2 : List Cond := [Cond.selects RX7 ⟨"OneTimer$Pot", "due", "()I"⟩ yX5_due, Cond.methodLink RX5 31 ⟨"OneTimer$Pot", "keeps", "()I"⟩, Cond.sameMethod "OneTimer$Pot" "OneTimer$Pot" "keeps" "()I", Cond.instanceMethod ⟨"OneTimer$Pot", "keeps", "()I"⟩, Cond.selects RX0 ⟨"OneTimer$Pot", "keeps", "()I"⟩ yX0_keeps, Cond.instanceMethod yX0_keeps, Cond.initialized RX0, Cond.code yX0_keeps cX0_keeps 1 (some .int), Cond.methodLink RX0 7 yX6_keeps, Cond.sameMethod "OneTimer$Rice" "OneTimer$Rice" "keeps" "()I", Cond.superclass RX0 RX6, Cond.instanceMethod yX6_keeps, Cond.initialized RX6, Cond.code yX6_keeps cX6_keeps 1 (some .int), Cond.code yX5_keeps cX5_keeps 1 (some .int), Cond.selects RX2 ⟨"OneTimer$Pot", "keeps", "()I"⟩ yX2_keeps, Cond.instanceMethod yX2_keeps, Cond.initialized RX2, Cond.code yX2_keeps cX2_keeps 1 (some .int), Cond.methodLink RX5 31 yX5_keeps, Cond.instanceMethod yX5_keeps, Cond.selects RX5 yX5_keeps yX5_keeps, Cond.selects RX6 ⟨"OneTimer$Pot", "keeps", "()I"⟩ yX6_keeps, Cond.selects RX7 ⟨"OneTimer$Pot", "keeps", "()I"⟩ yX7_keeps]
def wsX9_bestWinding_r3 : List Cond := [Cond.instanceMethod yX7_keeps, Cond.initialized RX7, Cond.code yX7_keeps cX7_keeps 1 (some .int), Cond.static yX9_outBy, Cond.initialized RX9, Cond.code yX9_outBy cX9_outBy 2 (some .int), Cond.selects RX2 ⟨"OneTimer$Pot", "outAt", "(I)I"⟩ yX5_outAt, Cond.methodLink RX5 38 yX5_outAt, Cond.selects RX5 yX5_outAt yX5_outAt, Cond.selects RX6 ⟨"OneTimer$Pot", "outAt", "(I)I"⟩ yX5_outAt, Cond.selects RX7 ⟨"OneTimer$Pot", "outAt", "(I)I"⟩ yX5_outAt, Cond.selects RX2 ⟨"OneTimer$Pot", "sureAt", "(I)I"⟩ yX5_sureAt, Cond.methodLink RX9 196 yX5_sureAt, Cond.selects RX5 yX5_sureAt yX5_sureAt, Cond.selects RX6 ⟨"OneTimer$Pot", "sureAt", "(I)I"⟩ yX5_sureAt, Cond.selects RX7 ⟨"OneTimer$Pot", "sureAt", "(I)I"⟩ yX5_sureAt]
def wsX9_bestWinding : List Cond := .code yX9_bestWinding cX9_bestWinding 6 (some .int) :: ((wsX9_bestWinding_r1 ++ (wsX9_bestWinding_r2 ++ wsX9_bestWinding_r3)) ++ wsX90 ++ wsX00 ++ wsX20 ++ wsX50 ++ wsX60 ++ wsX70)
def wsX9_best_r1 : List Cond := [Cond.methodLink RX9 135 yX9_potAt, Cond.instanceMethod yX9_potAt, Cond.selects RX9 yX9_potAt yX9_potAt, Cond.initialized RX9, Cond.code yX9_potAt cX9_potAt 2 (some (.object "OneTimer$Pot")), Cond.fieldLink RX9 83 "OneTimer" "potCount" "I", Cond.fieldLink RX9 18 "OneTimer" "pots" "[LOneTimer$Pot;", Cond.methodLink RX9 151 ⟨"OneTimer$Pot", "boils", "()Z"⟩, Cond.sameMethod "OneTimer$Pot" "OneTimer$Pot" "boils" "()Z", Cond.selects RX0 ⟨"OneTimer$Pot", "boils", "()Z"⟩ yX5_boils, Cond.instanceMethod yX5_boils, Cond.initialized RX5, Cond.code yX5_boils cX5_boils 1 (some .boolean), Cond.fieldLink RX5 9 "OneTimer$Pot" "since" "I", Cond.selects RX2 ⟨"OneTimer$Pot", "boils", "()Z"⟩ yX5_boils, Cond.methodLink RX9 151 yX5_boils, Cond.selects RX5 yX5_boils yX5_boils, Cond.selects RX6 ⟨"OneTimer$Pot", "boils", "()Z"⟩ yX5_boils, Cond.selects RX7 ⟨"OneTimer$Pot", "boils", "()Z"⟩ yX5_boils, Cond.methodLink RX9 199 yX9_bestWinding, Cond.instanceMethod yX9_bestWinding, Cond.selects RX9 yX9_bestWinding yX9_bestWinding, Cond.code yX9_bestWinding cX9_bestWinding 6 (some .int), Cond.fieldLink RX9 106 "OneTimer" "minute" "I"]
def wsX9_best_r2 : List Cond := [Cond.fieldLink RX9 68 "OneTimer" "spring" "I", Cond.methodLink RX9 196 ⟨"OneTimer$Pot", "sureAt", "(I)I"⟩, Cond.sameMethod "OneTimer$Pot" "OneTimer$Pot" "sureAt" "(I)I", Cond.selects RX0 ⟨"OneTimer$Pot", "sureAt", "(I)I"⟩ yX5_sureAt, Cond.instanceMethod yX5_sureAt, Cond.code yX5_sureAt cX5_sureAt 3 (some .int), Cond.methodLink RX5 38 ⟨"OneTimer$Pot", "outAt", "(I)I"⟩, Cond.sameMethod "OneTimer$Pot" "OneTimer$Pot" "outAt" "(I)I", Cond.selects RX0 ⟨"OneTimer$Pot", "outAt", "(I)I"⟩ yX5_outAt, Cond.instanceMethod yX5_outAt, Cond.code yX5_outAt cX5_outAt 2 (some .int), Cond.methodLink RX5 27 ⟨"OneTimer$Pot", "due", "()I"⟩, Cond.sameMethod "OneTimer$Pot" "OneTimer$Pot" "due" "()I", Cond.selects RX0 ⟨"OneTimer$Pot", "due", "()I"⟩ yX5_due, Cond.instanceMethod yX5_due, Cond.code yX5_due cX5_due 1 (some .int), Cond.fieldLink RX5 24 "OneTimer$Pot" "wants" "I", Cond.selects RX2 ⟨"OneTimer$Pot", "due", "()I"⟩ yX5_due, Cond.methodLink RX5 27 yX5_due, Cond.selects RX5 yX5_due yX5_due, Cond.selects RX6 ⟨"OneTimer$Pot", "due", "()I"⟩ yX5_due, Cond.selects RX7 ⟨"OneTimer$Pot", "due", "()I"⟩ yX5_due, Cond.methodLink RX5 31 ⟨"OneTimer$Pot", "keeps", "()I"⟩, Cond.sameMethod "OneTimer$Pot" "OneTimer$Pot" "keeps" "()I"]
def wsX9_best_r3 : List Cond := [Cond.instanceMethod ⟨"OneTimer$Pot", "keeps", "()I"⟩, Cond.selects RX0 ⟨"OneTimer$Pot", "keeps", "()I"⟩ yX0_keeps, Cond.instanceMethod yX0_keeps, Cond.initialized RX0, Cond.code yX0_keeps cX0_keeps 1 (some .int), Cond.methodLink RX0 7 yX6_keeps, Cond.sameMethod "OneTimer$Rice" "OneTimer$Rice" "keeps" "()I", Cond.superclass RX0 RX6, Cond.instanceMethod yX6_keeps, Cond.initialized RX6, Cond.code yX6_keeps cX6_keeps 1 (some .int), Cond.code yX5_keeps cX5_keeps 1 (some .int), Cond.selects RX2 ⟨"OneTimer$Pot", "keeps", "()I"⟩ yX2_keeps, Cond.instanceMethod yX2_keeps, Cond.initialized RX2, Cond.code yX2_keeps cX2_keeps 1 (some .int), Cond.methodLink RX5 31 yX5_keeps, Cond.instanceMethod yX5_keeps, Cond.selects RX5 yX5_keeps yX5_keeps, Cond.selects RX6 ⟨"OneTimer$Pot", "keeps", "()I"⟩ yX6_keeps, Cond.selects RX7 ⟨"OneTimer$Pot", "keeps", "()I"⟩ yX7_keeps, Cond.instanceMethod yX7_keeps, Cond.initialized RX7, Cond.code yX7_keeps cX7_keeps 1 (some .int)]
def wsX9_best_r4 : List Cond := [Cond.static yX9_outBy, Cond.code yX9_outBy cX9_outBy 2 (some .int), Cond.selects RX2 ⟨"OneTimer$Pot", "outAt", "(I)I"⟩ yX5_outAt, Cond.methodLink RX5 38 yX5_outAt, Cond.selects RX5 yX5_outAt yX5_outAt, Cond.selects RX6 ⟨"OneTimer$Pot", "outAt", "(I)I"⟩ yX5_outAt, Cond.selects RX7 ⟨"OneTimer$Pot", "outAt", "(I)I"⟩ yX5_outAt, Cond.selects RX2 ⟨"OneTimer$Pot", "sureAt", "(I)I"⟩ yX5_sureAt, Cond.methodLink RX9 196 yX5_sureAt, Cond.selects RX5 yX5_sureAt yX5_sureAt, Cond.selects RX6 ⟨"OneTimer$Pot", "sureAt", "(I)I"⟩ yX5_sureAt, Cond.selects RX7 ⟨"OneTimer$Pot", "sureAt", "(I)I"⟩ yX5_sureAt]
def wsX9_best : List Cond := .code yX9_best cX9_best 3 (some .int) :: ((wsX9_best_r1 ++ (wsX9_best_r2 ++ (wsX9_best_r3 ++ wsX9_best_r4))) ++ wsX90 ++ wsX00 ++ wsX20 ++ wsX50 ++ wsX60 ++ wsX70)
def wsX9_together : List Cond := .code yX9_together cX9_together 5 (some .int) :: ([.fieldLink RX9 142 "OneTimer$Pot" "wants" "I", .fieldLink RX9 106 "OneTimer" "minute" "I", .methodLink RX9 135 yX9_potAt, .instanceMethod yX9_potAt, .selects RX9 yX9_potAt yX9_potAt, .initialized RX9, .code yX9_potAt cX9_potAt 2 (some (.object "OneTimer$Pot")), .fieldLink RX9 83 "OneTimer" "potCount" "I", .fieldLink RX9 18 "OneTimer" "pots" "[LOneTimer$Pot;"] ++ wsX00 ++ wsX20 ++ wsX50 ++ wsX60 ++ wsX70 ++ wsX90)
def wsX9_tell_r1 : List Cond := [Cond.fieldLink RX9 25 "OneTimer" "told" "LOneTimer$Told;", Cond.fieldLink RX9 106 "OneTimer" "minute" "I", Cond.fieldLink RX9 115 "OneTimer$Told" "size" "I", Cond.methodLink RX9 135 yX9_potAt, Cond.instanceMethod yX9_potAt, Cond.selects RX9 yX9_potAt yX9_potAt, Cond.initialized RX9, Cond.code yX9_potAt cX9_potAt 2 (some (.object "OneTimer$Pot")), Cond.fieldLink RX9 83 "OneTimer" "potCount" "I", Cond.fieldLink RX9 18 "OneTimer" "pots" "[LOneTimer$Pot;", Cond.methodLink RX9 151 ⟨"OneTimer$Pot", "boils", "()Z"⟩, Cond.sameMethod "OneTimer$Pot" "OneTimer$Pot" "boils" "()Z", Cond.selects RX0 ⟨"OneTimer$Pot", "boils", "()Z"⟩ yX5_boils, Cond.instanceMethod yX5_boils, Cond.initialized RX5, Cond.code yX5_boils cX5_boils 1 (some .boolean), Cond.fieldLink RX5 9 "OneTimer$Pot" "since" "I", Cond.selects RX2 ⟨"OneTimer$Pot", "boils", "()Z"⟩ yX5_boils, Cond.methodLink RX9 151 yX5_boils, Cond.selects RX5 yX5_boils yX5_boils, Cond.selects RX6 ⟨"OneTimer$Pot", "boils", "()Z"⟩ yX5_boils, Cond.selects RX7 ⟨"OneTimer$Pot", "boils", "()Z"⟩ yX5_boils, Cond.methodLink RX9 154 ⟨"OneTimer$Pot", "due", "()I"⟩, Cond.sameMethod "OneTimer$Pot" "OneTimer$Pot" "due" "()I"]
def wsX9_tell_r2 : List Cond := [Cond.selects RX0 ⟨"OneTimer$Pot", "due", "()I"⟩ yX5_due, Cond.instanceMethod yX5_due, Cond.code yX5_due cX5_due 1 (some .int), Cond.fieldLink RX5 24 "OneTimer$Pot" "wants" "I", Cond.selects RX2 ⟨"OneTimer$Pot", "due", "()I"⟩ yX5_due, Cond.methodLink RX9 154 yX5_due, Cond.selects RX5 yX5_due yX5_due, Cond.selects RX6 ⟨"OneTimer$Pot", "due", "()I"⟩ yX5_due, Cond.selects RX7 ⟨"OneTimer$Pot", "due", "()I"⟩ yX5_due, Cond.methodLink RX9 145 ⟨"OneTimer$Pot", "keeps", "()I"⟩, Cond.sameMethod "OneTimer$Pot" "OneTimer$Pot" "keeps" "()I", Cond.instanceMethod ⟨"OneTimer$Pot", "keeps", "()I"⟩, Cond.selects RX0 ⟨"OneTimer$Pot", "keeps", "()I"⟩ yX0_keeps, Cond.instanceMethod yX0_keeps, Cond.initialized RX0, Cond.code yX0_keeps cX0_keeps 1 (some .int), Cond.methodLink RX0 7 yX6_keeps, Cond.sameMethod "OneTimer$Rice" "OneTimer$Rice" "keeps" "()I", Cond.superclass RX0 RX6, Cond.instanceMethod yX6_keeps, Cond.initialized RX6, Cond.code yX6_keeps cX6_keeps 1 (some .int), Cond.code yX5_keeps cX5_keeps 1 (some .int), Cond.selects RX2 ⟨"OneTimer$Pot", "keeps", "()I"⟩ yX2_keeps]
def wsX9_tell_r3 : List Cond := [Cond.instanceMethod yX2_keeps, Cond.initialized RX2, Cond.code yX2_keeps cX2_keeps 1 (some .int), Cond.methodLink RX9 145 yX5_keeps, Cond.instanceMethod yX5_keeps, Cond.selects RX5 yX5_keeps yX5_keeps, Cond.selects RX6 ⟨"OneTimer$Pot", "keeps", "()I"⟩ yX6_keeps, Cond.selects RX7 ⟨"OneTimer$Pot", "keeps", "()I"⟩ yX7_keeps, Cond.instanceMethod yX7_keeps, Cond.initialized RX7, Cond.code yX7_keeps cX7_keeps 1 (some .int), Cond.methodLink RX9 203 yX8_add, Cond.instanceMethod yX8_add, Cond.selects RX8 yX8_add yX8_add, Cond.initialized RX8, Cond.code yX8_add cX8_add 4 (some .boolean), Cond.fieldLink RX8 19 "OneTimer$Told" "size" "I", Cond.fieldLink RX8 9 "OneTimer$Told" "untilDue" "[I", Cond.fieldLink RX8 13 "OneTimer$Told" "keeps" "[I", Cond.fieldLink RX8 16 "OneTimer$Told" "outs" "[I"]
def wsX9_tell : List Cond := .code yX9_tell cX9_tell 4 (some .int) :: ((wsX9_tell_r1 ++ (wsX9_tell_r2 ++ wsX9_tell_r3)) ++ wsX90 ++ wsX80 ++ wsX00 ++ wsX20 ++ wsX50 ++ wsX60 ++ wsX70)
def wsX9_forget : List Cond := .code yX9_forget cX9_forget 2 (some .int) :: ([.fieldLink RX9 25 "OneTimer" "told" "LOneTimer$Told;", .fieldLink RX9 115 "OneTimer$Told" "size" "I"] ++ wsX90 ++ wsX80)
def wsX9_windingsThatFit : List Cond := .code yX9_windingsThatFit cX9_windingsThatFit 3 (some .int) :: ([.fieldLink RX9 68 "OneTimer" "spring" "I", .fieldLink RX9 25 "OneTimer" "told" "LOneTimer$Told;", .methodLink RX9 212 yX8_fits, .instanceMethod yX8_fits, .selects RX8 yX8_fits yX8_fits, .initialized RX8, .code yX8_fits cX8_fits 3 (some .boolean), .fieldLink RX8 19 "OneTimer$Told" "size" "I", .fieldLink RX8 9 "OneTimer$Told" "untilDue" "[I", .fieldLink RX8 13 "OneTimer$Told" "keeps" "[I", .fieldLink RX8 16 "OneTimer$Told" "outs" "[I", .static yX9_outBy, .initialized RX9, .code yX9_outBy cX9_outBy 2 (some .int)] ++ wsX90 ++ wsX80)
def wsX9_leastThatFits : List Cond := .code yX9_leastThatFits cX9_leastThatFits 2 (some .int) :: ([.fieldLink RX9 68 "OneTimer" "spring" "I", .fieldLink RX9 25 "OneTimer" "told" "LOneTimer$Told;", .methodLink RX9 212 yX8_fits, .instanceMethod yX8_fits, .selects RX8 yX8_fits yX8_fits, .initialized RX8, .code yX8_fits cX8_fits 3 (some .boolean), .fieldLink RX8 19 "OneTimer$Told" "size" "I", .fieldLink RX8 9 "OneTimer$Told" "untilDue" "[I", .fieldLink RX8 13 "OneTimer$Told" "keeps" "[I", .fieldLink RX8 16 "OneTimer$Told" "outs" "[I", .static yX9_outBy, .initialized RX9, .code yX9_outBy cX9_outBy 2 (some .int)] ++ wsX90 ++ wsX80)
def wsX9_wound_r1 : List Cond := [Cond.methodLink RX9 170 yX9_hasKitchen, Cond.instanceMethod yX9_hasKitchen, Cond.selects RX9 yX9_hasKitchen yX9_hasKitchen, Cond.initialized RX9, Cond.code yX9_hasKitchen cX9_hasKitchen 1 (some .boolean), Cond.fieldLink RX9 83 "OneTimer" "potCount" "I", Cond.methodLink RX9 206 yX9_windingsThatFit, Cond.instanceMethod yX9_windingsThatFit, Cond.selects RX9 yX9_windingsThatFit yX9_windingsThatFit, Cond.code yX9_windingsThatFit cX9_windingsThatFit 3 (some .int), Cond.fieldLink RX9 68 "OneTimer" "spring" "I", Cond.fieldLink RX9 25 "OneTimer" "told" "LOneTimer$Told;", Cond.methodLink RX9 212 yX8_fits, Cond.instanceMethod yX8_fits, Cond.selects RX8 yX8_fits yX8_fits, Cond.initialized RX8, Cond.code yX8_fits cX8_fits 3 (some .boolean), Cond.fieldLink RX8 19 "OneTimer$Told" "size" "I", Cond.fieldLink RX8 9 "OneTimer$Told" "untilDue" "[I", Cond.fieldLink RX8 13 "OneTimer$Told" "keeps" "[I", Cond.fieldLink RX8 16 "OneTimer$Told" "outs" "[I", Cond.static yX9_outBy, Cond.code yX9_outBy cX9_outBy 2 (some .int), Cond.methodLink RX9 209 yX9_leastThatFits]
def wsX9_wound_r2 : List Cond := [Cond.instanceMethod yX9_leastThatFits, Cond.selects RX9 yX9_leastThatFits yX9_leastThatFits, Cond.code yX9_leastThatFits cX9_leastThatFits 2 (some .int)]
def wsX9_wound : List Cond := .code yX9_wound cX9_wound 2 (some .int) :: ((wsX9_wound_r1 ++ wsX9_wound_r2) ++ wsX90 ++ wsX80)
def wsX9_evenings_r1 : List Cond := [Cond.fieldLink RX9 42 "OneTimer" "draws" "LOneTimer$Draws;", Cond.fieldLink RX9 215 "OneTimer$Draws" "seed" "I", Cond.fieldLink RX9 68 "OneTimer" "spring" "I", Cond.fieldLink RX9 83 "OneTimer" "potCount" "I", Cond.fieldLink RX9 142 "OneTimer$Pot" "wants" "I", Cond.methodLink RX9 170 yX9_hasKitchen, Cond.instanceMethod yX9_hasKitchen, Cond.selects RX9 yX9_hasKitchen yX9_hasKitchen, Cond.initialized RX9, Cond.code yX9_hasKitchen cX9_hasKitchen 1 (some .boolean), Cond.methodLink RX9 218 yX1_next, Cond.instanceMethod yX1_next, Cond.selects RX1 yX1_next yX1_next, Cond.initialized RX1, Cond.code yX1_next cX1_next 2 (some .int), Cond.constantLong RX1 7 (1103515245), Cond.fieldLink RX1 9 "OneTimer$Draws" "seed" "I", Cond.constantLong RX1 15 (12345), Cond.constantLong RX1 17 (2147483647), Cond.constant RX1 19 (65536), Cond.methodLink RX9 135 yX9_potAt, Cond.instanceMethod yX9_potAt, Cond.selects RX9 yX9_potAt yX9_potAt, Cond.code yX9_potAt cX9_potAt 2 (some (.object "OneTimer$Pot"))]
def wsX9_evenings_r2 : List Cond := [Cond.fieldLink RX9 18 "OneTimer" "pots" "[LOneTimer$Pot;", Cond.methodLink RX9 145 ⟨"OneTimer$Pot", "keeps", "()I"⟩, Cond.sameMethod "OneTimer$Pot" "OneTimer$Pot" "keeps" "()I", Cond.instanceMethod ⟨"OneTimer$Pot", "keeps", "()I"⟩, Cond.selects RX0 ⟨"OneTimer$Pot", "keeps", "()I"⟩ yX0_keeps, Cond.instanceMethod yX0_keeps, Cond.initialized RX0, Cond.code yX0_keeps cX0_keeps 1 (some .int), Cond.methodLink RX0 7 yX6_keeps, Cond.sameMethod "OneTimer$Rice" "OneTimer$Rice" "keeps" "()I", Cond.superclass RX0 RX6, Cond.instanceMethod yX6_keeps, Cond.initialized RX6, Cond.code yX6_keeps cX6_keeps 1 (some .int), Cond.code yX5_keeps cX5_keeps 1 (some .int), Cond.selects RX2 ⟨"OneTimer$Pot", "keeps", "()I"⟩ yX2_keeps, Cond.instanceMethod yX2_keeps, Cond.initialized RX2, Cond.code yX2_keeps cX2_keeps 1 (some .int), Cond.methodLink RX9 145 yX5_keeps, Cond.instanceMethod yX5_keeps, Cond.selects RX5 yX5_keeps yX5_keeps, Cond.initialized RX5, Cond.selects RX6 ⟨"OneTimer$Pot", "keeps", "()I"⟩ yX6_keeps]
def wsX9_evenings_r3 : List Cond := [Cond.selects RX7 ⟨"OneTimer$Pot", "keeps", "()I"⟩ yX7_keeps, Cond.instanceMethod yX7_keeps, Cond.initialized RX7, Cond.code yX7_keeps cX7_keeps 1 (some .int), Cond.methodLink RX9 221 yX9_outBy, Cond.static yX9_outBy, Cond.code yX9_outBy cX9_outBy 2 (some .int)]
def wsX9_evenings : List Cond := .code yX9_evenings cX9_evenings 12 (some .int) :: ((wsX9_evenings_r1 ++ (wsX9_evenings_r2 ++ wsX9_evenings_r3)) ++ wsX90 ++ wsX10 ++ wsX00 ++ wsX20 ++ wsX50 ++ wsX60 ++ wsX70)
def wsX9_image_r1 : List Cond := [Cond.fieldLink RX9 116 "OneTimer" "hasImage" "Z", Cond.fieldLink RX9 106 "OneTimer" "minute" "I", Cond.fieldLink RX9 224 "OneTimer" "keptMinute" "I", Cond.fieldLink RX9 109 "OneTimer" "free" "I", Cond.fieldLink RX9 227 "OneTimer" "keptFree" "I", Cond.fieldLink RX9 112 "OneTimer" "windings" "I", Cond.fieldLink RX9 230 "OneTimer" "keptWindings" "I", Cond.fieldLink RX9 29 "OneTimer" "keptTold" "LOneTimer$Told;", Cond.fieldLink RX9 25 "OneTimer" "told" "LOneTimer$Told;", Cond.fieldLink RX9 83 "OneTimer" "potCount" "I", Cond.methodLink RX9 170 yX9_hasKitchen, Cond.instanceMethod yX9_hasKitchen, Cond.selects RX9 yX9_hasKitchen yX9_hasKitchen, Cond.initialized RX9, Cond.code yX9_hasKitchen cX9_hasKitchen 1 (some .boolean), Cond.methodLink RX9 233 yX8_copyFrom, Cond.instanceMethod yX8_copyFrom, Cond.selects RX8 yX8_copyFrom yX8_copyFrom, Cond.initialized RX8, Cond.code yX8_copyFrom cX8_copyFrom 3 none, Cond.fieldLink RX8 9 "OneTimer$Told" "untilDue" "[I", Cond.fieldLink RX8 13 "OneTimer$Told" "keeps" "[I", Cond.fieldLink RX8 16 "OneTimer$Told" "outs" "[I", Cond.fieldLink RX8 19 "OneTimer$Told" "size" "I"]
def wsX9_image_r2 : List Cond := [Cond.methodLink RX9 135 yX9_potAt, Cond.instanceMethod yX9_potAt, Cond.selects RX9 yX9_potAt yX9_potAt, Cond.code yX9_potAt cX9_potAt 2 (some (.object "OneTimer$Pot")), Cond.fieldLink RX9 18 "OneTimer" "pots" "[LOneTimer$Pot;", Cond.methodLink RX9 237 ⟨"OneTimer$Pot", "keepImage", "()V"⟩, Cond.sameMethod "OneTimer$Pot" "OneTimer$Pot" "keepImage" "()V", Cond.selects RX0 ⟨"OneTimer$Pot", "keepImage", "()V"⟩ yX5_keepImage, Cond.instanceMethod yX5_keepImage, Cond.initialized RX5, Cond.code yX5_keepImage cX5_keepImage 1 none, Cond.fieldLink RX5 9 "OneTimer$Pot" "since" "I", Cond.fieldLink RX5 18 "OneTimer$Pot" "keptSince" "I", Cond.fieldLink RX5 42 "OneTimer$Pot" "timesTaken" "I", Cond.fieldLink RX5 45 "OneTimer$Pot" "keptTimesTaken" "I", Cond.fieldLink RX5 15 "OneTimer$Pot" "lastOut" "I", Cond.fieldLink RX5 21 "OneTimer$Pot" "keptLastOut" "I", Cond.selects RX2 ⟨"OneTimer$Pot", "keepImage", "()V"⟩ yX5_keepImage, Cond.methodLink RX9 237 yX5_keepImage, Cond.selects RX5 yX5_keepImage yX5_keepImage, Cond.selects RX6 ⟨"OneTimer$Pot", "keepImage", "()V"⟩ yX5_keepImage, Cond.selects RX7 ⟨"OneTimer$Pot", "keepImage", "()V"⟩ yX5_keepImage]
def wsX9_image : List Cond := .code yX9_image cX9_image 3 (some .int) :: ((wsX9_image_r1 ++ wsX9_image_r2) ++ wsX90 ++ wsX80 ++ wsX00 ++ wsX20 ++ wsX50 ++ wsX60 ++ wsX70)
def wsX9_restore_r1 : List Cond := [Cond.fieldLink RX9 116 "OneTimer" "hasImage" "Z", Cond.fieldLink RX9 224 "OneTimer" "keptMinute" "I", Cond.fieldLink RX9 106 "OneTimer" "minute" "I", Cond.fieldLink RX9 227 "OneTimer" "keptFree" "I", Cond.fieldLink RX9 109 "OneTimer" "free" "I", Cond.fieldLink RX9 230 "OneTimer" "keptWindings" "I", Cond.fieldLink RX9 112 "OneTimer" "windings" "I", Cond.fieldLink RX9 25 "OneTimer" "told" "LOneTimer$Told;", Cond.fieldLink RX9 29 "OneTimer" "keptTold" "LOneTimer$Told;", Cond.fieldLink RX9 83 "OneTimer" "potCount" "I", Cond.methodLink RX9 233 yX8_copyFrom, Cond.instanceMethod yX8_copyFrom, Cond.selects RX8 yX8_copyFrom yX8_copyFrom, Cond.initialized RX8, Cond.code yX8_copyFrom cX8_copyFrom 3 none, Cond.fieldLink RX8 9 "OneTimer$Told" "untilDue" "[I", Cond.fieldLink RX8 13 "OneTimer$Told" "keeps" "[I", Cond.fieldLink RX8 16 "OneTimer$Told" "outs" "[I", Cond.fieldLink RX8 19 "OneTimer$Told" "size" "I", Cond.methodLink RX9 135 yX9_potAt, Cond.instanceMethod yX9_potAt, Cond.selects RX9 yX9_potAt yX9_potAt, Cond.initialized RX9, Cond.code yX9_potAt cX9_potAt 2 (some (.object "OneTimer$Pot"))]
def wsX9_restore_r2 : List Cond := [Cond.fieldLink RX9 18 "OneTimer" "pots" "[LOneTimer$Pot;", Cond.methodLink RX9 240 ⟨"OneTimer$Pot", "goBack", "()V"⟩, Cond.sameMethod "OneTimer$Pot" "OneTimer$Pot" "goBack" "()V", Cond.selects RX0 ⟨"OneTimer$Pot", "goBack", "()V"⟩ yX5_goBack, Cond.instanceMethod yX5_goBack, Cond.initialized RX5, Cond.code yX5_goBack cX5_goBack 1 none, Cond.fieldLink RX5 18 "OneTimer$Pot" "keptSince" "I", Cond.fieldLink RX5 9 "OneTimer$Pot" "since" "I", Cond.fieldLink RX5 45 "OneTimer$Pot" "keptTimesTaken" "I", Cond.fieldLink RX5 42 "OneTimer$Pot" "timesTaken" "I", Cond.fieldLink RX5 21 "OneTimer$Pot" "keptLastOut" "I", Cond.fieldLink RX5 15 "OneTimer$Pot" "lastOut" "I", Cond.selects RX2 ⟨"OneTimer$Pot", "goBack", "()V"⟩ yX5_goBack, Cond.methodLink RX9 240 yX5_goBack, Cond.selects RX5 yX5_goBack yX5_goBack, Cond.selects RX6 ⟨"OneTimer$Pot", "goBack", "()V"⟩ yX5_goBack, Cond.selects RX7 ⟨"OneTimer$Pot", "goBack", "()V"⟩ yX5_goBack]
def wsX9_restore : List Cond := .code yX9_restore cX9_restore 3 (some .int) :: ((wsX9_restore_r1 ++ wsX9_restore_r2) ++ wsX90 ++ wsX80 ++ wsX00 ++ wsX20 ++ wsX50 ++ wsX60 ++ wsX70)
def wsX9_potsThatBoil : List Cond := .code yX9_potsThatBoil cX9_potsThatBoil 4 (some .int) :: ([.fieldLink RX9 83 "OneTimer" "potCount" "I", .methodLink RX9 135 yX9_potAt, .instanceMethod yX9_potAt, .selects RX9 yX9_potAt yX9_potAt, .initialized RX9, .code yX9_potAt cX9_potAt 2 (some (.object "OneTimer$Pot")), .fieldLink RX9 18 "OneTimer" "pots" "[LOneTimer$Pot;", .methodLink RX9 151 ⟨"OneTimer$Pot", "boils", "()Z"⟩, .sameMethod "OneTimer$Pot" "OneTimer$Pot" "boils" "()Z", .selects RX0 ⟨"OneTimer$Pot", "boils", "()Z"⟩ yX5_boils, .instanceMethod yX5_boils, .initialized RX5, .code yX5_boils cX5_boils 1 (some .boolean), .fieldLink RX5 9 "OneTimer$Pot" "since" "I", .selects RX2 ⟨"OneTimer$Pot", "boils", "()Z"⟩ yX5_boils, .methodLink RX9 151 yX5_boils, .selects RX5 yX5_boils yX5_boils, .selects RX6 ⟨"OneTimer$Pot", "boils", "()Z"⟩ yX5_boils, .selects RX7 ⟨"OneTimer$Pot", "boils", "()Z"⟩ yX5_boils] ++ wsX90 ++ wsX00 ++ wsX20 ++ wsX50 ++ wsX60 ++ wsX70)
def wsX9_count_r1 : List Cond := [Cond.fieldLink RX9 83 "OneTimer" "potCount" "I", Cond.fieldLink RX9 68 "OneTimer" "spring" "I", Cond.fieldLink RX9 74 "OneTimer" "hands" "I", Cond.fieldLink RX9 106 "OneTimer" "minute" "I", Cond.fieldLink RX9 109 "OneTimer" "free" "I", Cond.fieldLink RX9 112 "OneTimer" "windings" "I", Cond.fieldLink RX9 25 "OneTimer" "told" "LOneTimer$Told;", Cond.fieldLink RX9 115 "OneTimer$Told" "size" "I", Cond.fieldLink RX9 10 "OneTimer" "page" "LOneTimer$Page;", Cond.fieldLink RX9 50 "OneTimer$Page" "size" "I", Cond.fieldLink RX9 80 "OneTimer" "kitchensRead" "I", Cond.fieldLink RX9 176 "OneTimer" "plansDone" "I", Cond.methodLink RX9 243 yX9_potsThatBoil, Cond.instanceMethod yX9_potsThatBoil, Cond.selects RX9 yX9_potsThatBoil yX9_potsThatBoil, Cond.initialized RX9, Cond.code yX9_potsThatBoil cX9_potsThatBoil 4 (some .int), Cond.methodLink RX9 135 yX9_potAt, Cond.instanceMethod yX9_potAt, Cond.selects RX9 yX9_potAt yX9_potAt, Cond.code yX9_potAt cX9_potAt 2 (some (.object "OneTimer$Pot")), Cond.fieldLink RX9 18 "OneTimer" "pots" "[LOneTimer$Pot;", Cond.methodLink RX9 151 ⟨"OneTimer$Pot", "boils", "()Z"⟩, Cond.sameMethod "OneTimer$Pot" "OneTimer$Pot" "boils" "()Z"]
def wsX9_count_r2 : List Cond := [Cond.selects RX0 ⟨"OneTimer$Pot", "boils", "()Z"⟩ yX5_boils, Cond.instanceMethod yX5_boils, Cond.initialized RX5, Cond.code yX5_boils cX5_boils 1 (some .boolean), Cond.fieldLink RX5 9 "OneTimer$Pot" "since" "I", Cond.selects RX2 ⟨"OneTimer$Pot", "boils", "()Z"⟩ yX5_boils, Cond.methodLink RX9 151 yX5_boils, Cond.selects RX5 yX5_boils yX5_boils, Cond.selects RX6 ⟨"OneTimer$Pot", "boils", "()Z"⟩ yX5_boils, Cond.selects RX7 ⟨"OneTimer$Pot", "boils", "()Z"⟩ yX5_boils]
def wsX9_count : List Cond := .code yX9_count cX9_count 2 (some .int) :: ((wsX9_count_r1 ++ wsX9_count_r2) ++ wsX90 ++ wsX80 ++ wsX30 ++ wsX00 ++ wsX20 ++ wsX50 ++ wsX60 ++ wsX70)
def wsX9_digestOfPot_r1 : List Cond := [Cond.constantLong RX9 252 (31), Cond.methodLink RX9 263 yX9_about, Cond.instanceMethod yX9_about, Cond.selects RX9 yX9_about yX9_about, Cond.initialized RX9, Cond.code yX9_about cX9_about 4 (some .int), Cond.fieldLink RX9 142 "OneTimer$Pot" "wants" "I", Cond.fieldLink RX9 148 "OneTimer$Pot" "since" "I", Cond.fieldLink RX9 106 "OneTimer" "minute" "I", Cond.fieldLink RX9 160 "OneTimer$Pot" "timesTaken" "I", Cond.fieldLink RX9 163 "OneTimer$Pot" "lastOut" "I", Cond.methodLink RX9 135 yX9_potAt, Cond.instanceMethod yX9_potAt, Cond.selects RX9 yX9_potAt yX9_potAt, Cond.code yX9_potAt cX9_potAt 2 (some (.object "OneTimer$Pot")), Cond.fieldLink RX9 83 "OneTimer" "potCount" "I", Cond.fieldLink RX9 18 "OneTimer" "pots" "[LOneTimer$Pot;", Cond.methodLink RX9 139 ⟨"OneTimer$Pot", "kind", "()I"⟩, Cond.sameMethod "OneTimer$Pot" "OneTimer$Pot" "kind" "()I", Cond.instanceMethod ⟨"OneTimer$Pot", "kind", "()I"⟩, Cond.selects RX0 ⟨"OneTimer$Pot", "kind", "()I"⟩ yX0_kind, Cond.instanceMethod yX0_kind, Cond.initialized RX0, Cond.code yX0_kind cX0_kind 1 (some .int)]
def wsX9_digestOfPot_r2 : List Cond := [Cond.code yX5_kind cX5_kind 1 (some .int), Cond.selects RX2 ⟨"OneTimer$Pot", "kind", "()I"⟩ yX2_kind, Cond.instanceMethod yX2_kind, Cond.initialized RX2, Cond.code yX2_kind cX2_kind 1 (some .int), Cond.methodLink RX9 139 yX5_kind, Cond.instanceMethod yX5_kind, Cond.selects RX5 yX5_kind yX5_kind, Cond.initialized RX5, Cond.selects RX6 ⟨"OneTimer$Pot", "kind", "()I"⟩ yX6_kind, Cond.instanceMethod yX6_kind, Cond.initialized RX6, Cond.code yX6_kind cX6_kind 1 (some .int), Cond.selects RX7 ⟨"OneTimer$Pot", "kind", "()I"⟩ yX7_kind, Cond.instanceMethod yX7_kind, Cond.initialized RX7, Cond.code yX7_kind cX7_kind 1 (some .int), Cond.methodLink RX9 145 ⟨"OneTimer$Pot", "keeps", "()I"⟩, Cond.sameMethod "OneTimer$Pot" "OneTimer$Pot" "keeps" "()I", Cond.instanceMethod ⟨"OneTimer$Pot", "keeps", "()I"⟩, Cond.selects RX0 ⟨"OneTimer$Pot", "keeps", "()I"⟩ yX0_keeps, Cond.instanceMethod yX0_keeps, Cond.code yX0_keeps cX0_keeps 1 (some .int), Cond.methodLink RX0 7 yX6_keeps]
def wsX9_digestOfPot_r3 : List Cond := [Cond.sameMethod "OneTimer$Rice" "OneTimer$Rice" "keeps" "()I", Cond.superclass RX0 RX6, Cond.instanceMethod yX6_keeps, Cond.code yX6_keeps cX6_keeps 1 (some .int), Cond.code yX5_keeps cX5_keeps 1 (some .int), Cond.selects RX2 ⟨"OneTimer$Pot", "keeps", "()I"⟩ yX2_keeps, Cond.instanceMethod yX2_keeps, Cond.code yX2_keeps cX2_keeps 1 (some .int), Cond.methodLink RX9 145 yX5_keeps, Cond.instanceMethod yX5_keeps, Cond.selects RX5 yX5_keeps yX5_keeps, Cond.selects RX6 ⟨"OneTimer$Pot", "keeps", "()I"⟩ yX6_keeps, Cond.selects RX7 ⟨"OneTimer$Pot", "keeps", "()I"⟩ yX7_keeps, Cond.instanceMethod yX7_keeps, Cond.code yX7_keeps cX7_keeps 1 (some .int), Cond.methodLink RX9 151 ⟨"OneTimer$Pot", "boils", "()Z"⟩, Cond.sameMethod "OneTimer$Pot" "OneTimer$Pot" "boils" "()Z", Cond.selects RX0 ⟨"OneTimer$Pot", "boils", "()Z"⟩ yX5_boils, Cond.instanceMethod yX5_boils, Cond.code yX5_boils cX5_boils 1 (some .boolean), Cond.fieldLink RX5 9 "OneTimer$Pot" "since" "I", Cond.selects RX2 ⟨"OneTimer$Pot", "boils", "()Z"⟩ yX5_boils, Cond.methodLink RX9 151 yX5_boils, Cond.selects RX5 yX5_boils yX5_boils]
def wsX9_digestOfPot_r4 : List Cond := [Cond.selects RX6 ⟨"OneTimer$Pot", "boils", "()Z"⟩ yX5_boils, Cond.selects RX7 ⟨"OneTimer$Pot", "boils", "()Z"⟩ yX5_boils, Cond.methodLink RX9 154 ⟨"OneTimer$Pot", "due", "()I"⟩, Cond.sameMethod "OneTimer$Pot" "OneTimer$Pot" "due" "()I", Cond.selects RX0 ⟨"OneTimer$Pot", "due", "()I"⟩ yX5_due, Cond.instanceMethod yX5_due, Cond.code yX5_due cX5_due 1 (some .int), Cond.fieldLink RX5 24 "OneTimer$Pot" "wants" "I", Cond.selects RX2 ⟨"OneTimer$Pot", "due", "()I"⟩ yX5_due, Cond.methodLink RX9 154 yX5_due, Cond.selects RX5 yX5_due yX5_due, Cond.selects RX6 ⟨"OneTimer$Pot", "due", "()I"⟩ yX5_due, Cond.selects RX7 ⟨"OneTimer$Pot", "due", "()I"⟩ yX5_due, Cond.methodLink RX9 157 ⟨"OneTimer$Pot", "outAt", "(I)I"⟩, Cond.sameMethod "OneTimer$Pot" "OneTimer$Pot" "outAt" "(I)I", Cond.selects RX0 ⟨"OneTimer$Pot", "outAt", "(I)I"⟩ yX5_outAt, Cond.instanceMethod yX5_outAt, Cond.code yX5_outAt cX5_outAt 2 (some .int), Cond.methodLink RX5 27 ⟨"OneTimer$Pot", "due", "()I"⟩, Cond.methodLink RX5 27 yX5_due, Cond.methodLink RX5 31 ⟨"OneTimer$Pot", "keeps", "()I"⟩, Cond.methodLink RX5 31 yX5_keeps, Cond.static yX9_outBy, Cond.code yX9_outBy cX9_outBy 2 (some .int)]
def wsX9_digestOfPot_r5 : List Cond := [Cond.selects RX2 ⟨"OneTimer$Pot", "outAt", "(I)I"⟩ yX5_outAt, Cond.methodLink RX9 157 yX5_outAt, Cond.selects RX5 yX5_outAt yX5_outAt, Cond.selects RX6 ⟨"OneTimer$Pot", "outAt", "(I)I"⟩ yX5_outAt, Cond.selects RX7 ⟨"OneTimer$Pot", "outAt", "(I)I"⟩ yX5_outAt, Cond.methodLink RX9 199 yX9_bestWinding, Cond.instanceMethod yX9_bestWinding, Cond.selects RX9 yX9_bestWinding yX9_bestWinding, Cond.code yX9_bestWinding cX9_bestWinding 6 (some .int), Cond.fieldLink RX9 68 "OneTimer" "spring" "I", Cond.methodLink RX9 196 ⟨"OneTimer$Pot", "sureAt", "(I)I"⟩, Cond.sameMethod "OneTimer$Pot" "OneTimer$Pot" "sureAt" "(I)I", Cond.selects RX0 ⟨"OneTimer$Pot", "sureAt", "(I)I"⟩ yX5_sureAt, Cond.instanceMethod yX5_sureAt, Cond.code yX5_sureAt cX5_sureAt 3 (some .int), Cond.methodLink RX5 38 ⟨"OneTimer$Pot", "outAt", "(I)I"⟩, Cond.methodLink RX5 38 yX5_outAt, Cond.selects RX2 ⟨"OneTimer$Pot", "sureAt", "(I)I"⟩ yX5_sureAt, Cond.methodLink RX9 196 yX5_sureAt, Cond.selects RX5 yX5_sureAt yX5_sureAt, Cond.selects RX6 ⟨"OneTimer$Pot", "sureAt", "(I)I"⟩ yX5_sureAt, Cond.selects RX7 ⟨"OneTimer$Pot", "sureAt", "(I)I"⟩ yX5_sureAt, Cond.methodLink RX9 266 yX9_together, Cond.instanceMethod yX9_together]
def wsX9_digestOfPot_r6 : List Cond := [Cond.selects RX9 yX9_together yX9_together, Cond.code yX9_together cX9_together 5 (some .int)]
def wsX9_digestOfPot : List Cond := .code yX9_digestOfPot cX9_digestOfPot 7 (some .long) :: ((wsX9_digestOfPot_r1 ++ (wsX9_digestOfPot_r2 ++ (wsX9_digestOfPot_r3 ++ (wsX9_digestOfPot_r4 ++ (wsX9_digestOfPot_r5 ++ wsX9_digestOfPot_r6))))) ++ wsX00 ++ wsX20 ++ wsX50 ++ wsX60 ++ wsX70 ++ wsX90)
def wsX9_digest_r1 : List Cond := [Cond.constantLong RX9 246 (929), Cond.fieldLink RX9 83 "OneTimer" "potCount" "I", Cond.constantLong RX9 252 (31), Cond.fieldLink RX9 10 "OneTimer" "page" "LOneTimer$Page;", Cond.fieldLink RX9 50 "OneTimer$Page" "size" "I", Cond.methodLink RX9 248 yX9_digestOfPot, Cond.instanceMethod yX9_digestOfPot, Cond.selects RX9 yX9_digestOfPot yX9_digestOfPot, Cond.initialized RX9, Cond.code yX9_digestOfPot cX9_digestOfPot 7 (some .long), Cond.methodLink RX9 263 yX9_about, Cond.instanceMethod yX9_about, Cond.selects RX9 yX9_about yX9_about, Cond.code yX9_about cX9_about 4 (some .int), Cond.fieldLink RX9 142 "OneTimer$Pot" "wants" "I", Cond.fieldLink RX9 148 "OneTimer$Pot" "since" "I", Cond.fieldLink RX9 106 "OneTimer" "minute" "I", Cond.fieldLink RX9 160 "OneTimer$Pot" "timesTaken" "I", Cond.fieldLink RX9 163 "OneTimer$Pot" "lastOut" "I", Cond.methodLink RX9 135 yX9_potAt, Cond.instanceMethod yX9_potAt, Cond.selects RX9 yX9_potAt yX9_potAt, Cond.code yX9_potAt cX9_potAt 2 (some (.object "OneTimer$Pot")), Cond.fieldLink RX9 18 "OneTimer" "pots" "[LOneTimer$Pot;"]
def wsX9_digest_r2 : List Cond := [Cond.methodLink RX9 139 ⟨"OneTimer$Pot", "kind", "()I"⟩, Cond.sameMethod "OneTimer$Pot" "OneTimer$Pot" "kind" "()I", Cond.instanceMethod ⟨"OneTimer$Pot", "kind", "()I"⟩, Cond.selects RX0 ⟨"OneTimer$Pot", "kind", "()I"⟩ yX0_kind, Cond.instanceMethod yX0_kind, Cond.initialized RX0, Cond.code yX0_kind cX0_kind 1 (some .int), Cond.code yX5_kind cX5_kind 1 (some .int), Cond.selects RX2 ⟨"OneTimer$Pot", "kind", "()I"⟩ yX2_kind, Cond.instanceMethod yX2_kind, Cond.initialized RX2, Cond.code yX2_kind cX2_kind 1 (some .int), Cond.methodLink RX9 139 yX5_kind, Cond.instanceMethod yX5_kind, Cond.selects RX5 yX5_kind yX5_kind, Cond.initialized RX5, Cond.selects RX6 ⟨"OneTimer$Pot", "kind", "()I"⟩ yX6_kind, Cond.instanceMethod yX6_kind, Cond.initialized RX6, Cond.code yX6_kind cX6_kind 1 (some .int), Cond.selects RX7 ⟨"OneTimer$Pot", "kind", "()I"⟩ yX7_kind, Cond.instanceMethod yX7_kind, Cond.initialized RX7, Cond.code yX7_kind cX7_kind 1 (some .int)]
def wsX9_digest_r3 : List Cond := [Cond.methodLink RX9 145 ⟨"OneTimer$Pot", "keeps", "()I"⟩, Cond.sameMethod "OneTimer$Pot" "OneTimer$Pot" "keeps" "()I", Cond.instanceMethod ⟨"OneTimer$Pot", "keeps", "()I"⟩, Cond.selects RX0 ⟨"OneTimer$Pot", "keeps", "()I"⟩ yX0_keeps, Cond.instanceMethod yX0_keeps, Cond.code yX0_keeps cX0_keeps 1 (some .int), Cond.methodLink RX0 7 yX6_keeps, Cond.sameMethod "OneTimer$Rice" "OneTimer$Rice" "keeps" "()I", Cond.superclass RX0 RX6, Cond.instanceMethod yX6_keeps, Cond.code yX6_keeps cX6_keeps 1 (some .int), Cond.code yX5_keeps cX5_keeps 1 (some .int), Cond.selects RX2 ⟨"OneTimer$Pot", "keeps", "()I"⟩ yX2_keeps, Cond.instanceMethod yX2_keeps, Cond.code yX2_keeps cX2_keeps 1 (some .int), Cond.methodLink RX9 145 yX5_keeps, Cond.instanceMethod yX5_keeps, Cond.selects RX5 yX5_keeps yX5_keeps, Cond.selects RX6 ⟨"OneTimer$Pot", "keeps", "()I"⟩ yX6_keeps, Cond.selects RX7 ⟨"OneTimer$Pot", "keeps", "()I"⟩ yX7_keeps, Cond.instanceMethod yX7_keeps, Cond.code yX7_keeps cX7_keeps 1 (some .int), Cond.methodLink RX9 151 ⟨"OneTimer$Pot", "boils", "()Z"⟩, Cond.sameMethod "OneTimer$Pot" "OneTimer$Pot" "boils" "()Z"]
def wsX9_digest_r4 : List Cond := [Cond.selects RX0 ⟨"OneTimer$Pot", "boils", "()Z"⟩ yX5_boils, Cond.instanceMethod yX5_boils, Cond.code yX5_boils cX5_boils 1 (some .boolean), Cond.fieldLink RX5 9 "OneTimer$Pot" "since" "I", Cond.selects RX2 ⟨"OneTimer$Pot", "boils", "()Z"⟩ yX5_boils, Cond.methodLink RX9 151 yX5_boils, Cond.selects RX5 yX5_boils yX5_boils, Cond.selects RX6 ⟨"OneTimer$Pot", "boils", "()Z"⟩ yX5_boils, Cond.selects RX7 ⟨"OneTimer$Pot", "boils", "()Z"⟩ yX5_boils, Cond.methodLink RX9 154 ⟨"OneTimer$Pot", "due", "()I"⟩, Cond.sameMethod "OneTimer$Pot" "OneTimer$Pot" "due" "()I", Cond.selects RX0 ⟨"OneTimer$Pot", "due", "()I"⟩ yX5_due, Cond.instanceMethod yX5_due, Cond.code yX5_due cX5_due 1 (some .int), Cond.fieldLink RX5 24 "OneTimer$Pot" "wants" "I", Cond.selects RX2 ⟨"OneTimer$Pot", "due", "()I"⟩ yX5_due, Cond.methodLink RX9 154 yX5_due, Cond.selects RX5 yX5_due yX5_due, Cond.selects RX6 ⟨"OneTimer$Pot", "due", "()I"⟩ yX5_due, Cond.selects RX7 ⟨"OneTimer$Pot", "due", "()I"⟩ yX5_due, Cond.methodLink RX9 157 ⟨"OneTimer$Pot", "outAt", "(I)I"⟩, Cond.sameMethod "OneTimer$Pot" "OneTimer$Pot" "outAt" "(I)I", Cond.selects RX0 ⟨"OneTimer$Pot", "outAt", "(I)I"⟩ yX5_outAt, Cond.instanceMethod yX5_outAt]
def wsX9_digest_r5 : List Cond := [Cond.code yX5_outAt cX5_outAt 2 (some .int), Cond.methodLink RX5 27 ⟨"OneTimer$Pot", "due", "()I"⟩, Cond.methodLink RX5 27 yX5_due, Cond.methodLink RX5 31 ⟨"OneTimer$Pot", "keeps", "()I"⟩, Cond.methodLink RX5 31 yX5_keeps, Cond.static yX9_outBy, Cond.code yX9_outBy cX9_outBy 2 (some .int), Cond.selects RX2 ⟨"OneTimer$Pot", "outAt", "(I)I"⟩ yX5_outAt, Cond.methodLink RX9 157 yX5_outAt, Cond.selects RX5 yX5_outAt yX5_outAt, Cond.selects RX6 ⟨"OneTimer$Pot", "outAt", "(I)I"⟩ yX5_outAt, Cond.selects RX7 ⟨"OneTimer$Pot", "outAt", "(I)I"⟩ yX5_outAt, Cond.methodLink RX9 199 yX9_bestWinding, Cond.instanceMethod yX9_bestWinding, Cond.selects RX9 yX9_bestWinding yX9_bestWinding, Cond.code yX9_bestWinding cX9_bestWinding 6 (some .int), Cond.fieldLink RX9 68 "OneTimer" "spring" "I", Cond.methodLink RX9 196 ⟨"OneTimer$Pot", "sureAt", "(I)I"⟩, Cond.sameMethod "OneTimer$Pot" "OneTimer$Pot" "sureAt" "(I)I", Cond.selects RX0 ⟨"OneTimer$Pot", "sureAt", "(I)I"⟩ yX5_sureAt, Cond.instanceMethod yX5_sureAt, Cond.code yX5_sureAt cX5_sureAt 3 (some .int), Cond.methodLink RX5 38 ⟨"OneTimer$Pot", "outAt", "(I)I"⟩, Cond.methodLink RX5 38 yX5_outAt]
def wsX9_digest_r6 : List Cond := [Cond.selects RX2 ⟨"OneTimer$Pot", "sureAt", "(I)I"⟩ yX5_sureAt, Cond.methodLink RX9 196 yX5_sureAt, Cond.selects RX5 yX5_sureAt yX5_sureAt, Cond.selects RX6 ⟨"OneTimer$Pot", "sureAt", "(I)I"⟩ yX5_sureAt, Cond.selects RX7 ⟨"OneTimer$Pot", "sureAt", "(I)I"⟩ yX5_sureAt, Cond.methodLink RX9 266 yX9_together, Cond.instanceMethod yX9_together, Cond.selects RX9 yX9_together yX9_together, Cond.code yX9_together cX9_together 5 (some .int), Cond.methodLink RX9 170 yX9_hasKitchen, Cond.instanceMethod yX9_hasKitchen, Cond.selects RX9 yX9_hasKitchen yX9_hasKitchen, Cond.code yX9_hasKitchen cX9_hasKitchen 1 (some .boolean), Cond.methodLink RX9 254 yX9_wound, Cond.instanceMethod yX9_wound, Cond.selects RX9 yX9_wound yX9_wound, Cond.code yX9_wound cX9_wound 2 (some .int), Cond.methodLink RX9 206 yX9_windingsThatFit, Cond.instanceMethod yX9_windingsThatFit, Cond.selects RX9 yX9_windingsThatFit yX9_windingsThatFit, Cond.code yX9_windingsThatFit cX9_windingsThatFit 3 (some .int), Cond.fieldLink RX9 25 "OneTimer" "told" "LOneTimer$Told;", Cond.methodLink RX9 212 yX8_fits, Cond.instanceMethod yX8_fits]
def wsX9_digest_r7 : List Cond := [Cond.selects RX8 yX8_fits yX8_fits, Cond.initialized RX8, Cond.code yX8_fits cX8_fits 3 (some .boolean), Cond.fieldLink RX8 19 "OneTimer$Told" "size" "I", Cond.fieldLink RX8 9 "OneTimer$Told" "untilDue" "[I", Cond.fieldLink RX8 13 "OneTimer$Told" "keeps" "[I", Cond.fieldLink RX8 16 "OneTimer$Told" "outs" "[I", Cond.methodLink RX9 209 yX9_leastThatFits, Cond.instanceMethod yX9_leastThatFits, Cond.selects RX9 yX9_leastThatFits yX9_leastThatFits, Cond.code yX9_leastThatFits cX9_leastThatFits 2 (some .int), Cond.methodLink RX9 257 yX3_codeAt, Cond.instanceMethod yX3_codeAt, Cond.selects RX3 yX3_codeAt yX3_codeAt, Cond.initialized RX3, Cond.code yX3_codeAt cX3_codeAt 2 (some .int), Cond.fieldLink RX3 15 "OneTimer$Page" "size" "I", Cond.fieldLink RX3 11 "OneTimer$Page" "letters" "[I", Cond.methodLink RX9 260 yX9_count, Cond.instanceMethod yX9_count, Cond.selects RX9 yX9_count yX9_count, Cond.code yX9_count cX9_count 2 (some .int), Cond.fieldLink RX9 74 "OneTimer" "hands" "I", Cond.fieldLink RX9 109 "OneTimer" "free" "I"]
def wsX9_digest_r8 : List Cond := [Cond.fieldLink RX9 112 "OneTimer" "windings" "I", Cond.fieldLink RX9 115 "OneTimer$Told" "size" "I", Cond.fieldLink RX9 80 "OneTimer" "kitchensRead" "I", Cond.fieldLink RX9 176 "OneTimer" "plansDone" "I", Cond.methodLink RX9 243 yX9_potsThatBoil, Cond.instanceMethod yX9_potsThatBoil, Cond.selects RX9 yX9_potsThatBoil yX9_potsThatBoil, Cond.code yX9_potsThatBoil cX9_potsThatBoil 4 (some .int)]
def wsX9_digest : List Cond := .code yX9_digest cX9_digest 4 (some .long) :: ((wsX9_digest_r1 ++ (wsX9_digest_r2 ++ (wsX9_digest_r3 ++ (wsX9_digest_r4 ++ (wsX9_digest_r5 ++ (wsX9_digest_r6 ++ (wsX9_digest_r7 ++ wsX9_digest_r8))))))) ++ wsX90 ++ wsX30 ++ wsX00 ++ wsX20 ++ wsX50 ++ wsX60 ++ wsX70 ++ wsX80)
def wsX10_init : List Cond := .code yX10_init cX10_init 1 none :: ([.methodLink RX10 1 objectInit, .instanceMethod objectInit, .code objectInit ⟨#[0xb1]⟩ 1 none, .arrayClass .int, .fieldLink RX10 7 "OneTimerModel" "kindOf" "[I", .fieldLink RX10 13 "OneTimerModel" "wantsOf" "[I", .fieldLink RX10 16 "OneTimerModel" "sinceOf" "[I", .fieldLink RX10 19 "OneTimerModel" "takenOf" "[I", .fieldLink RX10 22 "OneTimerModel" "outOf" "[I", .fieldLink RX10 25 "OneTimerModel" "toldMinute" "[I", .fieldLink RX10 28 "OneTimerModel" "toldDue" "[I", .fieldLink RX10 31 "OneTimerModel" "toldKeeps" "[I", .fieldLink RX10 34 "OneTimerModel" "toldOut" "[I", .arrayClass .byte, .fieldLink RX10 37 "OneTimerModel" "page" "[B", .fieldLink RX10 41 "OneTimerModel" "farOf" "[I", .fieldLink RX10 44 "OneTimerModel" "firstOf" "[I", .fieldLink RX10 47 "OneTimerModel" "keptSince" "[I", .fieldLink RX10 50 "OneTimerModel" "keptTaken" "[I", .fieldLink RX10 53 "OneTimerModel" "keptOut" "[I", .fieldLink RX10 56 "OneTimerModel" "keptToldMinute" "[I", .fieldLink RX10 59 "OneTimerModel" "keptDue" "[I", .fieldLink RX10 62 "OneTimerModel" "keptKeeps" "[I", .fieldLink RX10 65 "OneTimerModel" "keptToldOut" "[I"] ++ wsX100)
def wsX10_within : List Cond := .code yX10_within cX10_within 3 (some .boolean) :: ([])
def wsX10_letter : List Cond := .code yX10_letter cX10_letter 2 (some .int) :: ([.fieldLink RX10 72 "OneTimerModel" "pageLength" "I", .fieldLink RX10 37 "OneTimerModel" "page" "[B", .methodLink RX10 68 yX10_within, .static yX10_within, .initialized RX10, .code yX10_within cX10_within 3 (some .boolean)] ++ wsX100)
def wsX10_blank : List Cond := .code yX10_blank cX10_blank 2 (some .int) :: ([.fieldLink RX10 72 "OneTimerModel" "pageLength" "I"] ++ wsX100)
def wsX10_kindBy : List Cond := .code yX10_kindBy cX10_kindBy 1 (some .int) :: ([])
def wsX10_figure : List Cond := .code yX10_figure cX10_figure 2 (some .int) :: ([.fieldLink RX10 72 "OneTimerModel" "pageLength" "I", .fieldLink RX10 37 "OneTimerModel" "page" "[B", .methodLink RX10 68 yX10_within, .static yX10_within, .initialized RX10, .code yX10_within cX10_within 3 (some .boolean)] ++ wsX100)
def wsX10_readTwo : List Cond := .code yX10_readTwo cX10_readTwo 6 (some .int) :: ([.methodLink RX10 76 yX10_figure, .instanceMethod yX10_figure, .selects RX10 yX10_figure yX10_figure, .initialized RX10, .code yX10_figure cX10_figure 2 (some .int), .fieldLink RX10 72 "OneTimerModel" "pageLength" "I", .fieldLink RX10 37 "OneTimerModel" "page" "[B", .methodLink RX10 68 yX10_within, .static yX10_within, .code yX10_within cX10_within 3 (some .boolean)] ++ wsX100)
def wsX10_two : List Cond := .code yX10_two cX10_two 2 (some .int) :: ([.fieldLink RX10 37 "OneTimerModel" "page" "[B"] ++ wsX100)
def wsX10_readRest : List Cond := .code yX10_readRest cX10_readRest 3 (some .int) :: ([.fieldLink RX10 72 "OneTimerModel" "pageLength" "I", .fieldLink RX10 84 "OneTimerModel" "isWhole" "Z", .methodLink RX10 80 yX10_readTwo, .instanceMethod yX10_readTwo, .selects RX10 yX10_readTwo yX10_readTwo, .initialized RX10, .code yX10_readTwo cX10_readTwo 6 (some .int), .methodLink RX10 76 yX10_figure, .instanceMethod yX10_figure, .selects RX10 yX10_figure yX10_figure, .code yX10_figure cX10_figure 2 (some .int), .fieldLink RX10 37 "OneTimerModel" "page" "[B", .methodLink RX10 68 yX10_within, .static yX10_within, .code yX10_within cX10_within 3 (some .boolean)] ++ wsX100)
def wsX10_read : List Cond := .code yX10_read cX10_read 3 (some .int) :: ([.fieldLink RX10 84 "OneTimerModel" "isWhole" "Z", .fieldLink RX10 88 "OneTimerModel" "newMany" "I", .fieldLink RX10 72 "OneTimerModel" "pageLength" "I", .fieldLink RX10 37 "OneTimerModel" "page" "[B", .methodLink RX10 91 yX10_kindBy, .static yX10_kindBy, .initialized RX10, .code yX10_kindBy cX10_kindBy 1 (some .int), .methodLink RX10 80 yX10_readTwo, .instanceMethod yX10_readTwo, .selects RX10 yX10_readTwo yX10_readTwo, .code yX10_readTwo cX10_readTwo 6 (some .int), .methodLink RX10 76 yX10_figure, .instanceMethod yX10_figure, .selects RX10 yX10_figure yX10_figure, .code yX10_figure cX10_figure 2 (some .int), .methodLink RX10 68 yX10_within, .static yX10_within, .code yX10_within cX10_within 3 (some .boolean), .methodLink RX10 94 yX10_readRest, .instanceMethod yX10_readRest, .selects RX10 yX10_readRest yX10_readRest, .code yX10_readRest cX10_readRest 3 (some .int)] ++ wsX100)
def wsX10_fault_r1 : List Cond := [Cond.methodLink RX10 97 yX10_read, Cond.instanceMethod yX10_read, Cond.selects RX10 yX10_read yX10_read, Cond.initialized RX10, Cond.code yX10_read cX10_read 3 (some .int), Cond.fieldLink RX10 84 "OneTimerModel" "isWhole" "Z", Cond.fieldLink RX10 88 "OneTimerModel" "newMany" "I", Cond.fieldLink RX10 72 "OneTimerModel" "pageLength" "I", Cond.fieldLink RX10 37 "OneTimerModel" "page" "[B", Cond.methodLink RX10 91 yX10_kindBy, Cond.static yX10_kindBy, Cond.code yX10_kindBy cX10_kindBy 1 (some .int), Cond.methodLink RX10 80 yX10_readTwo, Cond.instanceMethod yX10_readTwo, Cond.selects RX10 yX10_readTwo yX10_readTwo, Cond.code yX10_readTwo cX10_readTwo 6 (some .int), Cond.methodLink RX10 76 yX10_figure, Cond.instanceMethod yX10_figure, Cond.selects RX10 yX10_figure yX10_figure, Cond.code yX10_figure cX10_figure 2 (some .int), Cond.methodLink RX10 68 yX10_within, Cond.static yX10_within, Cond.code yX10_within cX10_within 3 (some .boolean), Cond.methodLink RX10 94 yX10_readRest]
def wsX10_fault_r2 : List Cond := [Cond.instanceMethod yX10_readRest, Cond.selects RX10 yX10_readRest yX10_readRest, Cond.code yX10_readRest cX10_readRest 3 (some .int)]
def wsX10_fault : List Cond := .code yX10_fault cX10_fault 1 (some .int) :: ((wsX10_fault_r1 ++ wsX10_fault_r2) ++ wsX100)
def wsX10_kitchen_r1 : List Cond := [Cond.fieldLink RX10 84 "OneTimerModel" "isWhole" "Z", Cond.fieldLink RX10 88 "OneTimerModel" "newMany" "I", Cond.fieldLink RX10 101 "OneTimerModel" "pots" "I", Cond.fieldLink RX10 107 "OneTimerModel" "spring" "I", Cond.fieldLink RX10 37 "OneTimerModel" "page" "[B", Cond.fieldLink RX10 110 "OneTimerModel" "hands" "I", Cond.fieldLink RX10 7 "OneTimerModel" "kindOf" "[I", Cond.fieldLink RX10 13 "OneTimerModel" "wantsOf" "[I", Cond.fieldLink RX10 16 "OneTimerModel" "sinceOf" "[I", Cond.fieldLink RX10 19 "OneTimerModel" "takenOf" "[I", Cond.fieldLink RX10 22 "OneTimerModel" "outOf" "[I", Cond.fieldLink RX10 113 "OneTimerModel" "kitchens" "I", Cond.fieldLink RX10 116 "OneTimerModel" "minute" "I", Cond.fieldLink RX10 119 "OneTimerModel" "free" "I", Cond.fieldLink RX10 122 "OneTimerModel" "windings" "I", Cond.fieldLink RX10 125 "OneTimerModel" "told" "I", Cond.fieldLink RX10 72 "OneTimerModel" "pageLength" "I", Cond.methodLink RX10 97 yX10_read, Cond.instanceMethod yX10_read, Cond.selects RX10 yX10_read yX10_read, Cond.initialized RX10, Cond.code yX10_read cX10_read 3 (some .int), Cond.methodLink RX10 91 yX10_kindBy, Cond.static yX10_kindBy]
def wsX10_kitchen_r2 : List Cond := [Cond.code yX10_kindBy cX10_kindBy 1 (some .int), Cond.methodLink RX10 80 yX10_readTwo, Cond.instanceMethod yX10_readTwo, Cond.selects RX10 yX10_readTwo yX10_readTwo, Cond.code yX10_readTwo cX10_readTwo 6 (some .int), Cond.methodLink RX10 76 yX10_figure, Cond.instanceMethod yX10_figure, Cond.selects RX10 yX10_figure yX10_figure, Cond.code yX10_figure cX10_figure 2 (some .int), Cond.methodLink RX10 68 yX10_within, Cond.static yX10_within, Cond.code yX10_within cX10_within 3 (some .boolean), Cond.methodLink RX10 94 yX10_readRest, Cond.instanceMethod yX10_readRest, Cond.selects RX10 yX10_readRest yX10_readRest, Cond.code yX10_readRest cX10_readRest 3 (some .int), Cond.methodLink RX10 104 yX10_two, Cond.instanceMethod yX10_two, Cond.selects RX10 yX10_two yX10_two, Cond.code yX10_two cX10_two 2 (some .int)]
def wsX10_kitchen : List Cond := .code yX10_kitchen cX10_kitchen 3 (some .int) :: ((wsX10_kitchen_r1 ++ wsX10_kitchen_r2) ++ wsX100)
def wsX10_isPot : List Cond := .code yX10_isPot cX10_isPot 2 (some .boolean) :: ([.fieldLink RX10 101 "OneTimerModel" "pots" "I", .methodLink RX10 68 yX10_within, .static yX10_within, .initialized RX10, .code yX10_within cX10_within 3 (some .boolean)] ++ wsX100)
def wsX10_keepsOf : List Cond := .code yX10_keepsOf cX10_keepsOf 2 (some .int) :: ([.fieldLink RX10 7 "OneTimerModel" "kindOf" "[I"] ++ wsX100)
def wsX10_out : List Cond := .code yX10_out cX10_out 3 (some .int) :: ([])
def wsX10_boils : List Cond := .code yX10_boils cX10_boils 2 (some .boolean) :: ([.fieldLink RX10 16 "OneTimerModel" "sinceOf" "[I"] ++ wsX100)
def wsX10_dueOf : List Cond := .code yX10_dueOf cX10_dueOf 2 (some .int) :: ([.fieldLink RX10 16 "OneTimerModel" "sinceOf" "[I", .fieldLink RX10 13 "OneTimerModel" "wantsOf" "[I"] ++ wsX100)
def wsX10_outAt : List Cond := .code yX10_outAt cX10_outAt 3 (some .int) :: ([.methodLink RX10 128 yX10_dueOf, .instanceMethod yX10_dueOf, .selects RX10 yX10_dueOf yX10_dueOf, .initialized RX10, .code yX10_dueOf cX10_dueOf 2 (some .int), .fieldLink RX10 16 "OneTimerModel" "sinceOf" "[I", .fieldLink RX10 13 "OneTimerModel" "wantsOf" "[I", .methodLink RX10 131 yX10_keepsOf, .instanceMethod yX10_keepsOf, .selects RX10 yX10_keepsOf yX10_keepsOf, .code yX10_keepsOf cX10_keepsOf 2 (some .int), .fieldLink RX10 7 "OneTimerModel" "kindOf" "[I", .methodLink RX10 134 yX10_out, .static yX10_out, .code yX10_out cX10_out 3 (some .int)] ++ wsX100)
def wsX10_potNow_r1 : List Cond := [Cond.fieldLink RX10 7 "OneTimerModel" "kindOf" "[I", Cond.fieldLink RX10 13 "OneTimerModel" "wantsOf" "[I", Cond.fieldLink RX10 16 "OneTimerModel" "sinceOf" "[I", Cond.fieldLink RX10 116 "OneTimerModel" "minute" "I", Cond.fieldLink RX10 19 "OneTimerModel" "takenOf" "[I", Cond.fieldLink RX10 22 "OneTimerModel" "outOf" "[I", Cond.methodLink RX10 131 yX10_keepsOf, Cond.instanceMethod yX10_keepsOf, Cond.selects RX10 yX10_keepsOf yX10_keepsOf, Cond.initialized RX10, Cond.code yX10_keepsOf cX10_keepsOf 2 (some .int), Cond.methodLink RX10 138 yX10_boils, Cond.instanceMethod yX10_boils, Cond.selects RX10 yX10_boils yX10_boils, Cond.code yX10_boils cX10_boils 2 (some .boolean), Cond.methodLink RX10 128 yX10_dueOf, Cond.instanceMethod yX10_dueOf, Cond.selects RX10 yX10_dueOf yX10_dueOf, Cond.code yX10_dueOf cX10_dueOf 2 (some .int), Cond.methodLink RX10 142 yX10_outAt, Cond.instanceMethod yX10_outAt, Cond.selects RX10 yX10_outAt yX10_outAt, Cond.code yX10_outAt cX10_outAt 3 (some .int), Cond.methodLink RX10 134 yX10_out]
def wsX10_potNow_r2 : List Cond := [Cond.static yX10_out, Cond.code yX10_out cX10_out 3 (some .int)]
def wsX10_potNow : List Cond := .code yX10_potNow cX10_potNow 3 (some .int) :: ((wsX10_potNow_r1 ++ wsX10_potNow_r2) ++ wsX100)
def wsX10_about_r1 : List Cond := [Cond.methodLink RX10 145 yX10_isPot, Cond.instanceMethod yX10_isPot, Cond.selects RX10 yX10_isPot yX10_isPot, Cond.initialized RX10, Cond.code yX10_isPot cX10_isPot 2 (some .boolean), Cond.fieldLink RX10 101 "OneTimerModel" "pots" "I", Cond.methodLink RX10 68 yX10_within, Cond.static yX10_within, Cond.code yX10_within cX10_within 3 (some .boolean), Cond.methodLink RX10 148 yX10_potNow, Cond.instanceMethod yX10_potNow, Cond.selects RX10 yX10_potNow yX10_potNow, Cond.code yX10_potNow cX10_potNow 3 (some .int), Cond.fieldLink RX10 7 "OneTimerModel" "kindOf" "[I", Cond.fieldLink RX10 13 "OneTimerModel" "wantsOf" "[I", Cond.fieldLink RX10 16 "OneTimerModel" "sinceOf" "[I", Cond.fieldLink RX10 116 "OneTimerModel" "minute" "I", Cond.fieldLink RX10 19 "OneTimerModel" "takenOf" "[I", Cond.fieldLink RX10 22 "OneTimerModel" "outOf" "[I", Cond.methodLink RX10 131 yX10_keepsOf, Cond.instanceMethod yX10_keepsOf, Cond.selects RX10 yX10_keepsOf yX10_keepsOf, Cond.code yX10_keepsOf cX10_keepsOf 2 (some .int), Cond.methodLink RX10 138 yX10_boils]
def wsX10_about_r2 : List Cond := [Cond.instanceMethod yX10_boils, Cond.selects RX10 yX10_boils yX10_boils, Cond.code yX10_boils cX10_boils 2 (some .boolean), Cond.methodLink RX10 128 yX10_dueOf, Cond.instanceMethod yX10_dueOf, Cond.selects RX10 yX10_dueOf yX10_dueOf, Cond.code yX10_dueOf cX10_dueOf 2 (some .int), Cond.methodLink RX10 142 yX10_outAt, Cond.instanceMethod yX10_outAt, Cond.selects RX10 yX10_outAt yX10_outAt, Cond.code yX10_outAt cX10_outAt 3 (some .int), Cond.methodLink RX10 134 yX10_out, Cond.static yX10_out, Cond.code yX10_out cX10_out 3 (some .int)]
def wsX10_about : List Cond := .code yX10_about cX10_about 3 (some .int) :: ((wsX10_about_r1 ++ wsX10_about_r2) ++ wsX100)
def wsX10_as : List Cond := .code yX10_as cX10_as 4 (some .int) :: ([.fieldLink RX10 7 "OneTimerModel" "kindOf" "[I", .methodLink RX10 145 yX10_isPot, .instanceMethod yX10_isPot, .selects RX10 yX10_isPot yX10_isPot, .initialized RX10, .code yX10_isPot cX10_isPot 2 (some .boolean), .fieldLink RX10 101 "OneTimerModel" "pots" "I", .methodLink RX10 68 yX10_within, .static yX10_within, .code yX10_within cX10_within 3 (some .boolean)] ++ wsX100)
def wsX10_boil : List Cond := .code yX10_boil cX10_boil 2 (some .int) :: ([.fieldLink RX10 16 "OneTimerModel" "sinceOf" "[I", .fieldLink RX10 116 "OneTimerModel" "minute" "I", .methodLink RX10 145 yX10_isPot, .instanceMethod yX10_isPot, .selects RX10 yX10_isPot yX10_isPot, .initialized RX10, .code yX10_isPot cX10_isPot 2 (some .boolean), .fieldLink RX10 101 "OneTimerModel" "pots" "I", .methodLink RX10 68 yX10_within, .static yX10_within, .code yX10_within cX10_within 3 (some .boolean), .methodLink RX10 138 yX10_boils, .instanceMethod yX10_boils, .selects RX10 yX10_boils yX10_boils, .code yX10_boils cX10_boils 2 (some .boolean), .methodLink RX10 128 yX10_dueOf, .instanceMethod yX10_dueOf, .selects RX10 yX10_dueOf yX10_dueOf, .code yX10_dueOf cX10_dueOf 2 (some .int), .fieldLink RX10 13 "OneTimerModel" "wantsOf" "[I"] ++ wsX100)
def wsX10_wind : List Cond := .code yX10_wind cX10_wind 2 (some .int) :: ([.fieldLink RX10 101 "OneTimerModel" "pots" "I", .fieldLink RX10 107 "OneTimerModel" "spring" "I", .fieldLink RX10 116 "OneTimerModel" "minute" "I", .fieldLink RX10 110 "OneTimerModel" "hands" "I", .fieldLink RX10 119 "OneTimerModel" "free" "I", .fieldLink RX10 122 "OneTimerModel" "windings" "I", .methodLink RX10 68 yX10_within, .static yX10_within, .initialized RX10, .code yX10_within cX10_within 3 (some .boolean)] ++ wsX100)
def wsX10_take_r1 : List Cond := [Cond.fieldLink RX10 119 "OneTimerModel" "free" "I", Cond.fieldLink RX10 22 "OneTimerModel" "outOf" "[I", Cond.fieldLink RX10 116 "OneTimerModel" "minute" "I", Cond.fieldLink RX10 16 "OneTimerModel" "sinceOf" "[I", Cond.fieldLink RX10 19 "OneTimerModel" "takenOf" "[I", Cond.methodLink RX10 145 yX10_isPot, Cond.instanceMethod yX10_isPot, Cond.selects RX10 yX10_isPot yX10_isPot, Cond.initialized RX10, Cond.code yX10_isPot cX10_isPot 2 (some .boolean), Cond.fieldLink RX10 101 "OneTimerModel" "pots" "I", Cond.methodLink RX10 68 yX10_within, Cond.static yX10_within, Cond.code yX10_within cX10_within 3 (some .boolean), Cond.methodLink RX10 138 yX10_boils, Cond.instanceMethod yX10_boils, Cond.selects RX10 yX10_boils yX10_boils, Cond.code yX10_boils cX10_boils 2 (some .boolean), Cond.methodLink RX10 142 yX10_outAt, Cond.instanceMethod yX10_outAt, Cond.selects RX10 yX10_outAt yX10_outAt, Cond.code yX10_outAt cX10_outAt 3 (some .int), Cond.methodLink RX10 128 yX10_dueOf, Cond.instanceMethod yX10_dueOf]
def wsX10_take_r2 : List Cond := [Cond.selects RX10 yX10_dueOf yX10_dueOf, Cond.code yX10_dueOf cX10_dueOf 2 (some .int), Cond.fieldLink RX10 13 "OneTimerModel" "wantsOf" "[I", Cond.methodLink RX10 131 yX10_keepsOf, Cond.instanceMethod yX10_keepsOf, Cond.selects RX10 yX10_keepsOf yX10_keepsOf, Cond.code yX10_keepsOf cX10_keepsOf 2 (some .int), Cond.fieldLink RX10 7 "OneTimerModel" "kindOf" "[I", Cond.methodLink RX10 134 yX10_out, Cond.static yX10_out, Cond.code yX10_out cX10_out 3 (some .int)]
def wsX10_take : List Cond := .code yX10_take cX10_take 2 (some .int) :: ((wsX10_take_r1 ++ wsX10_take_r2) ++ wsX100)
def wsX10_size : List Cond := .code yX10_size cX10_size 1 (some .int) :: ([])
def wsX10_goodAt : List Cond := .code yX10_goodAt cX10_goodAt 4 (some .int) :: ([.fieldLink RX10 101 "OneTimerModel" "pots" "I", .methodLink RX10 138 yX10_boils, .instanceMethod yX10_boils, .selects RX10 yX10_boils yX10_boils, .initialized RX10, .code yX10_boils cX10_boils 2 (some .boolean), .fieldLink RX10 16 "OneTimerModel" "sinceOf" "[I", .methodLink RX10 142 yX10_outAt, .instanceMethod yX10_outAt, .selects RX10 yX10_outAt yX10_outAt, .code yX10_outAt cX10_outAt 3 (some .int), .methodLink RX10 128 yX10_dueOf, .instanceMethod yX10_dueOf, .selects RX10 yX10_dueOf yX10_dueOf, .code yX10_dueOf cX10_dueOf 2 (some .int), .fieldLink RX10 13 "OneTimerModel" "wantsOf" "[I", .methodLink RX10 131 yX10_keepsOf, .instanceMethod yX10_keepsOf, .selects RX10 yX10_keepsOf yX10_keepsOf, .code yX10_keepsOf cX10_keepsOf 2 (some .int), .fieldLink RX10 7 "OneTimerModel" "kindOf" "[I", .methodLink RX10 134 yX10_out, .static yX10_out, .code yX10_out cX10_out 3 (some .int)] ++ wsX100)
def wsX10_mark : List Cond := .code yX10_mark cX10_mark 10 none :: ([.fieldLink RX10 41 "OneTimerModel" "farOf" "[I", .fieldLink RX10 44 "OneTimerModel" "firstOf" "[I", .methodLink RX10 151 yX10_size, .static yX10_size, .initialized RX10, .code yX10_size cX10_size 1 (some .int)] ++ wsX100)
def wsX10_goWave_r1 : List Cond := [Cond.fieldLink RX10 107 "OneTimerModel" "spring" "I", Cond.fieldLink RX10 41 "OneTimerModel" "farOf" "[I", Cond.fieldLink RX10 116 "OneTimerModel" "minute" "I", Cond.fieldLink RX10 110 "OneTimerModel" "hands" "I", Cond.fieldLink RX10 44 "OneTimerModel" "firstOf" "[I", Cond.methodLink RX10 154 yX10_goodAt, Cond.instanceMethod yX10_goodAt, Cond.selects RX10 yX10_goodAt yX10_goodAt, Cond.initialized RX10, Cond.code yX10_goodAt cX10_goodAt 4 (some .int), Cond.fieldLink RX10 101 "OneTimerModel" "pots" "I", Cond.methodLink RX10 138 yX10_boils, Cond.instanceMethod yX10_boils, Cond.selects RX10 yX10_boils yX10_boils, Cond.code yX10_boils cX10_boils 2 (some .boolean), Cond.fieldLink RX10 16 "OneTimerModel" "sinceOf" "[I", Cond.methodLink RX10 142 yX10_outAt, Cond.instanceMethod yX10_outAt, Cond.selects RX10 yX10_outAt yX10_outAt, Cond.code yX10_outAt cX10_outAt 3 (some .int), Cond.methodLink RX10 128 yX10_dueOf, Cond.instanceMethod yX10_dueOf, Cond.selects RX10 yX10_dueOf yX10_dueOf, Cond.code yX10_dueOf cX10_dueOf 2 (some .int)]
def wsX10_goWave_r2 : List Cond := [Cond.fieldLink RX10 13 "OneTimerModel" "wantsOf" "[I", Cond.methodLink RX10 131 yX10_keepsOf, Cond.instanceMethod yX10_keepsOf, Cond.selects RX10 yX10_keepsOf yX10_keepsOf, Cond.code yX10_keepsOf cX10_keepsOf 2 (some .int), Cond.fieldLink RX10 7 "OneTimerModel" "kindOf" "[I", Cond.methodLink RX10 134 yX10_out, Cond.static yX10_out, Cond.code yX10_out cX10_out 3 (some .int), Cond.methodLink RX10 157 yX10_mark, Cond.instanceMethod yX10_mark, Cond.selects RX10 yX10_mark yX10_mark, Cond.code yX10_mark cX10_mark 10 none, Cond.methodLink RX10 151 yX10_size, Cond.static yX10_size, Cond.code yX10_size cX10_size 1 (some .int)]
def wsX10_goWave : List Cond := .code yX10_goWave cX10_goWave 6 (some .boolean) :: ((wsX10_goWave_r1 ++ wsX10_goWave_r2) ++ wsX100)
def wsX10_planNow_r1 : List Cond := [Cond.fieldLink RX10 101 "OneTimerModel" "pots" "I", Cond.fieldLink RX10 41 "OneTimerModel" "farOf" "[I", Cond.fieldLink RX10 44 "OneTimerModel" "firstOf" "[I", Cond.fieldLink RX10 116 "OneTimerModel" "minute" "I", Cond.fieldLink RX10 119 "OneTimerModel" "free" "I", Cond.constant RX10 164 (268435456), Cond.methodLink RX10 138 yX10_boils, Cond.instanceMethod yX10_boils, Cond.selects RX10 yX10_boils yX10_boils, Cond.initialized RX10, Cond.code yX10_boils cX10_boils 2 (some .boolean), Cond.fieldLink RX10 16 "OneTimerModel" "sinceOf" "[I", Cond.methodLink RX10 154 yX10_goodAt, Cond.instanceMethod yX10_goodAt, Cond.selects RX10 yX10_goodAt yX10_goodAt, Cond.code yX10_goodAt cX10_goodAt 4 (some .int), Cond.methodLink RX10 142 yX10_outAt, Cond.instanceMethod yX10_outAt, Cond.selects RX10 yX10_outAt yX10_outAt, Cond.code yX10_outAt cX10_outAt 3 (some .int), Cond.methodLink RX10 128 yX10_dueOf, Cond.instanceMethod yX10_dueOf, Cond.selects RX10 yX10_dueOf yX10_dueOf, Cond.code yX10_dueOf cX10_dueOf 2 (some .int)]
def wsX10_planNow_r2 : List Cond := [Cond.fieldLink RX10 13 "OneTimerModel" "wantsOf" "[I", Cond.methodLink RX10 131 yX10_keepsOf, Cond.instanceMethod yX10_keepsOf, Cond.selects RX10 yX10_keepsOf yX10_keepsOf, Cond.code yX10_keepsOf cX10_keepsOf 2 (some .int), Cond.fieldLink RX10 7 "OneTimerModel" "kindOf" "[I", Cond.methodLink RX10 134 yX10_out, Cond.static yX10_out, Cond.code yX10_out cX10_out 3 (some .int), Cond.methodLink RX10 157 yX10_mark, Cond.instanceMethod yX10_mark, Cond.selects RX10 yX10_mark yX10_mark, Cond.code yX10_mark cX10_mark 10 none, Cond.methodLink RX10 151 yX10_size, Cond.static yX10_size, Cond.code yX10_size cX10_size 1 (some .int), Cond.methodLink RX10 161 yX10_goWave, Cond.instanceMethod yX10_goWave, Cond.selects RX10 yX10_goWave yX10_goWave, Cond.code yX10_goWave cX10_goWave 6 (some .boolean), Cond.fieldLink RX10 107 "OneTimerModel" "spring" "I", Cond.fieldLink RX10 110 "OneTimerModel" "hands" "I"]
def wsX10_planNow : List Cond := .code yX10_planNow cX10_planNow 9 (some .int) :: ((wsX10_planNow_r1 ++ wsX10_planNow_r2) ++ wsX100)
def wsX10_plan_r1 : List Cond := [Cond.fieldLink RX10 101 "OneTimerModel" "pots" "I", Cond.fieldLink RX10 165 "OneTimerModel" "asks" "I", Cond.methodLink RX10 68 yX10_within, Cond.static yX10_within, Cond.initialized RX10, Cond.code yX10_within cX10_within 3 (some .boolean), Cond.methodLink RX10 168 yX10_planNow, Cond.instanceMethod yX10_planNow, Cond.selects RX10 yX10_planNow yX10_planNow, Cond.code yX10_planNow cX10_planNow 9 (some .int), Cond.fieldLink RX10 41 "OneTimerModel" "farOf" "[I", Cond.fieldLink RX10 44 "OneTimerModel" "firstOf" "[I", Cond.fieldLink RX10 116 "OneTimerModel" "minute" "I", Cond.fieldLink RX10 119 "OneTimerModel" "free" "I", Cond.constant RX10 164 (268435456), Cond.methodLink RX10 138 yX10_boils, Cond.instanceMethod yX10_boils, Cond.selects RX10 yX10_boils yX10_boils, Cond.code yX10_boils cX10_boils 2 (some .boolean), Cond.fieldLink RX10 16 "OneTimerModel" "sinceOf" "[I", Cond.methodLink RX10 154 yX10_goodAt, Cond.instanceMethod yX10_goodAt, Cond.selects RX10 yX10_goodAt yX10_goodAt, Cond.code yX10_goodAt cX10_goodAt 4 (some .int)]
def wsX10_plan_r2 : List Cond := [Cond.methodLink RX10 142 yX10_outAt, Cond.instanceMethod yX10_outAt, Cond.selects RX10 yX10_outAt yX10_outAt, Cond.code yX10_outAt cX10_outAt 3 (some .int), Cond.methodLink RX10 128 yX10_dueOf, Cond.instanceMethod yX10_dueOf, Cond.selects RX10 yX10_dueOf yX10_dueOf, Cond.code yX10_dueOf cX10_dueOf 2 (some .int), Cond.fieldLink RX10 13 "OneTimerModel" "wantsOf" "[I", Cond.methodLink RX10 131 yX10_keepsOf, Cond.instanceMethod yX10_keepsOf, Cond.selects RX10 yX10_keepsOf yX10_keepsOf, Cond.code yX10_keepsOf cX10_keepsOf 2 (some .int), Cond.fieldLink RX10 7 "OneTimerModel" "kindOf" "[I", Cond.methodLink RX10 134 yX10_out, Cond.static yX10_out, Cond.code yX10_out cX10_out 3 (some .int), Cond.methodLink RX10 157 yX10_mark, Cond.instanceMethod yX10_mark, Cond.selects RX10 yX10_mark yX10_mark, Cond.code yX10_mark cX10_mark 10 none, Cond.methodLink RX10 151 yX10_size, Cond.static yX10_size, Cond.code yX10_size cX10_size 1 (some .int)]
def wsX10_plan_r3 : List Cond := [Cond.methodLink RX10 161 yX10_goWave, Cond.instanceMethod yX10_goWave, Cond.selects RX10 yX10_goWave yX10_goWave, Cond.code yX10_goWave cX10_goWave 6 (some .boolean), Cond.fieldLink RX10 107 "OneTimerModel" "spring" "I", Cond.fieldLink RX10 110 "OneTimerModel" "hands" "I"]
def wsX10_plan : List Cond := .code yX10_plan cX10_plan 2 (some .int) :: ((wsX10_plan_r1 ++ (wsX10_plan_r2 ++ wsX10_plan_r3)) ++ wsX100)
def wsX10_sureNow : List Cond := .code yX10_sureNow cX10_sureNow 6 (some .int) :: ([.fieldLink RX10 116 "OneTimerModel" "minute" "I", .methodLink RX10 142 yX10_outAt, .instanceMethod yX10_outAt, .selects RX10 yX10_outAt yX10_outAt, .initialized RX10, .code yX10_outAt cX10_outAt 3 (some .int), .methodLink RX10 128 yX10_dueOf, .instanceMethod yX10_dueOf, .selects RX10 yX10_dueOf yX10_dueOf, .code yX10_dueOf cX10_dueOf 2 (some .int), .fieldLink RX10 16 "OneTimerModel" "sinceOf" "[I", .fieldLink RX10 13 "OneTimerModel" "wantsOf" "[I", .methodLink RX10 131 yX10_keepsOf, .instanceMethod yX10_keepsOf, .selects RX10 yX10_keepsOf yX10_keepsOf, .code yX10_keepsOf cX10_keepsOf 2 (some .int), .fieldLink RX10 7 "OneTimerModel" "kindOf" "[I", .methodLink RX10 134 yX10_out, .static yX10_out, .code yX10_out cX10_out 3 (some .int)] ++ wsX100)
def wsX10_sure_r1 : List Cond := [Cond.fieldLink RX10 107 "OneTimerModel" "spring" "I", Cond.methodLink RX10 145 yX10_isPot, Cond.instanceMethod yX10_isPot, Cond.selects RX10 yX10_isPot yX10_isPot, Cond.initialized RX10, Cond.code yX10_isPot cX10_isPot 2 (some .boolean), Cond.fieldLink RX10 101 "OneTimerModel" "pots" "I", Cond.methodLink RX10 68 yX10_within, Cond.static yX10_within, Cond.code yX10_within cX10_within 3 (some .boolean), Cond.methodLink RX10 138 yX10_boils, Cond.instanceMethod yX10_boils, Cond.selects RX10 yX10_boils yX10_boils, Cond.code yX10_boils cX10_boils 2 (some .boolean), Cond.fieldLink RX10 16 "OneTimerModel" "sinceOf" "[I", Cond.methodLink RX10 171 yX10_sureNow, Cond.instanceMethod yX10_sureNow, Cond.selects RX10 yX10_sureNow yX10_sureNow, Cond.code yX10_sureNow cX10_sureNow 6 (some .int), Cond.fieldLink RX10 116 "OneTimerModel" "minute" "I", Cond.methodLink RX10 142 yX10_outAt, Cond.instanceMethod yX10_outAt, Cond.selects RX10 yX10_outAt yX10_outAt, Cond.code yX10_outAt cX10_outAt 3 (some .int)]
def wsX10_sure_r2 : List Cond := [Cond.methodLink RX10 128 yX10_dueOf, Cond.instanceMethod yX10_dueOf, Cond.selects RX10 yX10_dueOf yX10_dueOf, Cond.code yX10_dueOf cX10_dueOf 2 (some .int), Cond.fieldLink RX10 13 "OneTimerModel" "wantsOf" "[I", Cond.methodLink RX10 131 yX10_keepsOf, Cond.instanceMethod yX10_keepsOf, Cond.selects RX10 yX10_keepsOf yX10_keepsOf, Cond.code yX10_keepsOf cX10_keepsOf 2 (some .int), Cond.fieldLink RX10 7 "OneTimerModel" "kindOf" "[I", Cond.methodLink RX10 134 yX10_out, Cond.static yX10_out, Cond.code yX10_out cX10_out 3 (some .int)]
def wsX10_sure : List Cond := .code yX10_sure cX10_sure 3 (some .int) :: ((wsX10_sure_r1 ++ wsX10_sure_r2) ++ wsX100)
def wsX10_bestNow_r1 : List Cond := [Cond.fieldLink RX10 107 "OneTimerModel" "spring" "I", Cond.methodLink RX10 171 yX10_sureNow, Cond.instanceMethod yX10_sureNow, Cond.selects RX10 yX10_sureNow yX10_sureNow, Cond.initialized RX10, Cond.code yX10_sureNow cX10_sureNow 6 (some .int), Cond.fieldLink RX10 116 "OneTimerModel" "minute" "I", Cond.methodLink RX10 142 yX10_outAt, Cond.instanceMethod yX10_outAt, Cond.selects RX10 yX10_outAt yX10_outAt, Cond.code yX10_outAt cX10_outAt 3 (some .int), Cond.methodLink RX10 128 yX10_dueOf, Cond.instanceMethod yX10_dueOf, Cond.selects RX10 yX10_dueOf yX10_dueOf, Cond.code yX10_dueOf cX10_dueOf 2 (some .int), Cond.fieldLink RX10 16 "OneTimerModel" "sinceOf" "[I", Cond.fieldLink RX10 13 "OneTimerModel" "wantsOf" "[I", Cond.methodLink RX10 131 yX10_keepsOf, Cond.instanceMethod yX10_keepsOf, Cond.selects RX10 yX10_keepsOf yX10_keepsOf, Cond.code yX10_keepsOf cX10_keepsOf 2 (some .int), Cond.fieldLink RX10 7 "OneTimerModel" "kindOf" "[I", Cond.methodLink RX10 134 yX10_out, Cond.static yX10_out]
def wsX10_bestNow_r2 : List Cond := [Cond.code yX10_out cX10_out 3 (some .int)]
def wsX10_bestNow : List Cond := .code yX10_bestNow cX10_bestNow 4 (some .int) :: ((wsX10_bestNow_r1 ++ wsX10_bestNow_r2) ++ wsX100)
def wsX10_best_r1 : List Cond := [Cond.methodLink RX10 145 yX10_isPot, Cond.instanceMethod yX10_isPot, Cond.selects RX10 yX10_isPot yX10_isPot, Cond.initialized RX10, Cond.code yX10_isPot cX10_isPot 2 (some .boolean), Cond.fieldLink RX10 101 "OneTimerModel" "pots" "I", Cond.methodLink RX10 68 yX10_within, Cond.static yX10_within, Cond.code yX10_within cX10_within 3 (some .boolean), Cond.methodLink RX10 138 yX10_boils, Cond.instanceMethod yX10_boils, Cond.selects RX10 yX10_boils yX10_boils, Cond.code yX10_boils cX10_boils 2 (some .boolean), Cond.fieldLink RX10 16 "OneTimerModel" "sinceOf" "[I", Cond.methodLink RX10 174 yX10_bestNow, Cond.instanceMethod yX10_bestNow, Cond.selects RX10 yX10_bestNow yX10_bestNow, Cond.code yX10_bestNow cX10_bestNow 4 (some .int), Cond.fieldLink RX10 107 "OneTimerModel" "spring" "I", Cond.methodLink RX10 171 yX10_sureNow, Cond.instanceMethod yX10_sureNow, Cond.selects RX10 yX10_sureNow yX10_sureNow, Cond.code yX10_sureNow cX10_sureNow 6 (some .int), Cond.fieldLink RX10 116 "OneTimerModel" "minute" "I"]
def wsX10_best_r2 : List Cond := [Cond.methodLink RX10 142 yX10_outAt, Cond.instanceMethod yX10_outAt, Cond.selects RX10 yX10_outAt yX10_outAt, Cond.code yX10_outAt cX10_outAt 3 (some .int), Cond.methodLink RX10 128 yX10_dueOf, Cond.instanceMethod yX10_dueOf, Cond.selects RX10 yX10_dueOf yX10_dueOf, Cond.code yX10_dueOf cX10_dueOf 2 (some .int), Cond.fieldLink RX10 13 "OneTimerModel" "wantsOf" "[I", Cond.methodLink RX10 131 yX10_keepsOf, Cond.instanceMethod yX10_keepsOf, Cond.selects RX10 yX10_keepsOf yX10_keepsOf, Cond.code yX10_keepsOf cX10_keepsOf 2 (some .int), Cond.fieldLink RX10 7 "OneTimerModel" "kindOf" "[I", Cond.methodLink RX10 134 yX10_out, Cond.static yX10_out, Cond.code yX10_out cX10_out 3 (some .int)]
def wsX10_best : List Cond := .code yX10_best cX10_best 2 (some .int) :: ((wsX10_best_r1 ++ wsX10_best_r2) ++ wsX100)
def wsX10_togetherNow : List Cond := .code yX10_togetherNow cX10_togetherNow 3 (some .int) :: ([.fieldLink RX10 13 "OneTimerModel" "wantsOf" "[I", .fieldLink RX10 116 "OneTimerModel" "minute" "I"] ++ wsX100)
def wsX10_together : List Cond := .code yX10_together cX10_together 3 (some .int) :: ([.methodLink RX10 145 yX10_isPot, .instanceMethod yX10_isPot, .selects RX10 yX10_isPot yX10_isPot, .initialized RX10, .code yX10_isPot cX10_isPot 2 (some .boolean), .fieldLink RX10 101 "OneTimerModel" "pots" "I", .methodLink RX10 68 yX10_within, .static yX10_within, .code yX10_within cX10_within 3 (some .boolean), .methodLink RX10 177 yX10_togetherNow, .instanceMethod yX10_togetherNow, .selects RX10 yX10_togetherNow yX10_togetherNow, .code yX10_togetherNow cX10_togetherNow 3 (some .int), .fieldLink RX10 13 "OneTimerModel" "wantsOf" "[I", .fieldLink RX10 116 "OneTimerModel" "minute" "I"] ++ wsX100)
def wsX10_tell_r1 : List Cond := [Cond.fieldLink RX10 125 "OneTimerModel" "told" "I", Cond.fieldLink RX10 25 "OneTimerModel" "toldMinute" "[I", Cond.fieldLink RX10 116 "OneTimerModel" "minute" "I", Cond.fieldLink RX10 28 "OneTimerModel" "toldDue" "[I", Cond.fieldLink RX10 31 "OneTimerModel" "toldKeeps" "[I", Cond.fieldLink RX10 34 "OneTimerModel" "toldOut" "[I", Cond.methodLink RX10 145 yX10_isPot, Cond.instanceMethod yX10_isPot, Cond.selects RX10 yX10_isPot yX10_isPot, Cond.initialized RX10, Cond.code yX10_isPot cX10_isPot 2 (some .boolean), Cond.fieldLink RX10 101 "OneTimerModel" "pots" "I", Cond.methodLink RX10 68 yX10_within, Cond.static yX10_within, Cond.code yX10_within cX10_within 3 (some .boolean), Cond.methodLink RX10 138 yX10_boils, Cond.instanceMethod yX10_boils, Cond.selects RX10 yX10_boils yX10_boils, Cond.code yX10_boils cX10_boils 2 (some .boolean), Cond.fieldLink RX10 16 "OneTimerModel" "sinceOf" "[I", Cond.methodLink RX10 128 yX10_dueOf, Cond.instanceMethod yX10_dueOf, Cond.selects RX10 yX10_dueOf yX10_dueOf, Cond.code yX10_dueOf cX10_dueOf 2 (some .int)]
def wsX10_tell_r2 : List Cond := [Cond.fieldLink RX10 13 "OneTimerModel" "wantsOf" "[I", Cond.methodLink RX10 131 yX10_keepsOf, Cond.instanceMethod yX10_keepsOf, Cond.selects RX10 yX10_keepsOf yX10_keepsOf, Cond.code yX10_keepsOf cX10_keepsOf 2 (some .int), Cond.fieldLink RX10 7 "OneTimerModel" "kindOf" "[I"]
def wsX10_tell : List Cond := .code yX10_tell cX10_tell 3 (some .int) :: ((wsX10_tell_r1 ++ wsX10_tell_r2) ++ wsX100)
def wsX10_forget : List Cond := .code yX10_forget cX10_forget 2 (some .int) :: ([.fieldLink RX10 125 "OneTimerModel" "told" "I"] ++ wsX100)
def wsX10_couldBe : List Cond := .code yX10_couldBe cX10_couldBe 4 (some .boolean) :: ([.fieldLink RX10 125 "OneTimerModel" "told" "I", .fieldLink RX10 25 "OneTimerModel" "toldMinute" "[I", .fieldLink RX10 28 "OneTimerModel" "toldDue" "[I", .fieldLink RX10 31 "OneTimerModel" "toldKeeps" "[I", .fieldLink RX10 34 "OneTimerModel" "toldOut" "[I", .methodLink RX10 134 yX10_out, .static yX10_out, .initialized RX10, .code yX10_out cX10_out 3 (some .int)] ++ wsX100)
def wsX10_woundNow : List Cond := .code yX10_woundNow cX10_woundNow 6 (some .int) :: ([.fieldLink RX10 107 "OneTimerModel" "spring" "I", .methodLink RX10 180 yX10_couldBe, .instanceMethod yX10_couldBe, .selects RX10 yX10_couldBe yX10_couldBe, .initialized RX10, .code yX10_couldBe cX10_couldBe 4 (some .boolean), .fieldLink RX10 125 "OneTimerModel" "told" "I", .fieldLink RX10 25 "OneTimerModel" "toldMinute" "[I", .fieldLink RX10 28 "OneTimerModel" "toldDue" "[I", .fieldLink RX10 31 "OneTimerModel" "toldKeeps" "[I", .fieldLink RX10 34 "OneTimerModel" "toldOut" "[I", .methodLink RX10 134 yX10_out, .static yX10_out, .code yX10_out cX10_out 3 (some .int)] ++ wsX100)
def wsX10_wound : List Cond := .code yX10_wound cX10_wound 2 (some .int) :: ([.fieldLink RX10 101 "OneTimerModel" "pots" "I", .methodLink RX10 68 yX10_within, .static yX10_within, .initialized RX10, .code yX10_within cX10_within 3 (some .boolean), .methodLink RX10 183 yX10_woundNow, .instanceMethod yX10_woundNow, .selects RX10 yX10_woundNow yX10_woundNow, .code yX10_woundNow cX10_woundNow 6 (some .int), .fieldLink RX10 107 "OneTimerModel" "spring" "I", .methodLink RX10 180 yX10_couldBe, .instanceMethod yX10_couldBe, .selects RX10 yX10_couldBe yX10_couldBe, .code yX10_couldBe cX10_couldBe 4 (some .boolean), .fieldLink RX10 125 "OneTimerModel" "told" "I", .fieldLink RX10 25 "OneTimerModel" "toldMinute" "[I", .fieldLink RX10 28 "OneTimerModel" "toldDue" "[I", .fieldLink RX10 31 "OneTimerModel" "toldKeeps" "[I", .fieldLink RX10 34 "OneTimerModel" "toldOut" "[I", .methodLink RX10 134 yX10_out, .static yX10_out, .code yX10_out cX10_out 3 (some .int)] ++ wsX100)
def wsX10_draw : List Cond := .code yX10_draw cX10_draw 2 (some .int) :: ([.constantLong RX10 186 (1103515245), .fieldLink RX10 188 "OneTimerModel" "seedNow" "J", .constantLong RX10 192 (12345), .constantLong RX10 194 (2147483647), .constantLong RX10 196 (65536)] ++ wsX100)
def wsX10_eveningsNow : List Cond := .code yX10_eveningsNow cX10_eveningsNow 12 (some .int) :: ([.fieldLink RX10 188 "OneTimerModel" "seedNow" "J", .fieldLink RX10 107 "OneTimerModel" "spring" "I", .fieldLink RX10 101 "OneTimerModel" "pots" "I", .fieldLink RX10 13 "OneTimerModel" "wantsOf" "[I", .methodLink RX10 198 yX10_draw, .instanceMethod yX10_draw, .selects RX10 yX10_draw yX10_draw, .initialized RX10, .code yX10_draw cX10_draw 2 (some .int), .constantLong RX10 186 (1103515245), .constantLong RX10 192 (12345), .constantLong RX10 194 (2147483647), .constantLong RX10 196 (65536), .methodLink RX10 131 yX10_keepsOf, .instanceMethod yX10_keepsOf, .selects RX10 yX10_keepsOf yX10_keepsOf, .code yX10_keepsOf cX10_keepsOf 2 (some .int), .fieldLink RX10 7 "OneTimerModel" "kindOf" "[I", .methodLink RX10 134 yX10_out, .static yX10_out, .code yX10_out cX10_out 3 (some .int)] ++ wsX100)
def wsX10_evenings_r1 : List Cond := [Cond.fieldLink RX10 101 "OneTimerModel" "pots" "I", Cond.methodLink RX10 68 yX10_within, Cond.static yX10_within, Cond.initialized RX10, Cond.code yX10_within cX10_within 3 (some .boolean), Cond.methodLink RX10 201 yX10_eveningsNow, Cond.instanceMethod yX10_eveningsNow, Cond.selects RX10 yX10_eveningsNow yX10_eveningsNow, Cond.code yX10_eveningsNow cX10_eveningsNow 12 (some .int), Cond.fieldLink RX10 188 "OneTimerModel" "seedNow" "J", Cond.fieldLink RX10 107 "OneTimerModel" "spring" "I", Cond.fieldLink RX10 13 "OneTimerModel" "wantsOf" "[I", Cond.methodLink RX10 198 yX10_draw, Cond.instanceMethod yX10_draw, Cond.selects RX10 yX10_draw yX10_draw, Cond.code yX10_draw cX10_draw 2 (some .int), Cond.constantLong RX10 186 (1103515245), Cond.constantLong RX10 192 (12345), Cond.constantLong RX10 194 (2147483647), Cond.constantLong RX10 196 (65536), Cond.methodLink RX10 131 yX10_keepsOf, Cond.instanceMethod yX10_keepsOf, Cond.selects RX10 yX10_keepsOf yX10_keepsOf, Cond.code yX10_keepsOf cX10_keepsOf 2 (some .int)]
def wsX10_evenings_r2 : List Cond := [Cond.fieldLink RX10 7 "OneTimerModel" "kindOf" "[I", Cond.methodLink RX10 134 yX10_out, Cond.static yX10_out, Cond.code yX10_out cX10_out 3 (some .int)]
def wsX10_evenings : List Cond := .code yX10_evenings cX10_evenings 4 (some .int) :: ((wsX10_evenings_r1 ++ wsX10_evenings_r2) ++ wsX100)
def wsX10_image_r1 : List Cond := [Cond.fieldLink RX10 101 "OneTimerModel" "pots" "I", Cond.fieldLink RX10 204 "OneTimerModel" "isKept" "Z", Cond.fieldLink RX10 113 "OneTimerModel" "kitchens" "I", Cond.fieldLink RX10 207 "OneTimerModel" "keptKitchen" "I", Cond.fieldLink RX10 116 "OneTimerModel" "minute" "I", Cond.fieldLink RX10 210 "OneTimerModel" "keptMinute" "I", Cond.fieldLink RX10 119 "OneTimerModel" "free" "I", Cond.fieldLink RX10 213 "OneTimerModel" "keptFree" "I", Cond.fieldLink RX10 122 "OneTimerModel" "windings" "I", Cond.fieldLink RX10 216 "OneTimerModel" "keptWindings" "I", Cond.fieldLink RX10 125 "OneTimerModel" "told" "I", Cond.fieldLink RX10 219 "OneTimerModel" "keptTold" "I", Cond.fieldLink RX10 47 "OneTimerModel" "keptSince" "[I", Cond.fieldLink RX10 16 "OneTimerModel" "sinceOf" "[I", Cond.fieldLink RX10 50 "OneTimerModel" "keptTaken" "[I", Cond.fieldLink RX10 19 "OneTimerModel" "takenOf" "[I", Cond.fieldLink RX10 53 "OneTimerModel" "keptOut" "[I", Cond.fieldLink RX10 22 "OneTimerModel" "outOf" "[I", Cond.fieldLink RX10 56 "OneTimerModel" "keptToldMinute" "[I", Cond.fieldLink RX10 25 "OneTimerModel" "toldMinute" "[I", Cond.fieldLink RX10 59 "OneTimerModel" "keptDue" "[I", Cond.fieldLink RX10 28 "OneTimerModel" "toldDue" "[I", Cond.fieldLink RX10 62 "OneTimerModel" "keptKeeps" "[I", Cond.fieldLink RX10 31 "OneTimerModel" "toldKeeps" "[I"]
def wsX10_image_r2 : List Cond := [Cond.fieldLink RX10 65 "OneTimerModel" "keptToldOut" "[I", Cond.fieldLink RX10 34 "OneTimerModel" "toldOut" "[I"]
def wsX10_image : List Cond := .code yX10_image cX10_image 2 (some .int) :: ((wsX10_image_r1 ++ wsX10_image_r2) ++ wsX100)
def wsX10_restore_r1 : List Cond := [Cond.fieldLink RX10 204 "OneTimerModel" "isKept" "Z", Cond.fieldLink RX10 207 "OneTimerModel" "keptKitchen" "I", Cond.fieldLink RX10 113 "OneTimerModel" "kitchens" "I", Cond.fieldLink RX10 210 "OneTimerModel" "keptMinute" "I", Cond.fieldLink RX10 116 "OneTimerModel" "minute" "I", Cond.fieldLink RX10 213 "OneTimerModel" "keptFree" "I", Cond.fieldLink RX10 119 "OneTimerModel" "free" "I", Cond.fieldLink RX10 216 "OneTimerModel" "keptWindings" "I", Cond.fieldLink RX10 122 "OneTimerModel" "windings" "I", Cond.fieldLink RX10 219 "OneTimerModel" "keptTold" "I", Cond.fieldLink RX10 125 "OneTimerModel" "told" "I", Cond.fieldLink RX10 16 "OneTimerModel" "sinceOf" "[I", Cond.fieldLink RX10 47 "OneTimerModel" "keptSince" "[I", Cond.fieldLink RX10 19 "OneTimerModel" "takenOf" "[I", Cond.fieldLink RX10 50 "OneTimerModel" "keptTaken" "[I", Cond.fieldLink RX10 22 "OneTimerModel" "outOf" "[I", Cond.fieldLink RX10 53 "OneTimerModel" "keptOut" "[I", Cond.fieldLink RX10 25 "OneTimerModel" "toldMinute" "[I", Cond.fieldLink RX10 56 "OneTimerModel" "keptToldMinute" "[I", Cond.fieldLink RX10 28 "OneTimerModel" "toldDue" "[I", Cond.fieldLink RX10 59 "OneTimerModel" "keptDue" "[I", Cond.fieldLink RX10 31 "OneTimerModel" "toldKeeps" "[I", Cond.fieldLink RX10 62 "OneTimerModel" "keptKeeps" "[I", Cond.fieldLink RX10 34 "OneTimerModel" "toldOut" "[I"]
def wsX10_restore_r2 : List Cond := [Cond.fieldLink RX10 65 "OneTimerModel" "keptToldOut" "[I"]
def wsX10_restore : List Cond := .code yX10_restore cX10_restore 2 (some .int) :: ((wsX10_restore_r1 ++ wsX10_restore_r2) ++ wsX100)
def wsX10_boiling : List Cond := .code yX10_boiling cX10_boiling 3 (some .int) :: ([.fieldLink RX10 101 "OneTimerModel" "pots" "I", .methodLink RX10 138 yX10_boils, .instanceMethod yX10_boils, .selects RX10 yX10_boils yX10_boils, .initialized RX10, .code yX10_boils cX10_boils 2 (some .boolean), .fieldLink RX10 16 "OneTimerModel" "sinceOf" "[I"] ++ wsX100)
def wsX10_howMany : List Cond := .code yX10_howMany cX10_howMany 2 (some .int) :: ([.fieldLink RX10 101 "OneTimerModel" "pots" "I", .fieldLink RX10 107 "OneTimerModel" "spring" "I", .fieldLink RX10 110 "OneTimerModel" "hands" "I", .fieldLink RX10 116 "OneTimerModel" "minute" "I", .fieldLink RX10 119 "OneTimerModel" "free" "I", .fieldLink RX10 122 "OneTimerModel" "windings" "I", .fieldLink RX10 125 "OneTimerModel" "told" "I", .fieldLink RX10 72 "OneTimerModel" "pageLength" "I", .fieldLink RX10 113 "OneTimerModel" "kitchens" "I", .fieldLink RX10 165 "OneTimerModel" "asks" "I", .methodLink RX10 222 yX10_boiling, .instanceMethod yX10_boiling, .selects RX10 yX10_boiling yX10_boiling, .initialized RX10, .code yX10_boiling cX10_boiling 3 (some .int), .methodLink RX10 138 yX10_boils, .instanceMethod yX10_boils, .selects RX10 yX10_boils yX10_boils, .code yX10_boils cX10_boils 2 (some .boolean), .fieldLink RX10 16 "OneTimerModel" "sinceOf" "[I"] ++ wsX100)
def wsX10_count : List Cond := .code yX10_count cX10_count 2 (some .int) :: ([.methodLink RX10 225 yX10_howMany, .instanceMethod yX10_howMany, .selects RX10 yX10_howMany yX10_howMany, .initialized RX10, .code yX10_howMany cX10_howMany 2 (some .int), .fieldLink RX10 101 "OneTimerModel" "pots" "I", .fieldLink RX10 107 "OneTimerModel" "spring" "I", .fieldLink RX10 110 "OneTimerModel" "hands" "I", .fieldLink RX10 116 "OneTimerModel" "minute" "I", .fieldLink RX10 119 "OneTimerModel" "free" "I", .fieldLink RX10 122 "OneTimerModel" "windings" "I", .fieldLink RX10 125 "OneTimerModel" "told" "I", .fieldLink RX10 72 "OneTimerModel" "pageLength" "I", .fieldLink RX10 113 "OneTimerModel" "kitchens" "I", .fieldLink RX10 165 "OneTimerModel" "asks" "I", .methodLink RX10 222 yX10_boiling, .instanceMethod yX10_boiling, .selects RX10 yX10_boiling yX10_boiling, .code yX10_boiling cX10_boiling 3 (some .int), .methodLink RX10 138 yX10_boils, .instanceMethod yX10_boils, .selects RX10 yX10_boils yX10_boils, .code yX10_boils cX10_boils 2 (some .boolean), .fieldLink RX10 16 "OneTimerModel" "sinceOf" "[I"] ++ wsX100)
def wsX10_mix : List Cond := .code yX10_mix cX10_mix 3 none :: ([.constantLong RX10 228 (31), .fieldLink RX10 230 "OneTimerModel" "h" "J"] ++ wsX100)
def wsX10_digest_r1 : List Cond := [Cond.constantLong RX10 233 (929), Cond.fieldLink RX10 230 "OneTimerModel" "h" "J", Cond.fieldLink RX10 101 "OneTimerModel" "pots" "I", Cond.fieldLink RX10 72 "OneTimerModel" "pageLength" "I", Cond.fieldLink RX10 37 "OneTimerModel" "page" "[B", Cond.methodLink RX10 148 yX10_potNow, Cond.instanceMethod yX10_potNow, Cond.selects RX10 yX10_potNow yX10_potNow, Cond.initialized RX10, Cond.code yX10_potNow cX10_potNow 3 (some .int), Cond.fieldLink RX10 7 "OneTimerModel" "kindOf" "[I", Cond.fieldLink RX10 13 "OneTimerModel" "wantsOf" "[I", Cond.fieldLink RX10 16 "OneTimerModel" "sinceOf" "[I", Cond.fieldLink RX10 116 "OneTimerModel" "minute" "I", Cond.fieldLink RX10 19 "OneTimerModel" "takenOf" "[I", Cond.fieldLink RX10 22 "OneTimerModel" "outOf" "[I", Cond.methodLink RX10 131 yX10_keepsOf, Cond.instanceMethod yX10_keepsOf, Cond.selects RX10 yX10_keepsOf yX10_keepsOf, Cond.code yX10_keepsOf cX10_keepsOf 2 (some .int), Cond.methodLink RX10 138 yX10_boils, Cond.instanceMethod yX10_boils, Cond.selects RX10 yX10_boils yX10_boils, Cond.code yX10_boils cX10_boils 2 (some .boolean)]
def wsX10_digest_r2 : List Cond := [Cond.methodLink RX10 128 yX10_dueOf, Cond.instanceMethod yX10_dueOf, Cond.selects RX10 yX10_dueOf yX10_dueOf, Cond.code yX10_dueOf cX10_dueOf 2 (some .int), Cond.methodLink RX10 142 yX10_outAt, Cond.instanceMethod yX10_outAt, Cond.selects RX10 yX10_outAt yX10_outAt, Cond.code yX10_outAt cX10_outAt 3 (some .int), Cond.methodLink RX10 134 yX10_out, Cond.static yX10_out, Cond.code yX10_out cX10_out 3 (some .int), Cond.methodLink RX10 235 yX10_mix, Cond.instanceMethod yX10_mix, Cond.selects RX10 yX10_mix yX10_mix, Cond.code yX10_mix cX10_mix 3 none, Cond.constantLong RX10 228 (31), Cond.methodLink RX10 174 yX10_bestNow, Cond.instanceMethod yX10_bestNow, Cond.selects RX10 yX10_bestNow yX10_bestNow, Cond.code yX10_bestNow cX10_bestNow 4 (some .int), Cond.fieldLink RX10 107 "OneTimerModel" "spring" "I", Cond.methodLink RX10 171 yX10_sureNow, Cond.instanceMethod yX10_sureNow, Cond.selects RX10 yX10_sureNow yX10_sureNow]
def wsX10_digest_r3 : List Cond := [Cond.code yX10_sureNow cX10_sureNow 6 (some .int), Cond.methodLink RX10 177 yX10_togetherNow, Cond.instanceMethod yX10_togetherNow, Cond.selects RX10 yX10_togetherNow yX10_togetherNow, Cond.code yX10_togetherNow cX10_togetherNow 3 (some .int), Cond.methodLink RX10 183 yX10_woundNow, Cond.instanceMethod yX10_woundNow, Cond.selects RX10 yX10_woundNow yX10_woundNow, Cond.code yX10_woundNow cX10_woundNow 6 (some .int), Cond.methodLink RX10 180 yX10_couldBe, Cond.instanceMethod yX10_couldBe, Cond.selects RX10 yX10_couldBe yX10_couldBe, Cond.code yX10_couldBe cX10_couldBe 4 (some .boolean), Cond.fieldLink RX10 125 "OneTimerModel" "told" "I", Cond.fieldLink RX10 25 "OneTimerModel" "toldMinute" "[I", Cond.fieldLink RX10 28 "OneTimerModel" "toldDue" "[I", Cond.fieldLink RX10 31 "OneTimerModel" "toldKeeps" "[I", Cond.fieldLink RX10 34 "OneTimerModel" "toldOut" "[I", Cond.methodLink RX10 225 yX10_howMany, Cond.instanceMethod yX10_howMany, Cond.selects RX10 yX10_howMany yX10_howMany, Cond.code yX10_howMany cX10_howMany 2 (some .int), Cond.fieldLink RX10 110 "OneTimerModel" "hands" "I", Cond.fieldLink RX10 119 "OneTimerModel" "free" "I"]
def wsX10_digest_r4 : List Cond := [Cond.fieldLink RX10 122 "OneTimerModel" "windings" "I", Cond.fieldLink RX10 113 "OneTimerModel" "kitchens" "I", Cond.fieldLink RX10 165 "OneTimerModel" "asks" "I", Cond.methodLink RX10 222 yX10_boiling, Cond.instanceMethod yX10_boiling, Cond.selects RX10 yX10_boiling yX10_boiling, Cond.code yX10_boiling cX10_boiling 3 (some .int)]
def wsX10_digest : List Cond := .code yX10_digest cX10_digest 3 (some .long) :: ((wsX10_digest_r1 ++ (wsX10_digest_r2 ++ (wsX10_digest_r3 ++ wsX10_digest_r4))) ++ wsX100)
def wsJ9_max_7cf53 : List Cond := .code yJ9_max_7cf53 cJ9_max_7cf53 2 (some .int) :: ([])
def wsJ9_min_7cf53 : List Cond := .code yJ9_min_7cf53 cJ9_min_7cf53 2 (some .int) :: ([])
def wsL_law_r1 : List Cond := [Cond.classLink RL 7 RX9, Cond.instantiable RX9 18, Cond.initialized RX9, Cond.classLink RL 10 RX10, Cond.instantiable RX10 39, Cond.initialized RX10, Cond.methodLink RL 9 yX9_init, Cond.instanceMethod yX9_init, Cond.code yX9_init cX9_init 1 none, Cond.methodLink RX9 1 objectInit, Cond.instanceMethod objectInit, Cond.code objectInit ⟨#[0xb1]⟩ 1 none, Cond.classLink RX9 7 RX3, Cond.instantiable RX3 2, Cond.initialized RX3, Cond.fieldLink RX9 10 "OneTimer" "page" "LOneTimer$Page;", Cond.classLink RX9 16 RX5, Cond.fieldLink RX9 18 "OneTimer" "pots" "[LOneTimer$Pot;", Cond.classLink RX9 22 RX8, Cond.instantiable RX8 4, Cond.initialized RX8, Cond.fieldLink RX9 25 "OneTimer" "told" "LOneTimer$Told;", Cond.fieldLink RX9 29 "OneTimer" "keptTold" "LOneTimer$Told;", Cond.classLink RX9 32 RX4]
def wsL_law_r2 : List Cond := [Cond.instantiable RX4 9, Cond.initialized RX4, Cond.fieldLink RX9 35 "OneTimer" "planner" "LOneTimer$Planner;", Cond.classLink RX9 39 RX1, Cond.instantiable RX1 1, Cond.initialized RX1, Cond.fieldLink RX9 42 "OneTimer" "draws" "LOneTimer$Draws;", Cond.instanceMethod yX3_init, Cond.code yX3_init cX3_init 1 none, Cond.methodLink RX3 3 objectInit, Cond.arrayClass .int, Cond.fieldLink RX3 11 "OneTimer$Page" "letters" "[I", Cond.instanceMethod yX8_init, Cond.code yX8_init cX8_init 1 none, Cond.methodLink RX8 1 objectInit, Cond.fieldLink RX8 9 "OneTimer$Told" "untilDue" "[I", Cond.fieldLink RX8 13 "OneTimer$Told" "keeps" "[I", Cond.fieldLink RX8 16 "OneTimer$Told" "outs" "[I", Cond.instanceMethod yX4_init, Cond.code yX4_init cX4_init 1 none, Cond.methodLink RX4 3 objectInit, Cond.fieldLink RX4 11 "OneTimer$Planner" "fewest" "[I", Cond.fieldLink RX4 15 "OneTimer$Planner" "afterTaking" "[I", Cond.fieldLink RX4 18 "OneTimer$Planner" "opens" "[I"]
def wsL_law_r3 : List Cond := [Cond.fieldLink RX4 21 "OneTimer$Planner" "closes" "[I", Cond.instanceMethod yX1_init, Cond.code yX1_init cX1_init 1 none, Cond.methodLink RX1 1 objectInit, Cond.methodLink RL 12 yX10_init, Cond.instanceMethod yX10_init, Cond.code yX10_init cX10_init 1 none, Cond.methodLink RX10 1 objectInit, Cond.fieldLink RX10 7 "OneTimerModel" "kindOf" "[I", Cond.fieldLink RX10 13 "OneTimerModel" "wantsOf" "[I", Cond.fieldLink RX10 16 "OneTimerModel" "sinceOf" "[I", Cond.fieldLink RX10 19 "OneTimerModel" "takenOf" "[I", Cond.fieldLink RX10 22 "OneTimerModel" "outOf" "[I", Cond.fieldLink RX10 25 "OneTimerModel" "toldMinute" "[I", Cond.fieldLink RX10 28 "OneTimerModel" "toldDue" "[I", Cond.fieldLink RX10 31 "OneTimerModel" "toldKeeps" "[I", Cond.fieldLink RX10 34 "OneTimerModel" "toldOut" "[I", Cond.arrayClass .byte, Cond.fieldLink RX10 37 "OneTimerModel" "page" "[B", Cond.fieldLink RX10 41 "OneTimerModel" "farOf" "[I", Cond.fieldLink RX10 44 "OneTimerModel" "firstOf" "[I", Cond.fieldLink RX10 47 "OneTimerModel" "keptSince" "[I", Cond.fieldLink RX10 50 "OneTimerModel" "keptTaken" "[I", Cond.fieldLink RX10 53 "OneTimerModel" "keptOut" "[I"]
def wsL_law_r4 : List Cond := [Cond.fieldLink RX10 56 "OneTimerModel" "keptToldMinute" "[I", Cond.fieldLink RX10 59 "OneTimerModel" "keptDue" "[I", Cond.fieldLink RX10 62 "OneTimerModel" "keptKeeps" "[I", Cond.fieldLink RX10 65 "OneTimerModel" "keptToldOut" "[I", Cond.methodLink RL 13 yX9_letter, Cond.instanceMethod yX9_letter, Cond.selects RX9 yX9_letter yX9_letter, Cond.code yX9_letter cX9_letter 2 (some .int), Cond.fieldLink RX9 50 "OneTimer$Page" "size" "I", Cond.methodLink RX9 46 yX3_write, Cond.instanceMethod yX3_write, Cond.selects RX3 yX3_write yX3_write, Cond.code yX3_write cX3_write 2 (some .boolean), Cond.fieldLink RX3 15 "OneTimer$Page" "size" "I", Cond.methodLink RL 17 yX10_letter, Cond.instanceMethod yX10_letter, Cond.selects RX10 yX10_letter yX10_letter, Cond.code yX10_letter cX10_letter 2 (some .int), Cond.fieldLink RX10 72 "OneTimerModel" "pageLength" "I", Cond.methodLink RX10 68 yX10_within, Cond.static yX10_within, Cond.code yX10_within cX10_within 3 (some .boolean), Cond.methodLink RL 18 yX9_blank, Cond.instanceMethod yX9_blank]
def wsL_law_r5 : List Cond := [Cond.selects RX9 yX9_blank yX9_blank, Cond.code yX9_blank cX9_blank 2 (some .int), Cond.methodLink RL 22 yX10_blank, Cond.instanceMethod yX10_blank, Cond.selects RX10 yX10_blank yX10_blank, Cond.code yX10_blank cX10_blank 2 (some .int), Cond.methodLink RL 23 yX9_fault, Cond.instanceMethod yX9_fault, Cond.selects RX9 yX9_fault yX9_fault, Cond.code yX9_fault cX9_fault 1 (some .int), Cond.methodLink RX9 54 yX3_faultPlace, Cond.instanceMethod yX3_faultPlace, Cond.selects RX3 yX3_faultPlace yX3_faultPlace, Cond.code yX3_faultPlace cX3_faultPlace 4 (some .int), Cond.methodLink RX3 19 yX3_fitsPots, Cond.instanceMethod yX3_fitsPots, Cond.selects RX3 yX3_fitsPots yX3_fitsPots, Cond.code yX3_fitsPots cX3_fitsPots 3 (some .boolean), Cond.methodLink RX3 27 yX3_codeAt, Cond.instanceMethod yX3_codeAt, Cond.selects RX3 yX3_codeAt yX3_codeAt, Cond.code yX3_codeAt cX3_codeAt 2 (some .int), Cond.methodLink RX3 31 yX3_kindOf, Cond.static yX3_kindOf]
def wsL_law_r6 : List Cond := [Cond.code yX3_kindOf cX3_kindOf 1 (some .int), Cond.methodLink RX3 34 yX3_fitsSecondDigit, Cond.static yX3_fitsSecondDigit, Cond.code yX3_fitsSecondDigit cX3_fitsSecondDigit 3 (some .boolean), Cond.methodLink RX3 23 yX3_fitsEnd, Cond.instanceMethod yX3_fitsEnd, Cond.selects RX3 yX3_fitsEnd yX3_fitsEnd, Cond.code yX3_fitsEnd cX3_fitsEnd 4 (some .boolean), Cond.methodLink RL 26 yX10_fault, Cond.instanceMethod yX10_fault, Cond.selects RX10 yX10_fault yX10_fault, Cond.code yX10_fault cX10_fault 1 (some .int), Cond.methodLink RX10 97 yX10_read, Cond.instanceMethod yX10_read, Cond.selects RX10 yX10_read yX10_read, Cond.code yX10_read cX10_read 3 (some .int), Cond.fieldLink RX10 84 "OneTimerModel" "isWhole" "Z", Cond.fieldLink RX10 88 "OneTimerModel" "newMany" "I", Cond.methodLink RX10 91 yX10_kindBy, Cond.static yX10_kindBy, Cond.code yX10_kindBy cX10_kindBy 1 (some .int), Cond.methodLink RX10 80 yX10_readTwo, Cond.instanceMethod yX10_readTwo, Cond.selects RX10 yX10_readTwo yX10_readTwo]
def wsL_law_r7 : List Cond := [Cond.code yX10_readTwo cX10_readTwo 6 (some .int), Cond.methodLink RX10 76 yX10_figure, Cond.instanceMethod yX10_figure, Cond.selects RX10 yX10_figure yX10_figure, Cond.code yX10_figure cX10_figure 2 (some .int), Cond.methodLink RX10 94 yX10_readRest, Cond.instanceMethod yX10_readRest, Cond.selects RX10 yX10_readRest yX10_readRest, Cond.code yX10_readRest cX10_readRest 3 (some .int), Cond.methodLink RL 27 yX9_kitchen, Cond.instanceMethod yX9_kitchen, Cond.selects RX9 yX9_kitchen yX9_kitchen, Cond.code yX9_kitchen cX9_kitchen 1 (some .int), Cond.fieldLink RX9 68 "OneTimer" "spring" "I", Cond.fieldLink RX9 74 "OneTimer" "hands" "I", Cond.fieldLink RX9 80 "OneTimer" "kitchensRead" "I", Cond.fieldLink RX9 83 "OneTimer" "potCount" "I", Cond.methodLink RX9 58 yX3_isKitchen, Cond.instanceMethod yX3_isKitchen, Cond.selects RX3 yX3_isKitchen yX3_isKitchen, Cond.code yX3_isKitchen cX3_isKitchen 1 (some .boolean), Cond.methodLink RX3 38 yX3_faultPlace, Cond.methodLink RX9 62 yX9_readPots, Cond.instanceMethod yX9_readPots]
def wsL_law_r8 : List Cond := [Cond.selects RX9 yX9_readPots yX9_readPots, Cond.code yX9_readPots cX9_readPots 2 none, Cond.methodLink RX9 89 Lib.Math.min.name, Cond.static Lib.Math.min.name, Cond.initialized "java/lang/Math", Cond.code Lib.Math.min.name Lib.Math.min.code 2 (some .int), Cond.methodLink RX9 86 yX3_potsTold, Cond.instanceMethod yX3_potsTold, Cond.selects RX3 yX3_potsTold yX3_potsTold, Cond.code yX3_potsTold cX3_potsTold 1 (some .int), Cond.methodLink RX9 95 yX3_kindTold, Cond.instanceMethod yX3_kindTold, Cond.selects RX3 yX3_kindTold yX3_kindTold, Cond.code yX3_kindTold cX3_kindTold 2 (some .int), Cond.methodLink RX9 99 yX3_wantsTold, Cond.instanceMethod yX3_wantsTold, Cond.selects RX3 yX3_wantsTold yX3_wantsTold, Cond.code yX3_wantsTold cX3_wantsTold 2 (some .int), Cond.methodLink RX3 42 yX3_twoDigits, Cond.instanceMethod yX3_twoDigits, Cond.selects RX3 yX3_twoDigits yX3_twoDigits, Cond.code yX3_twoDigits cX3_twoDigits 2 (some .int), Cond.methodLink RX9 102 yX9_newPot, Cond.static yX9_newPot]
def wsL_law_r9 : List Cond := [Cond.code yX9_newPot cX9_newPot 2 (some (.object "OneTimer$Pot")), Cond.classLink RX9 120 RX2, Cond.instantiable RX2 7, Cond.initialized RX2, Cond.classLink RX9 125 RX6, Cond.instantiable RX6 7, Cond.initialized RX6, Cond.classLink RX9 128 RX7, Cond.instantiable RX7 7, Cond.initialized RX7, Cond.classLink RX9 131 RX0, Cond.instantiable RX0 7, Cond.initialized RX0, Cond.instantiable RX5 7, Cond.initialized RX5, Cond.methodLink RX9 122 yX2_init, Cond.instanceMethod yX2_init, Cond.code yX2_init cX2_init 2 none, Cond.methodLink RX2 1 yX5_init, Cond.instanceMethod yX5_init, Cond.code yX5_init cX5_init 2 none, Cond.methodLink RX5 3 objectInit, Cond.fieldLink RX5 9 "OneTimer$Pot" "since" "I", Cond.fieldLink RX5 15 "OneTimer$Pot" "lastOut" "I"]
def wsL_law_r10 : List Cond := [Cond.fieldLink RX5 18 "OneTimer$Pot" "keptSince" "I", Cond.fieldLink RX5 21 "OneTimer$Pot" "keptLastOut" "I", Cond.fieldLink RX5 24 "OneTimer$Pot" "wants" "I", Cond.methodLink RX9 127 yX6_init, Cond.instanceMethod yX6_init, Cond.code yX6_init cX6_init 2 none, Cond.methodLink RX6 1 yX5_init, Cond.methodLink RX9 130 yX7_init, Cond.instanceMethod yX7_init, Cond.code yX7_init cX7_init 2 none, Cond.methodLink RX7 1 yX5_init, Cond.methodLink RX9 133 yX0_init, Cond.instanceMethod yX0_init, Cond.code yX0_init cX0_init 2 none, Cond.methodLink RX0 1 yX6_init, Cond.methodLink RX9 134 yX5_init, Cond.methodLink RX9 65 yX3_springTold, Cond.instanceMethod yX3_springTold, Cond.selects RX3 yX3_springTold yX3_springTold, Cond.code yX3_springTold cX3_springTold 1 (some .int), Cond.methodLink RX9 71 yX3_handsTold, Cond.instanceMethod yX3_handsTold, Cond.selects RX3 yX3_handsTold yX3_handsTold, Cond.code yX3_handsTold cX3_handsTold 1 (some .int)]
def wsL_law_r11 : List Cond := [Cond.methodLink RX9 77 yX9_startEvening, Cond.instanceMethod yX9_startEvening, Cond.selects RX9 yX9_startEvening yX9_startEvening, Cond.code yX9_startEvening cX9_startEvening 1 none, Cond.fieldLink RX9 106 "OneTimer" "minute" "I", Cond.fieldLink RX9 109 "OneTimer" "free" "I", Cond.fieldLink RX9 112 "OneTimer" "windings" "I", Cond.fieldLink RX9 115 "OneTimer$Told" "size" "I", Cond.fieldLink RX9 116 "OneTimer" "hasImage" "Z", Cond.methodLink RL 30 yX10_kitchen, Cond.instanceMethod yX10_kitchen, Cond.selects RX10 yX10_kitchen yX10_kitchen, Cond.code yX10_kitchen cX10_kitchen 3 (some .int), Cond.fieldLink RX10 101 "OneTimerModel" "pots" "I", Cond.fieldLink RX10 107 "OneTimerModel" "spring" "I", Cond.fieldLink RX10 110 "OneTimerModel" "hands" "I", Cond.fieldLink RX10 113 "OneTimerModel" "kitchens" "I", Cond.fieldLink RX10 116 "OneTimerModel" "minute" "I", Cond.fieldLink RX10 119 "OneTimerModel" "free" "I", Cond.fieldLink RX10 122 "OneTimerModel" "windings" "I", Cond.fieldLink RX10 125 "OneTimerModel" "told" "I", Cond.methodLink RX10 104 yX10_two, Cond.instanceMethod yX10_two, Cond.selects RX10 yX10_two yX10_two]
def wsL_law_r12 : List Cond := [Cond.code yX10_two cX10_two 2 (some .int), Cond.methodLink RL 31 yX9_about, Cond.instanceMethod yX9_about, Cond.selects RX9 yX9_about yX9_about, Cond.code yX9_about cX9_about 4 (some .int), Cond.fieldLink RX9 142 "OneTimer$Pot" "wants" "I", Cond.fieldLink RX9 148 "OneTimer$Pot" "since" "I", Cond.fieldLink RX9 160 "OneTimer$Pot" "timesTaken" "I", Cond.fieldLink RX9 163 "OneTimer$Pot" "lastOut" "I", Cond.methodLink RX9 135 yX9_potAt, Cond.instanceMethod yX9_potAt, Cond.selects RX9 yX9_potAt yX9_potAt, Cond.code yX9_potAt cX9_potAt 2 (some (.object "OneTimer$Pot")), Cond.methodLink RX9 139 ⟨"OneTimer$Pot", "kind", "()I"⟩, Cond.sameMethod "OneTimer$Pot" "OneTimer$Pot" "kind" "()I", Cond.instanceMethod ⟨"OneTimer$Pot", "kind", "()I"⟩, Cond.selects RX0 ⟨"OneTimer$Pot", "kind", "()I"⟩ yX0_kind, Cond.instanceMethod yX0_kind, Cond.code yX0_kind cX0_kind 1 (some .int), Cond.code yX5_kind cX5_kind 1 (some .int), Cond.selects RX2 ⟨"OneTimer$Pot", "kind", "()I"⟩ yX2_kind, Cond.instanceMethod yX2_kind, Cond.code yX2_kind cX2_kind 1 (some .int), Cond.methodLink RX9 139 yX5_kind]
def wsL_law_r13 : List Cond := [Cond.instanceMethod yX5_kind, Cond.selects RX5 yX5_kind yX5_kind, Cond.selects RX6 ⟨"OneTimer$Pot", "kind", "()I"⟩ yX6_kind, Cond.instanceMethod yX6_kind, Cond.code yX6_kind cX6_kind 1 (some .int), Cond.selects RX7 ⟨"OneTimer$Pot", "kind", "()I"⟩ yX7_kind, Cond.instanceMethod yX7_kind, Cond.code yX7_kind cX7_kind 1 (some .int), Cond.methodLink RX9 145 ⟨"OneTimer$Pot", "keeps", "()I"⟩, Cond.sameMethod "OneTimer$Pot" "OneTimer$Pot" "keeps" "()I", Cond.instanceMethod ⟨"OneTimer$Pot", "keeps", "()I"⟩, Cond.selects RX0 ⟨"OneTimer$Pot", "keeps", "()I"⟩ yX0_keeps, Cond.instanceMethod yX0_keeps, Cond.code yX0_keeps cX0_keeps 1 (some .int), Cond.methodLink RX0 7 yX6_keeps, Cond.sameMethod "OneTimer$Rice" "OneTimer$Rice" "keeps" "()I", Cond.superclass RX0 RX6, Cond.instanceMethod yX6_keeps, Cond.code yX6_keeps cX6_keeps 1 (some .int), Cond.code yX5_keeps cX5_keeps 1 (some .int), Cond.selects RX2 ⟨"OneTimer$Pot", "keeps", "()I"⟩ yX2_keeps, Cond.instanceMethod yX2_keeps, Cond.code yX2_keeps cX2_keeps 1 (some .int), Cond.methodLink RX9 145 yX5_keeps]
def wsL_law_r14 : List Cond := [Cond.instanceMethod yX5_keeps, Cond.selects RX5 yX5_keeps yX5_keeps, Cond.selects RX6 ⟨"OneTimer$Pot", "keeps", "()I"⟩ yX6_keeps, Cond.selects RX7 ⟨"OneTimer$Pot", "keeps", "()I"⟩ yX7_keeps, Cond.instanceMethod yX7_keeps, Cond.code yX7_keeps cX7_keeps 1 (some .int), Cond.methodLink RX9 151 ⟨"OneTimer$Pot", "boils", "()Z"⟩, Cond.sameMethod "OneTimer$Pot" "OneTimer$Pot" "boils" "()Z", Cond.selects RX0 ⟨"OneTimer$Pot", "boils", "()Z"⟩ yX5_boils, Cond.instanceMethod yX5_boils, Cond.code yX5_boils cX5_boils 1 (some .boolean), Cond.selects RX2 ⟨"OneTimer$Pot", "boils", "()Z"⟩ yX5_boils, Cond.methodLink RX9 151 yX5_boils, Cond.selects RX5 yX5_boils yX5_boils, Cond.selects RX6 ⟨"OneTimer$Pot", "boils", "()Z"⟩ yX5_boils, Cond.selects RX7 ⟨"OneTimer$Pot", "boils", "()Z"⟩ yX5_boils, Cond.methodLink RX9 154 ⟨"OneTimer$Pot", "due", "()I"⟩, Cond.sameMethod "OneTimer$Pot" "OneTimer$Pot" "due" "()I", Cond.selects RX0 ⟨"OneTimer$Pot", "due", "()I"⟩ yX5_due, Cond.instanceMethod yX5_due, Cond.code yX5_due cX5_due 1 (some .int), Cond.selects RX2 ⟨"OneTimer$Pot", "due", "()I"⟩ yX5_due, Cond.methodLink RX9 154 yX5_due, Cond.selects RX5 yX5_due yX5_due]
def wsL_law_r15 : List Cond := [Cond.selects RX6 ⟨"OneTimer$Pot", "due", "()I"⟩ yX5_due, Cond.selects RX7 ⟨"OneTimer$Pot", "due", "()I"⟩ yX5_due, Cond.methodLink RX9 157 ⟨"OneTimer$Pot", "outAt", "(I)I"⟩, Cond.sameMethod "OneTimer$Pot" "OneTimer$Pot" "outAt" "(I)I", Cond.selects RX0 ⟨"OneTimer$Pot", "outAt", "(I)I"⟩ yX5_outAt, Cond.instanceMethod yX5_outAt, Cond.code yX5_outAt cX5_outAt 2 (some .int), Cond.methodLink RX5 27 ⟨"OneTimer$Pot", "due", "()I"⟩, Cond.methodLink RX5 27 yX5_due, Cond.methodLink RX5 31 ⟨"OneTimer$Pot", "keeps", "()I"⟩, Cond.methodLink RX5 31 yX5_keeps, Cond.static yX9_outBy, Cond.code yX9_outBy cX9_outBy 2 (some .int), Cond.selects RX2 ⟨"OneTimer$Pot", "outAt", "(I)I"⟩ yX5_outAt, Cond.methodLink RX9 157 yX5_outAt, Cond.selects RX5 yX5_outAt yX5_outAt, Cond.selects RX6 ⟨"OneTimer$Pot", "outAt", "(I)I"⟩ yX5_outAt, Cond.selects RX7 ⟨"OneTimer$Pot", "outAt", "(I)I"⟩ yX5_outAt, Cond.methodLink RL 35 yX10_about, Cond.instanceMethod yX10_about, Cond.selects RX10 yX10_about yX10_about, Cond.code yX10_about cX10_about 3 (some .int), Cond.methodLink RX10 145 yX10_isPot, Cond.instanceMethod yX10_isPot]
def wsL_law_r16 : List Cond := [Cond.selects RX10 yX10_isPot yX10_isPot, Cond.code yX10_isPot cX10_isPot 2 (some .boolean), Cond.methodLink RX10 148 yX10_potNow, Cond.instanceMethod yX10_potNow, Cond.selects RX10 yX10_potNow yX10_potNow, Cond.code yX10_potNow cX10_potNow 3 (some .int), Cond.methodLink RX10 131 yX10_keepsOf, Cond.instanceMethod yX10_keepsOf, Cond.selects RX10 yX10_keepsOf yX10_keepsOf, Cond.code yX10_keepsOf cX10_keepsOf 2 (some .int), Cond.methodLink RX10 138 yX10_boils, Cond.instanceMethod yX10_boils, Cond.selects RX10 yX10_boils yX10_boils, Cond.code yX10_boils cX10_boils 2 (some .boolean), Cond.methodLink RX10 128 yX10_dueOf, Cond.instanceMethod yX10_dueOf, Cond.selects RX10 yX10_dueOf yX10_dueOf, Cond.code yX10_dueOf cX10_dueOf 2 (some .int), Cond.methodLink RX10 142 yX10_outAt, Cond.instanceMethod yX10_outAt, Cond.selects RX10 yX10_outAt yX10_outAt, Cond.code yX10_outAt cX10_outAt 3 (some .int), Cond.methodLink RX10 134 yX10_out, Cond.static yX10_out]
def wsL_law_r17 : List Cond := [Cond.code yX10_out cX10_out 3 (some .int), Cond.methodLink RL 36 yX9_as, Cond.instanceMethod yX9_as, Cond.selects RX9 yX9_as yX9_as, Cond.code yX9_as cX9_as 4 (some .int), Cond.methodLink RX9 166 yX9_isOfKind, Cond.static yX9_isOfKind, Cond.code yX9_isOfKind cX9_isOfKind 2 (some .boolean), Cond.classLink RX9 120 "OneTimer$Eggs", Cond.classLink RX9 125 "OneTimer$Rice", Cond.classLink RX9 128 "OneTimer$Stew", Cond.classLink RX9 131 "OneTimer$Beans", Cond.methodLink RL 39 yX10_as, Cond.instanceMethod yX10_as, Cond.selects RX10 yX10_as yX10_as, Cond.code yX10_as cX10_as 4 (some .int), Cond.methodLink RL 40 yX9_boil, Cond.instanceMethod yX9_boil, Cond.selects RX9 yX9_boil yX9_boil, Cond.code yX9_boil cX9_boil 3 (some .int), Cond.methodLink RL 43 yX10_boil, Cond.instanceMethod yX10_boil, Cond.selects RX10 yX10_boil yX10_boil, Cond.code yX10_boil cX10_boil 2 (some .int)]
def wsL_law_r18 : List Cond := [Cond.methodLink RL 44 yX9_wind, Cond.instanceMethod yX9_wind, Cond.selects RX9 yX9_wind yX9_wind, Cond.code yX9_wind cX9_wind 2 (some .int), Cond.methodLink RX9 170 yX9_hasKitchen, Cond.instanceMethod yX9_hasKitchen, Cond.selects RX9 yX9_hasKitchen yX9_hasKitchen, Cond.code yX9_hasKitchen cX9_hasKitchen 1 (some .boolean), Cond.methodLink RL 47 yX10_wind, Cond.instanceMethod yX10_wind, Cond.selects RX10 yX10_wind yX10_wind, Cond.code yX10_wind cX10_wind 2 (some .int), Cond.methodLink RL 48 yX9_take, Cond.instanceMethod yX9_take, Cond.selects RX9 yX9_take yX9_take, Cond.code yX9_take cX9_take 3 (some .int), Cond.methodLink RX9 173 ⟨"OneTimer$Pot", "comeOut", "(I)V"⟩, Cond.sameMethod "OneTimer$Pot" "OneTimer$Pot" "comeOut" "(I)V", Cond.selects RX0 ⟨"OneTimer$Pot", "comeOut", "(I)V"⟩ yX5_comeOut, Cond.instanceMethod yX5_comeOut, Cond.code yX5_comeOut cX5_comeOut 2 none, Cond.fieldLink RX5 42 "OneTimer$Pot" "timesTaken" "I", Cond.methodLink RX5 38 ⟨"OneTimer$Pot", "outAt", "(I)I"⟩, Cond.methodLink RX5 38 yX5_outAt]
def wsL_law_r19 : List Cond := [Cond.selects RX2 ⟨"OneTimer$Pot", "comeOut", "(I)V"⟩ yX5_comeOut, Cond.methodLink RX9 173 yX5_comeOut, Cond.selects RX5 yX5_comeOut yX5_comeOut, Cond.selects RX6 ⟨"OneTimer$Pot", "comeOut", "(I)V"⟩ yX5_comeOut, Cond.selects RX7 ⟨"OneTimer$Pot", "comeOut", "(I)V"⟩ yX5_comeOut, Cond.methodLink RL 51 yX10_take, Cond.instanceMethod yX10_take, Cond.selects RX10 yX10_take yX10_take, Cond.code yX10_take cX10_take 2 (some .int), Cond.methodLink RL 52 yX9_plan, Cond.instanceMethod yX9_plan, Cond.selects RX9 yX9_plan yX9_plan, Cond.code yX9_plan cX9_plan 4 (some .int), Cond.fieldLink RX9 176 "OneTimer" "plansDone" "I", Cond.methodLink RX9 179 yX4_begin, Cond.instanceMethod yX4_begin, Cond.selects RX4 yX4_begin yX4_begin, Cond.code yX4_begin cX4_begin 4 none, Cond.fieldLink RX4 24 "OneTimer$Planner" "size" "I", Cond.fieldLink RX4 28 "OneTimer$Planner" "last" "I", Cond.fieldLink RX4 31 "OneTimer$Planner" "spring" "I", Cond.fieldLink RX4 34 "OneTimer$Planner" "hands" "I", Cond.fieldLink RX4 37 "OneTimer$Planner" "freeNow" "I", Cond.methodLink RX9 183 yX4_add]
def wsL_law_r20 : List Cond := [Cond.instanceMethod yX4_add, Cond.selects RX4 yX4_add yX4_add, Cond.code yX4_add cX4_add 3 none, Cond.methodLink RX4 40 Lib.Math.max.name, Cond.static Lib.Math.max.name, Cond.code Lib.Math.max.name Lib.Math.max.code 2 (some .int), Cond.methodLink RX4 46 Lib.Math.min.name, Cond.methodLink RX9 187 yX4_fill, Cond.instanceMethod yX4_fill, Cond.selects RX4 yX4_fill yX4_fill, Cond.code yX4_fill cX4_fill 2 none, Cond.methodLink RX4 49 yX4_fillMinute, Cond.instanceMethod yX4_fillMinute, Cond.selects RX4 yX4_fillMinute yX4_fillMinute, Cond.code yX4_fillMinute cX4_fillMinute 5 none, Cond.methodLink RX4 53 yX4_allPots, Cond.instanceMethod yX4_allPots, Cond.selects RX4 yX4_allPots yX4_allPots, Cond.code yX4_allPots cX4_allPots 1 (some .int), Cond.methodLink RX4 57 yX4_goodAt, Cond.instanceMethod yX4_goodAt, Cond.selects RX4 yX4_goodAt yX4_goodAt, Cond.code yX4_goodAt cX4_goodAt 4 (some .int), Cond.methodLink RX4 61 yX4_byWinding]
def wsL_law_r21 : List Cond := [Cond.instanceMethod yX4_byWinding, Cond.selects RX4 yX4_byWinding yX4_byWinding, Cond.code yX4_byWinding cX4_byWinding 5 (some .int), Cond.methodLink RX4 64 yX4_byTaking, Cond.instanceMethod yX4_byTaking, Cond.selects RX4 yX4_byTaking yX4_byTaking, Cond.code yX4_byTaking cX4_byTaking 6 (some .int), Cond.methodLink RX4 68 yX4_canTake, Cond.static yX4_canTake, Cond.code yX4_canTake cX4_canTake 3 (some .boolean), Cond.methodLink RX4 72 yJ6_bitCount_0f7a4, Cond.static yJ6_bitCount_0f7a4, Cond.initialized RJ6, Cond.code yJ6_bitCount_0f7a4 cJ6_bitCount_0f7a4 1 (some .int), Cond.constant RJ6 265 (1431655765), Cond.constant RJ6 266 (858993459), Cond.constant RJ6 267 (252645135), Cond.methodLink RX9 190 yX4_howFew, Cond.instanceMethod yX4_howFew, Cond.selects RX4 yX4_howFew yX4_howFew, Cond.code yX4_howFew cX4_howFew 2 (some .int), Cond.methodLink RX9 193 yX4_first, Cond.instanceMethod yX4_first, Cond.selects RX4 yX4_first yX4_first]
def wsL_law_r22 : List Cond := [Cond.code yX4_first cX4_first 3 (some .int), Cond.methodLink RX4 77 yX4_howFew, Cond.methodLink RX4 80 yX4_leadsOn, Cond.instanceMethod yX4_leadsOn, Cond.selects RX4 yX4_leadsOn yX4_leadsOn, Cond.code yX4_leadsOn cX4_leadsOn 5 (some .boolean), Cond.methodLink RL 55 yX10_plan, Cond.instanceMethod yX10_plan, Cond.selects RX10 yX10_plan yX10_plan, Cond.code yX10_plan cX10_plan 2 (some .int), Cond.fieldLink RX10 165 "OneTimerModel" "asks" "I", Cond.methodLink RX10 168 yX10_planNow, Cond.instanceMethod yX10_planNow, Cond.selects RX10 yX10_planNow yX10_planNow, Cond.code yX10_planNow cX10_planNow 9 (some .int), Cond.constant RX10 164 (268435456), Cond.methodLink RX10 154 yX10_goodAt, Cond.instanceMethod yX10_goodAt, Cond.selects RX10 yX10_goodAt yX10_goodAt, Cond.code yX10_goodAt cX10_goodAt 4 (some .int), Cond.methodLink RX10 157 yX10_mark, Cond.instanceMethod yX10_mark, Cond.selects RX10 yX10_mark yX10_mark, Cond.code yX10_mark cX10_mark 10 none]
def wsL_law_r23 : List Cond := [Cond.methodLink RX10 151 yX10_size, Cond.static yX10_size, Cond.code yX10_size cX10_size 1 (some .int), Cond.methodLink RX10 161 yX10_goWave, Cond.instanceMethod yX10_goWave, Cond.selects RX10 yX10_goWave yX10_goWave, Cond.code yX10_goWave cX10_goWave 6 (some .boolean), Cond.methodLink RL 56 yX9_sure, Cond.instanceMethod yX9_sure, Cond.selects RX9 yX9_sure yX9_sure, Cond.code yX9_sure cX9_sure 4 (some .int), Cond.methodLink RX9 196 ⟨"OneTimer$Pot", "sureAt", "(I)I"⟩, Cond.sameMethod "OneTimer$Pot" "OneTimer$Pot" "sureAt" "(I)I", Cond.selects RX0 ⟨"OneTimer$Pot", "sureAt", "(I)I"⟩ yX5_sureAt, Cond.instanceMethod yX5_sureAt, Cond.code yX5_sureAt cX5_sureAt 3 (some .int), Cond.selects RX2 ⟨"OneTimer$Pot", "sureAt", "(I)I"⟩ yX5_sureAt, Cond.methodLink RX9 196 yX5_sureAt, Cond.selects RX5 yX5_sureAt yX5_sureAt, Cond.selects RX6 ⟨"OneTimer$Pot", "sureAt", "(I)I"⟩ yX5_sureAt, Cond.selects RX7 ⟨"OneTimer$Pot", "sureAt", "(I)I"⟩ yX5_sureAt, Cond.methodLink RL 59 yX10_sure, Cond.instanceMethod yX10_sure, Cond.selects RX10 yX10_sure yX10_sure]
def wsL_law_r24 : List Cond := [Cond.code yX10_sure cX10_sure 3 (some .int), Cond.methodLink RX10 171 yX10_sureNow, Cond.instanceMethod yX10_sureNow, Cond.selects RX10 yX10_sureNow yX10_sureNow, Cond.code yX10_sureNow cX10_sureNow 6 (some .int), Cond.methodLink RL 60 yX9_best, Cond.instanceMethod yX9_best, Cond.selects RX9 yX9_best yX9_best, Cond.code yX9_best cX9_best 3 (some .int), Cond.methodLink RX9 199 yX9_bestWinding, Cond.instanceMethod yX9_bestWinding, Cond.selects RX9 yX9_bestWinding yX9_bestWinding, Cond.code yX9_bestWinding cX9_bestWinding 6 (some .int), Cond.methodLink RL 63 yX10_best, Cond.instanceMethod yX10_best, Cond.selects RX10 yX10_best yX10_best, Cond.code yX10_best cX10_best 2 (some .int), Cond.methodLink RX10 174 yX10_bestNow, Cond.instanceMethod yX10_bestNow, Cond.selects RX10 yX10_bestNow yX10_bestNow, Cond.code yX10_bestNow cX10_bestNow 4 (some .int), Cond.methodLink RL 64 yX9_together, Cond.instanceMethod yX9_together, Cond.selects RX9 yX9_together yX9_together]
def wsL_law_r25 : List Cond := [Cond.code yX9_together cX9_together 5 (some .int), Cond.methodLink RL 67 yX10_together, Cond.instanceMethod yX10_together, Cond.selects RX10 yX10_together yX10_together, Cond.code yX10_together cX10_together 3 (some .int), Cond.methodLink RX10 177 yX10_togetherNow, Cond.instanceMethod yX10_togetherNow, Cond.selects RX10 yX10_togetherNow yX10_togetherNow, Cond.code yX10_togetherNow cX10_togetherNow 3 (some .int), Cond.methodLink RL 68 yX9_tell, Cond.instanceMethod yX9_tell, Cond.selects RX9 yX9_tell yX9_tell, Cond.code yX9_tell cX9_tell 4 (some .int), Cond.methodLink RX9 203 yX8_add, Cond.instanceMethod yX8_add, Cond.selects RX8 yX8_add yX8_add, Cond.code yX8_add cX8_add 4 (some .boolean), Cond.fieldLink RX8 19 "OneTimer$Told" "size" "I", Cond.methodLink RL 71 yX10_tell, Cond.instanceMethod yX10_tell, Cond.selects RX10 yX10_tell yX10_tell, Cond.code yX10_tell cX10_tell 3 (some .int), Cond.methodLink RL 72 yX9_forget, Cond.instanceMethod yX9_forget]
def wsL_law_r26 : List Cond := [Cond.selects RX9 yX9_forget yX9_forget, Cond.code yX9_forget cX9_forget 2 (some .int), Cond.methodLink RL 75 yX10_forget, Cond.instanceMethod yX10_forget, Cond.selects RX10 yX10_forget yX10_forget, Cond.code yX10_forget cX10_forget 2 (some .int), Cond.methodLink RL 76 yX9_wound, Cond.instanceMethod yX9_wound, Cond.selects RX9 yX9_wound yX9_wound, Cond.code yX9_wound cX9_wound 2 (some .int), Cond.methodLink RX9 206 yX9_windingsThatFit, Cond.instanceMethod yX9_windingsThatFit, Cond.selects RX9 yX9_windingsThatFit yX9_windingsThatFit, Cond.code yX9_windingsThatFit cX9_windingsThatFit 3 (some .int), Cond.methodLink RX9 212 yX8_fits, Cond.instanceMethod yX8_fits, Cond.selects RX8 yX8_fits yX8_fits, Cond.code yX8_fits cX8_fits 3 (some .boolean), Cond.methodLink RX9 209 yX9_leastThatFits, Cond.instanceMethod yX9_leastThatFits, Cond.selects RX9 yX9_leastThatFits yX9_leastThatFits, Cond.code yX9_leastThatFits cX9_leastThatFits 2 (some .int), Cond.methodLink RL 79 yX10_wound, Cond.instanceMethod yX10_wound]
def wsL_law_r27 : List Cond := [Cond.selects RX10 yX10_wound yX10_wound, Cond.code yX10_wound cX10_wound 2 (some .int), Cond.methodLink RX10 183 yX10_woundNow, Cond.instanceMethod yX10_woundNow, Cond.selects RX10 yX10_woundNow yX10_woundNow, Cond.code yX10_woundNow cX10_woundNow 6 (some .int), Cond.methodLink RX10 180 yX10_couldBe, Cond.instanceMethod yX10_couldBe, Cond.selects RX10 yX10_couldBe yX10_couldBe, Cond.code yX10_couldBe cX10_couldBe 4 (some .boolean), Cond.methodLink RL 80 yX9_evenings, Cond.instanceMethod yX9_evenings, Cond.selects RX9 yX9_evenings yX9_evenings, Cond.code yX9_evenings cX9_evenings 12 (some .int), Cond.fieldLink RX9 215 "OneTimer$Draws" "seed" "I", Cond.methodLink RX9 218 yX1_next, Cond.instanceMethod yX1_next, Cond.selects RX1 yX1_next yX1_next, Cond.code yX1_next cX1_next 2 (some .int), Cond.constantLong RX1 7 (1103515245), Cond.fieldLink RX1 9 "OneTimer$Draws" "seed" "I", Cond.constantLong RX1 15 (12345), Cond.constantLong RX1 17 (2147483647), Cond.constant RX1 19 (65536)]
def wsL_law_r28 : List Cond := [Cond.methodLink RX9 221 yX9_outBy, Cond.methodLink RL 84 yX10_evenings, Cond.instanceMethod yX10_evenings, Cond.selects RX10 yX10_evenings yX10_evenings, Cond.code yX10_evenings cX10_evenings 4 (some .int), Cond.methodLink RX10 201 yX10_eveningsNow, Cond.instanceMethod yX10_eveningsNow, Cond.selects RX10 yX10_eveningsNow yX10_eveningsNow, Cond.code yX10_eveningsNow cX10_eveningsNow 12 (some .int), Cond.fieldLink RX10 188 "OneTimerModel" "seedNow" "J", Cond.methodLink RX10 198 yX10_draw, Cond.instanceMethod yX10_draw, Cond.selects RX10 yX10_draw yX10_draw, Cond.code yX10_draw cX10_draw 2 (some .int), Cond.constantLong RX10 186 (1103515245), Cond.constantLong RX10 192 (12345), Cond.constantLong RX10 194 (2147483647), Cond.constantLong RX10 196 (65536), Cond.methodLink RL 85 yX9_image, Cond.instanceMethod yX9_image, Cond.selects RX9 yX9_image yX9_image, Cond.code yX9_image cX9_image 3 (some .int), Cond.fieldLink RX9 224 "OneTimer" "keptMinute" "I", Cond.fieldLink RX9 227 "OneTimer" "keptFree" "I"]
def wsL_law_r29 : List Cond := [Cond.fieldLink RX9 230 "OneTimer" "keptWindings" "I", Cond.methodLink RX9 233 yX8_copyFrom, Cond.instanceMethod yX8_copyFrom, Cond.selects RX8 yX8_copyFrom yX8_copyFrom, Cond.code yX8_copyFrom cX8_copyFrom 3 none, Cond.methodLink RX9 237 ⟨"OneTimer$Pot", "keepImage", "()V"⟩, Cond.sameMethod "OneTimer$Pot" "OneTimer$Pot" "keepImage" "()V", Cond.selects RX0 ⟨"OneTimer$Pot", "keepImage", "()V"⟩ yX5_keepImage, Cond.instanceMethod yX5_keepImage, Cond.code yX5_keepImage cX5_keepImage 1 none, Cond.fieldLink RX5 45 "OneTimer$Pot" "keptTimesTaken" "I", Cond.selects RX2 ⟨"OneTimer$Pot", "keepImage", "()V"⟩ yX5_keepImage, Cond.methodLink RX9 237 yX5_keepImage, Cond.selects RX5 yX5_keepImage yX5_keepImage, Cond.selects RX6 ⟨"OneTimer$Pot", "keepImage", "()V"⟩ yX5_keepImage, Cond.selects RX7 ⟨"OneTimer$Pot", "keepImage", "()V"⟩ yX5_keepImage, Cond.methodLink RL 88 yX10_image, Cond.instanceMethod yX10_image, Cond.selects RX10 yX10_image yX10_image, Cond.code yX10_image cX10_image 2 (some .int), Cond.fieldLink RX10 204 "OneTimerModel" "isKept" "Z", Cond.fieldLink RX10 207 "OneTimerModel" "keptKitchen" "I", Cond.fieldLink RX10 210 "OneTimerModel" "keptMinute" "I", Cond.fieldLink RX10 213 "OneTimerModel" "keptFree" "I"]
def wsL_law_r30 : List Cond := [Cond.fieldLink RX10 216 "OneTimerModel" "keptWindings" "I", Cond.fieldLink RX10 219 "OneTimerModel" "keptTold" "I", Cond.methodLink RL 89 yX9_restore, Cond.instanceMethod yX9_restore, Cond.selects RX9 yX9_restore yX9_restore, Cond.code yX9_restore cX9_restore 3 (some .int), Cond.methodLink RX9 240 ⟨"OneTimer$Pot", "goBack", "()V"⟩, Cond.sameMethod "OneTimer$Pot" "OneTimer$Pot" "goBack" "()V", Cond.selects RX0 ⟨"OneTimer$Pot", "goBack", "()V"⟩ yX5_goBack, Cond.instanceMethod yX5_goBack, Cond.code yX5_goBack cX5_goBack 1 none, Cond.selects RX2 ⟨"OneTimer$Pot", "goBack", "()V"⟩ yX5_goBack, Cond.methodLink RX9 240 yX5_goBack, Cond.selects RX5 yX5_goBack yX5_goBack, Cond.selects RX6 ⟨"OneTimer$Pot", "goBack", "()V"⟩ yX5_goBack, Cond.selects RX7 ⟨"OneTimer$Pot", "goBack", "()V"⟩ yX5_goBack, Cond.methodLink RL 92 yX10_restore, Cond.instanceMethod yX10_restore, Cond.selects RX10 yX10_restore yX10_restore, Cond.code yX10_restore cX10_restore 2 (some .int), Cond.methodLink RL 93 yX9_count, Cond.instanceMethod yX9_count, Cond.selects RX9 yX9_count yX9_count, Cond.code yX9_count cX9_count 2 (some .int)]
def wsL_law_r31 : List Cond := [Cond.methodLink RX9 243 yX9_potsThatBoil, Cond.instanceMethod yX9_potsThatBoil, Cond.selects RX9 yX9_potsThatBoil yX9_potsThatBoil, Cond.code yX9_potsThatBoil cX9_potsThatBoil 4 (some .int), Cond.methodLink RL 96 yX10_count, Cond.instanceMethod yX10_count, Cond.selects RX10 yX10_count yX10_count, Cond.code yX10_count cX10_count 2 (some .int), Cond.methodLink RX10 225 yX10_howMany, Cond.instanceMethod yX10_howMany, Cond.selects RX10 yX10_howMany yX10_howMany, Cond.code yX10_howMany cX10_howMany 2 (some .int), Cond.methodLink RX10 222 yX10_boiling, Cond.instanceMethod yX10_boiling, Cond.selects RX10 yX10_boiling yX10_boiling, Cond.code yX10_boiling cX10_boiling 3 (some .int), Cond.methodLink RL 97 yX9_digest, Cond.instanceMethod yX9_digest, Cond.selects RX9 yX9_digest yX9_digest, Cond.code yX9_digest cX9_digest 4 (some .long), Cond.constantLong RX9 246 (929), Cond.constantLong RX9 252 (31), Cond.methodLink RX9 248 yX9_digestOfPot, Cond.instanceMethod yX9_digestOfPot]
def wsL_law_r32 : List Cond := [Cond.selects RX9 yX9_digestOfPot yX9_digestOfPot, Cond.code yX9_digestOfPot cX9_digestOfPot 7 (some .long), Cond.methodLink RX9 263 yX9_about, Cond.methodLink RX9 266 yX9_together, Cond.methodLink RX9 254 yX9_wound, Cond.methodLink RX9 257 yX3_codeAt, Cond.methodLink RX9 260 yX9_count, Cond.methodLink RL 101 yX10_digest, Cond.instanceMethod yX10_digest, Cond.selects RX10 yX10_digest yX10_digest, Cond.code yX10_digest cX10_digest 3 (some .long), Cond.constantLong RX10 233 (929), Cond.fieldLink RX10 230 "OneTimerModel" "h" "J", Cond.methodLink RX10 235 yX10_mix, Cond.instanceMethod yX10_mix, Cond.selects RX10 yX10_mix yX10_mix, Cond.code yX10_mix cX10_mix 3 none, Cond.constantLong RX10 228 (31)]
def wsL_law : List Cond := (wsL_law_r1 ++ (wsL_law_r2 ++ (wsL_law_r3 ++ (wsL_law_r4 ++ (wsL_law_r5 ++ (wsL_law_r6 ++ (wsL_law_r7 ++ (wsL_law_r8 ++ (wsL_law_r9 ++ (wsL_law_r10 ++ (wsL_law_r11 ++ (wsL_law_r12 ++ (wsL_law_r13 ++ (wsL_law_r14 ++ (wsL_law_r15 ++ (wsL_law_r16 ++ (wsL_law_r17 ++ (wsL_law_r18 ++ (wsL_law_r19 ++ (wsL_law_r20 ++ (wsL_law_r21 ++ (wsL_law_r22 ++ (wsL_law_r23 ++ (wsL_law_r24 ++ (wsL_law_r25 ++ (wsL_law_r26 ++ (wsL_law_r27 ++ (wsL_law_r28 ++ (wsL_law_r29 ++ (wsL_law_r30 ++ (wsL_law_r31 ++ wsL_law_r32))))))))))))))))))))))))))))))) ++ wsX90 ++ wsX100 ++ wsX30 ++ wsX80 ++ wsX40 ++ wsX10 ++ wsX20 ++ wsX60 ++ wsX70 ++ wsX00 ++ wsX50 ++ ([] : List Cond)
abbrev vwCl : List vw_C := [(RX0, TX0, 7), (RX1, TX1, 1), (RX2, TX2, 7), (RX3, TX3, 2), (RX4, TX4, 9), (RX5, TX5, 7), (RX6, TX6, 7), (RX7, TX7, 7), (RX8, TX8, 4), (RX9, TX9, 18), (RX10, TX10, 39)]
end
section
theorem in_r {big ws : List Cond} (ps : List Nat) (hp : ws = ps.filterMap (fun i => big[i]?)) : ∀ w ∈ ws, w ∈ big := by
  intro w hw
  rw [hp] at hw
  obtain ⟨i, -, hi⟩ := List.mem_filterMap.mp hw
  exact List.mem_of_getElem? hi
theorem in_app {big a b : List Cond} (ha : ∀ w ∈ a, w ∈ big) (hb : ∀ w ∈ b, w ∈ big) : ∀ w ∈ a ++ b, w ∈ big := fun w h => (List.mem_append.mp h).elim (ha w) (hb w)
set_option maxRecDepth 20000 in
theorem in_wsL_law_r1 : ∀ w ∈ wsL_law_r1, w ∈ lw_tbl := in_r [57, 58, 44, 664, 665, 49, 59, 60, 61, 62, 63, 64, 65, 66, 45, 147, 80, 148, 82, 83, 46, 149, 150, 102] (by decide +kernel)
set_option maxRecDepth 20000 in
theorem in_wsL_law_r2 : ∀ w ∈ wsL_law_r2, w ∈ lw_tbl := in_r [103, 47, 151, 136, 137, 48, 152, 68, 69, 70, 79, 71, 85, 86, 87, 88, 89, 90, 105, 106, 107, 108, 109, 110] (by decide +kernel)
set_option maxRecDepth 20000 in
theorem in_wsL_law_r3 : ∀ w ∈ wsL_law_r3, w ∈ lw_tbl := in_r [111, 139, 140, 141, 666, 667, 668, 669, 674, 675, 679, 680, 681, 683, 684, 685, 686, 788, 689, 692, 693, 701, 702, 703] (by decide +kernel)
set_option maxRecDepth 20000 in
theorem in_wsL_law_r4 : ∀ w ∈ wsL_law_r4, w ∈ lw_tbl := in_r [704, 705, 706, 707, 202, 203, 204, 205, 73, 206, 207, 208, 209, 72, 789, 790, 791, 792, 688, 793, 794, 795, 210, 211] (by decide +kernel)
set_option maxRecDepth 20000 in
theorem in_wsL_law_r5 : ∀ w ∈ wsL_law_r5, w ∈ lw_tbl := in_r [212, 213, 796, 797, 798, 799, 214, 215, 216, 217, 218, 219, 220, 221, 222, 224, 0, 225, 226, 227, 228, 229, 230, 231] (by decide +kernel)
set_option maxRecDepth 20000 in
theorem in_wsL_law_r6 : ∀ w ∈ wsL_law_r6, w ∈ lw_tbl := in_r [232, 233, 234, 235, 236, 238, 1, 239, 800, 801, 802, 803, 804, 806, 18, 807, 690, 691, 808, 809, 810, 811, 813, 19] (by decide +kernel)
set_option maxRecDepth 20000 in
theorem in_wsL_law_r7 : ∀ w ∈ wsL_law_r7, w ∈ lw_tbl := in_r [814, 815, 817, 20, 818, 819, 821, 21, 822, 240, 241, 242, 243, 154, 155, 163, 153, 244, 245, 246, 247, 248, 249, 251] (by decide +kernel)
set_option maxRecDepth 20000 in
theorem in_wsL_law_r8 : ∀ w ∈ wsL_law_r8, w ∈ lw_tbl := in_r [2, 252, 257, 258, 50, 259, 253, 254, 255, 256, 260, 261, 262, 263, 264, 265, 266, 267, 268, 270, 3, 271, 272, 273] (by decide +kernel)
set_option maxRecDepth 20000 in
theorem in_wsL_law_r9 : ∀ w ∈ wsL_law_r9, w ∈ lw_tbl := in_r [274, 275, 276, 52, 310, 311, 53, 324, 325, 54, 338, 339, 55, 352, 51, 277, 278, 279, 280, 281, 282, 283, 286, 290] (by decide +kernel)
set_option maxRecDepth 20000 in
theorem in_wsL_law_r10 : ∀ w ∈ wsL_law_r10, w ∈ lw_tbl := in_r [292, 294, 284, 312, 313, 314, 315, 326, 327, 328, 329, 340, 341, 342, 343, 353, 362, 363, 364, 365, 366, 367, 368, 369] (by decide +kernel)
set_option maxRecDepth 20000 in
theorem in_wsL_law_r11 : ∀ w ∈ wsL_law_r11, w ∈ lw_tbl := in_r [370, 372, 4, 373, 156, 157, 158, 92, 159, 823, 824, 825, 826, 671, 672, 673, 670, 676, 677, 678, 682, 827, 829, 22] (by decide +kernel)
set_option maxRecDepth 20000 in
theorem in_wsL_law_r12 : ∀ w ∈ wsL_law_r12, w ∈ lw_tbl := in_r [830, 374, 375, 376, 377, 285, 287, 289, 291, 378, 380, 5, 381, 382, 385, 383, 386, 387, 388, 398, 389, 390, 391, 382] (by decide +kernel)
set_option maxRecDepth 20000 in
theorem in_wsL_law_r13 : ∀ w ∈ wsL_law_r13, w ∈ lw_tbl := in_r [383, 384, 392, 393, 394, 395, 396, 397, 399, 402, 400, 403, 404, 405, 406, 992, 351, 407, 408, 416, 409, 410, 411, 399] (by decide +kernel)
set_option maxRecDepth 20000 in
theorem in_wsL_law_r14 : ∀ w ∈ wsL_law_r14, w ∈ lw_tbl := in_r [400, 401, 412, 413, 414, 415, 417, 420, 421, 418, 425, 422, 417, 419, 423, 424, 426, 429, 430, 427, 434, 431, 426, 428] (by decide +kernel)
set_option maxRecDepth 20000 in
theorem in_wsL_law_r15 : ∀ w ∈ wsL_law_r15, w ∈ lw_tbl := in_r [432, 433, 435, 438, 439, 436, 443, 444, 444, 445, 445, 447, 448, 440, 435, 437, 441, 442, 831, 832, 833, 834, 835, 837] (by decide +kernel)
set_option maxRecDepth 20000 in
theorem in_wsL_law_r16 : ∀ w ∈ wsL_law_r16, w ∈ lw_tbl := in_r [23, 838, 839, 841, 24, 842, 843, 845, 25, 846, 847, 849, 26, 850, 851, 853, 27, 854, 855, 857, 28, 858, 859, 860] (by decide +kernel)
set_option maxRecDepth 20000 in
theorem in_wsL_law_r17 : ∀ w ∈ wsL_law_r17, w ∈ lw_tbl := in_r [861, 449, 450, 451, 452, 453, 454, 455, 275, 310, 324, 338, 862, 863, 864, 865, 456, 457, 458, 459, 866, 867, 868, 869] (by decide +kernel)
set_option maxRecDepth 20000 in
theorem in_wsL_law_r18 : ∀ w ∈ wsL_law_r18, w ∈ lw_tbl := in_r [460, 461, 462, 463, 464, 466, 6, 467, 870, 871, 872, 873, 468, 469, 470, 471, 472, 475, 476, 473, 480, 288, 481, 481] (by decide +kernel)
set_option maxRecDepth 20000 in
theorem in_wsL_law_r19 : ∀ w ∈ wsL_law_r19, w ∈ lw_tbl := in_r [477, 472, 474, 478, 479, 874, 875, 876, 877, 482, 483, 484, 485, 164, 486, 487, 488, 489, 112, 116, 113, 114, 115, 490] (by decide +kernel)
set_option maxRecDepth 20000 in
theorem in_wsL_law_r20 : ∀ w ∈ wsL_law_r20, w ∈ lw_tbl := in_r [491, 492, 493, 494, 495, 496, 497, 498, 499, 500, 501, 502, 504, 7, 505, 506, 508, 8, 509, 510, 512, 9, 513, 514] (by decide +kernel)
set_option maxRecDepth 20000 in
theorem in_wsL_law_r21 : ∀ w ∈ wsL_law_r21, w ∈ lw_tbl := in_r [516, 10, 517, 518, 520, 11, 521, 522, 523, 524, 525, 526, 56, 527, 528, 529, 530, 531, 532, 533, 534, 535, 536, 537] (by decide +kernel)
set_option maxRecDepth 20000 in
theorem in_wsL_law_r22 : ∀ w ∈ wsL_law_r22, w ∈ lw_tbl := in_r [538, 539, 540, 542, 12, 543, 878, 879, 880, 881, 687, 882, 884, 29, 885, 901, 886, 888, 30, 889, 890, 892, 31, 893] (by decide +kernel)
set_option maxRecDepth 20000 in
theorem in_wsL_law_r23 : ∀ w ∈ wsL_law_r23, w ∈ lw_tbl := in_r [894, 895, 896, 897, 899, 32, 900, 544, 545, 546, 547, 548, 551, 552, 549, 556, 553, 548, 550, 554, 555, 902, 903, 904] (by decide +kernel)
set_option maxRecDepth 20000 in
theorem in_wsL_law_r24 : ∀ w ∈ wsL_law_r24, w ∈ lw_tbl := in_r [905, 906, 908, 33, 909, 557, 558, 559, 560, 561, 563, 13, 564, 910, 911, 912, 913, 914, 916, 34, 917, 565, 566, 567] (by decide +kernel)
set_option maxRecDepth 20000 in
theorem in_wsL_law_r25 : ∀ w ∈ wsL_law_r25, w ∈ lw_tbl := in_r [568, 918, 919, 920, 921, 922, 924, 35, 925, 569, 570, 571, 572, 573, 574, 575, 576, 91, 926, 927, 928, 929, 577, 578] (by decide +kernel)
set_option maxRecDepth 20000 in
theorem in_wsL_law_r26 : ∀ w ∈ wsL_law_r26, w ∈ lw_tbl := in_r [579, 580, 930, 931, 932, 933, 581, 582, 583, 584, 585, 587, 14, 588, 589, 590, 591, 592, 594, 596, 15, 597, 934, 935] (by decide +kernel)
set_option maxRecDepth 20000 in
theorem in_wsL_law_r27 : ∀ w ∈ wsL_law_r27, w ∈ lw_tbl := in_r [936, 937, 938, 940, 36, 941, 942, 944, 37, 945, 598, 599, 600, 601, 143, 602, 603, 604, 605, 606, 142, 607, 608, 609] (by decide +kernel)
set_option maxRecDepth 20000 in
theorem in_wsL_law_r28 : ∀ w ∈ wsL_law_r28, w ∈ lw_tbl := in_r [610, 946, 947, 948, 949, 950, 952, 38, 953, 694, 954, 956, 39, 957, 958, 959, 960, 961, 611, 612, 613, 614, 160, 161] (by decide +kernel)
set_option maxRecDepth 20000 in
theorem in_wsL_law_r29 : ∀ w ∈ wsL_law_r29, w ∈ lw_tbl := in_r [162, 615, 616, 617, 618, 619, 622, 623, 620, 627, 293, 624, 619, 621, 625, 626, 962, 963, 964, 965, 695, 696, 697, 698] (by decide +kernel)
set_option maxRecDepth 20000 in
theorem in_wsL_law_r30 : ∀ w ∈ wsL_law_r30, w ∈ lw_tbl := in_r [699, 700, 628, 629, 630, 631, 632, 635, 636, 633, 640, 637, 632, 634, 638, 639, 966, 967, 968, 969, 641, 642, 643, 644] (by decide +kernel)
set_option maxRecDepth 20000 in
theorem in_wsL_law_r31 : ∀ w ∈ wsL_law_r31, w ∈ lw_tbl := in_r [645, 647, 16, 648, 970, 971, 972, 973, 974, 976, 40, 977, 978, 980, 41, 981, 649, 650, 651, 652, 653, 658, 654, 656] (by decide +kernel)
set_option maxRecDepth 20000 in
theorem in_wsL_law_r32 : ∀ w ∈ wsL_law_r32, w ∈ lw_tbl := in_r [17, 657, 659, 660, 661, 662, 663, 982, 983, 984, 985, 986, 708, 987, 989, 42, 990, 991] (by decide +kernel)
set_option maxRecDepth 20000 in
theorem in_wsX90 : ∀ w ∈ wsX90, w ∈ lw_tbl := in_r [165, 167, 169, 171, 173, 175, 177, 179, 181, 183, 185, 187, 189, 191, 193, 195, 197, 199] (by decide +kernel)
set_option maxRecDepth 20000 in
theorem in_wsX100 : ∀ w ∈ wsX100, w ∈ lw_tbl := in_r [709, 711, 713, 715, 717, 719, 721, 723, 725, 727, 729, 731, 733, 735, 737, 739, 741, 743, 745, 747, 749, 751, 753, 755, 757, 759, 761, 763, 765, 767, 769, 771, 773, 775, 777, 779, 781, 783, 785] (by decide +kernel)
set_option maxRecDepth 20000 in
theorem in_wsX30 : ∀ w ∈ wsX30, w ∈ lw_tbl := in_r [74, 76] (by decide +kernel)
set_option maxRecDepth 20000 in
theorem in_wsX80 : ∀ w ∈ wsX80, w ∈ lw_tbl := in_r [93, 95, 97, 99] (by decide +kernel)
set_option maxRecDepth 20000 in
theorem in_wsX40 : ∀ w ∈ wsX40, w ∈ lw_tbl := in_r [117, 119, 121, 123, 125, 127, 129, 131, 133] (by decide +kernel)
set_option maxRecDepth 20000 in
theorem in_wsX10 : ∀ w ∈ wsX10, w ∈ lw_tbl := in_r [144] (by decide +kernel)
set_option maxRecDepth 20000 in
theorem in_wsX20 : ∀ w ∈ wsX20, w ∈ lw_tbl := in_r [295, 297, 299, 301, 303, 305, 307] (by decide +kernel)
set_option maxRecDepth 20000 in
theorem in_wsX60 : ∀ w ∈ wsX60, w ∈ lw_tbl := in_r [316, 317, 318, 319, 320, 321, 322] (by decide +kernel)
set_option maxRecDepth 20000 in
theorem in_wsX70 : ∀ w ∈ wsX70, w ∈ lw_tbl := in_r [330, 331, 332, 333, 334, 335, 336] (by decide +kernel)
set_option maxRecDepth 20000 in
theorem in_wsX00 : ∀ w ∈ wsX00, w ∈ lw_tbl := in_r [344, 345, 346, 347, 348, 349, 350] (by decide +kernel)
set_option maxRecDepth 20000 in
theorem in_wsX50 : ∀ w ∈ wsX50, w ∈ lw_tbl := in_r [354, 355, 356, 357, 358, 359, 360] (by decide +kernel)
set_option maxRecDepth 20000 in
theorem wsL_law_in : ∀ w ∈ wsL_law, w ∈ lw_tbl := in_app (in_app (in_app (in_app (in_app (in_app (in_app (in_app (in_app (in_app (in_app (in_app (in_app in_wsL_law_r1 (in_app in_wsL_law_r2 (in_app in_wsL_law_r3 (in_app in_wsL_law_r4 (in_app in_wsL_law_r5 (in_app in_wsL_law_r6 (in_app in_wsL_law_r7 (in_app in_wsL_law_r8 (in_app in_wsL_law_r9 (in_app in_wsL_law_r10 (in_app in_wsL_law_r11 (in_app in_wsL_law_r12 (in_app in_wsL_law_r13 (in_app in_wsL_law_r14 (in_app in_wsL_law_r15 (in_app in_wsL_law_r16 (in_app in_wsL_law_r17 (in_app in_wsL_law_r18 (in_app in_wsL_law_r19 (in_app in_wsL_law_r20 (in_app in_wsL_law_r21 (in_app in_wsL_law_r22 (in_app in_wsL_law_r23 (in_app in_wsL_law_r24 (in_app in_wsL_law_r25 (in_app in_wsL_law_r26 (in_app in_wsL_law_r27 (in_app in_wsL_law_r28 (in_app in_wsL_law_r29 (in_app in_wsL_law_r30 (in_app in_wsL_law_r31 (in_wsL_law_r32)))))))))))))))))))))))))))))))) in_wsX90) in_wsX100) in_wsX30) in_wsX80) in_wsX40) in_wsX10) in_wsX20) in_wsX60) in_wsX70) in_wsX00) in_wsX50) (fun _ h => absurd h List.not_mem_nil)
end
section
theorem inlX0 : ∀ w ∈ wsX00, w ∈ wsL_law := fun _ h => List.mem_append_left _ (List.mem_append_left _ (List.mem_append_right _ h))
theorem inX0 : ∀ w ∈ wsX00, w ∈ lw_tbl := fun w h => wsL_law_in w (inlX0 w h)
theorem inlX1 : ∀ w ∈ wsX10, w ∈ wsL_law := fun _ h => List.mem_append_left _ (List.mem_append_left _ (List.mem_append_left _ (List.mem_append_left _ (List.mem_append_left _ (List.mem_append_left _ (List.mem_append_right _ h))))))
theorem inX1 : ∀ w ∈ wsX10, w ∈ lw_tbl := fun w h => wsL_law_in w (inlX1 w h)
theorem inlX2 : ∀ w ∈ wsX20, w ∈ wsL_law := fun _ h => List.mem_append_left _ (List.mem_append_left _ (List.mem_append_left _ (List.mem_append_left _ (List.mem_append_left _ (List.mem_append_right _ h)))))
theorem inX2 : ∀ w ∈ wsX20, w ∈ lw_tbl := fun w h => wsL_law_in w (inlX2 w h)
theorem inlX3 : ∀ w ∈ wsX30, w ∈ wsL_law := fun _ h => List.mem_append_left _ (List.mem_append_left _ (List.mem_append_left _ (List.mem_append_left _ (List.mem_append_left _ (List.mem_append_left _ (List.mem_append_left _ (List.mem_append_left _ (List.mem_append_left _ (List.mem_append_right _ h)))))))))
theorem inX3 : ∀ w ∈ wsX30, w ∈ lw_tbl := fun w h => wsL_law_in w (inlX3 w h)
theorem inlX4 : ∀ w ∈ wsX40, w ∈ wsL_law := fun _ h => List.mem_append_left _ (List.mem_append_left _ (List.mem_append_left _ (List.mem_append_left _ (List.mem_append_left _ (List.mem_append_left _ (List.mem_append_left _ (List.mem_append_right _ h)))))))
theorem inX4 : ∀ w ∈ wsX40, w ∈ lw_tbl := fun w h => wsL_law_in w (inlX4 w h)
theorem inlX5 : ∀ w ∈ wsX50, w ∈ wsL_law := fun _ h => List.mem_append_left _ (List.mem_append_right _ h)
theorem inX5 : ∀ w ∈ wsX50, w ∈ lw_tbl := fun w h => wsL_law_in w (inlX5 w h)
theorem inlX6 : ∀ w ∈ wsX60, w ∈ wsL_law := fun _ h => List.mem_append_left _ (List.mem_append_left _ (List.mem_append_left _ (List.mem_append_left _ (List.mem_append_right _ h))))
theorem inX6 : ∀ w ∈ wsX60, w ∈ lw_tbl := fun w h => wsL_law_in w (inlX6 w h)
theorem inlX7 : ∀ w ∈ wsX70, w ∈ wsL_law := fun _ h => List.mem_append_left _ (List.mem_append_left _ (List.mem_append_left _ (List.mem_append_right _ h)))
theorem inX7 : ∀ w ∈ wsX70, w ∈ lw_tbl := fun w h => wsL_law_in w (inlX7 w h)
theorem inlX8 : ∀ w ∈ wsX80, w ∈ wsL_law := fun _ h => List.mem_append_left _ (List.mem_append_left _ (List.mem_append_left _ (List.mem_append_left _ (List.mem_append_left _ (List.mem_append_left _ (List.mem_append_left _ (List.mem_append_left _ (List.mem_append_right _ h))))))))
theorem inX8 : ∀ w ∈ wsX80, w ∈ lw_tbl := fun w h => wsL_law_in w (inlX8 w h)
theorem inlX9 : ∀ w ∈ wsX90, w ∈ wsL_law := fun _ h => List.mem_append_left _ (List.mem_append_left _ (List.mem_append_left _ (List.mem_append_left _ (List.mem_append_left _ (List.mem_append_left _ (List.mem_append_left _ (List.mem_append_left _ (List.mem_append_left _ (List.mem_append_left _ (List.mem_append_left _ (List.mem_append_right _ h)))))))))))
theorem inX9 : ∀ w ∈ wsX90, w ∈ lw_tbl := fun w h => wsL_law_in w (inlX9 w h)
theorem inlX10 : ∀ w ∈ wsX100, w ∈ wsL_law := fun _ h => List.mem_append_left _ (List.mem_append_left _ (List.mem_append_left _ (List.mem_append_left _ (List.mem_append_left _ (List.mem_append_left _ (List.mem_append_left _ (List.mem_append_left _ (List.mem_append_left _ (List.mem_append_left _ (List.mem_append_right _ h))))))))))
theorem inX10 : ∀ w ∈ wsX100, w ∈ lw_tbl := fun w h => wsL_law_in w (inlX10 w h)
theorem inJ6 : ∀ w ∈ wsJ60, w ∈ lw_tbl := by decide +kernel
theorem inJ9 : ∀ w ∈ wsJ90, w ∈ lw_tbl := by decide +kernel
set_option maxRecDepth 20000 in
theorem ggX0_init_X6_init : GoodIn wsX0_init wsX6_init := goodIn_r _ [4, 5, 6, 7, 8, 9, 10, 11, 12, 13, 14, 15, 16, 17, 18, 19, 20, 21, 22, 23, 24, 25, 26, 27, 28, 29, 30, 31, 32, 33, 34, 35, 36, 37, 38, 39, 40, 41, 42, 43, 44, 45, 46, 47, 48, 49, 50, 51] (by decide +kernel) (by decide +kernel)
set_option maxRecDepth 20000 in
theorem gX0_init_X6_init : GoodIn wsX0_init (wsX6_init) := ggX0_init_X6_init
theorem dX0_init_0 : decode cX0_init 0 = .ok (.aload_n 0, 1) := by decide +kernel
theorem dX0_init_1 : decode cX0_init 1 = .ok (.iload_n 1, 1) := by decide +kernel
theorem dX0_init_2 : decode cX0_init 2 = .ok (.invokespecial 1, 3) := by decide +kernel
theorem dX0_init_5 : decode cX0_init 5 = .ok (.return_, 1) := by decide +kernel
theorem dX0_kind_0 : decode cX0_kind 0 = .ok (.iconst 4, 1) := by decide +kernel
theorem dX0_kind_1 : decode cX0_kind 1 = .ok (.ireturn, 1) := by decide +kernel
set_option maxRecDepth 20000 in
theorem ggX0_keeps_X6_keeps : GoodIn wsX0_keeps wsX6_keeps := goodIn_r _ [6] (by decide +kernel) (by decide +kernel)
set_option maxRecDepth 20000 in
theorem gX0_keeps_X6_keeps_s7 : GoodIn wsX0_keeps (va_wsSU RX0 7 yX6_keeps wsX6_keeps) := goodIn_app (goodIn_of _ (by decide +kernel)) ggX0_keeps_X6_keeps
theorem dX0_keeps_0 : decode cX0_keeps 0 = .ok (.iconst 2, 1) := by decide +kernel
theorem dX0_keeps_1 : decode cX0_keeps 1 = .ok (.aload_n 0, 1) := by decide +kernel
theorem dX0_keeps_2 : decode cX0_keeps 2 = .ok (.invokespecial 7, 3) := by decide +kernel
theorem dX0_keeps_5 : decode cX0_keeps 5 = .ok (.imul, 1) := by decide +kernel
theorem dX0_keeps_6 : decode cX0_keeps 6 = .ok (.ireturn, 1) := by decide +kernel
theorem dX1_init_0 : decode cX1_init 0 = .ok (.aload_n 0, 1) := by decide +kernel
theorem dX1_init_1 : decode cX1_init 1 = .ok (.invokespecial 1, 3) := by decide +kernel
theorem dX1_init_4 : decode cX1_init 4 = .ok (.return_, 1) := by decide +kernel
theorem dX1_next_0 : decode cX1_next 0 = .ok (.aload_n 0, 1) := by decide +kernel
theorem dX1_next_1 : decode cX1_next 1 = .ok (.ldc2_w 7, 3) := by decide +kernel
theorem dX1_next_4 : decode cX1_next 4 = .ok (.aload_n 0, 1) := by decide +kernel
theorem dX1_next_5 : decode cX1_next 5 = .ok (.getfield 9, 3) := by decide +kernel
theorem dX1_next_8 : decode cX1_next 8 = .ok (.i2l, 1) := by decide +kernel
theorem dX1_next_9 : decode cX1_next 9 = .ok (.lmul, 1) := by decide +kernel
theorem dX1_next_10 : decode cX1_next 10 = .ok (.ldc2_w 15, 3) := by decide +kernel
theorem dX1_next_13 : decode cX1_next 13 = .ok (.ladd, 1) := by decide +kernel
theorem dX1_next_14 : decode cX1_next 14 = .ok (.ldc2_w 17, 3) := by decide +kernel
theorem dX1_next_17 : decode cX1_next 17 = .ok (.land, 1) := by decide +kernel
theorem dX1_next_18 : decode cX1_next 18 = .ok (.l2i, 1) := by decide +kernel
theorem dX1_next_19 : decode cX1_next 19 = .ok (.putfield 9, 3) := by decide +kernel
theorem dX1_next_22 : decode cX1_next 22 = .ok (.iload_n 1, 1) := by decide +kernel
theorem dX1_next_23 : decode cX1_next 23 = .ok (.ifCond .le 15, 3) := by decide +kernel
theorem dX1_next_26 : decode cX1_next 26 = .ok (.aload_n 0, 1) := by decide +kernel
theorem dX1_next_27 : decode cX1_next 27 = .ok (.getfield 9, 3) := by decide +kernel
theorem dX1_next_30 : decode cX1_next 30 = .ok (.ldc 19, 2) := by decide +kernel
theorem dX1_next_32 : decode cX1_next 32 = .ok (.idiv, 1) := by decide +kernel
theorem dX1_next_33 : decode cX1_next 33 = .ok (.iload_n 1, 1) := by decide +kernel
theorem dX1_next_34 : decode cX1_next 34 = .ok (.irem, 1) := by decide +kernel
theorem dX1_next_35 : decode cX1_next 35 = .ok (.goto 4, 3) := by decide +kernel
theorem dX1_next_38 : decode cX1_next 38 = .ok (.iconst 0, 1) := by decide +kernel
theorem dX1_next_39 : decode cX1_next 39 = .ok (.ireturn, 1) := by decide +kernel
set_option maxRecDepth 20000 in
theorem ggX2_init_X5_init : GoodIn wsX2_init wsX5_init := goodIn_r _ [4, 5, 6, 7, 8, 9, 10, 11, 12, 13, 14, 15, 16, 17, 18, 19, 20, 21, 22, 23, 24, 25, 26, 27, 28, 29, 30, 31, 32, 33, 34, 35, 36, 37, 38, 39, 40, 41, 42, 43, 44, 45, 46, 47] (by decide +kernel) (by decide +kernel)
set_option maxRecDepth 20000 in
theorem gX2_init_X5_init : GoodIn wsX2_init (wsX5_init) := ggX2_init_X5_init
theorem dX2_init_0 : decode cX2_init 0 = .ok (.aload_n 0, 1) := by decide +kernel
theorem dX2_init_1 : decode cX2_init 1 = .ok (.iload_n 1, 1) := by decide +kernel
theorem dX2_init_2 : decode cX2_init 2 = .ok (.invokespecial 1, 3) := by decide +kernel
theorem dX2_init_5 : decode cX2_init 5 = .ok (.return_, 1) := by decide +kernel
theorem dX2_kind_0 : decode cX2_kind 0 = .ok (.iconst 1, 1) := by decide +kernel
theorem dX2_kind_1 : decode cX2_kind 1 = .ok (.ireturn, 1) := by decide +kernel
theorem dX2_keeps_0 : decode cX2_keeps 0 = .ok (.iconst 1, 1) := by decide +kernel
theorem dX2_keeps_1 : decode cX2_keeps 1 = .ok (.ireturn, 1) := by decide +kernel
theorem dX3_init_0 : decode cX3_init 0 = .ok (.aload_n 0, 1) := by decide +kernel
theorem dX3_init_1 : decode cX3_init 1 = .ok (.invokespecial 3, 3) := by decide +kernel
theorem dX3_init_4 : decode cX3_init 4 = .ok (.aload_n 0, 1) := by decide +kernel
theorem dX3_init_5 : decode cX3_init 5 = .ok (.bipush 21, 2) := by decide +kernel
theorem dX3_init_7 : decode cX3_init 7 = .ok (.newarray .int, 2) := by decide +kernel
theorem dX3_init_9 : decode cX3_init 9 = .ok (.putfield 11, 3) := by decide +kernel
theorem dX3_init_12 : decode cX3_init 12 = .ok (.return_, 1) := by decide +kernel
theorem dX3_write_0 : decode cX3_write 0 = .ok (.aload_n 0, 1) := by decide +kernel
theorem dX3_write_1 : decode cX3_write 1 = .ok (.getfield 15, 3) := by decide +kernel
theorem dX3_write_4 : decode cX3_write 4 = .ok (.ifCond .lt 15, 3) := by decide +kernel
theorem dX3_write_7 : decode cX3_write 7 = .ok (.aload_n 0, 1) := by decide +kernel
theorem dX3_write_8 : decode cX3_write 8 = .ok (.getfield 15, 3) := by decide +kernel
theorem dX3_write_11 : decode cX3_write 11 = .ok (.aload_n 0, 1) := by decide +kernel
theorem dX3_write_12 : decode cX3_write 12 = .ok (.getfield 11, 3) := by decide +kernel
theorem dX3_write_15 : decode cX3_write 15 = .ok (.arraylength, 1) := by decide +kernel
theorem dX3_write_16 : decode cX3_write 16 = .ok (.if_icmp .lt 5, 3) := by decide +kernel
theorem dX3_write_19 : decode cX3_write 19 = .ok (.iconst 0, 1) := by decide +kernel
theorem dX3_write_20 : decode cX3_write 20 = .ok (.ireturn, 1) := by decide +kernel
theorem dX3_write_21 : decode cX3_write 21 = .ok (.aload_n 0, 1) := by decide +kernel
theorem dX3_write_22 : decode cX3_write 22 = .ok (.getfield 11, 3) := by decide +kernel
theorem dX3_write_25 : decode cX3_write 25 = .ok (.aload_n 0, 1) := by decide +kernel
theorem dX3_write_26 : decode cX3_write 26 = .ok (.getfield 15, 3) := by decide +kernel
theorem dX3_write_29 : decode cX3_write 29 = .ok (.iload_n 1, 1) := by decide +kernel
theorem dX3_write_30 : decode cX3_write 30 = .ok (.iastore, 1) := by decide +kernel
theorem dX3_write_31 : decode cX3_write 31 = .ok (.aload_n 0, 1) := by decide +kernel
theorem dX3_write_32 : decode cX3_write 32 = .ok (.dup, 1) := by decide +kernel
theorem dX3_write_33 : decode cX3_write 33 = .ok (.getfield 15, 3) := by decide +kernel
theorem dX3_write_36 : decode cX3_write 36 = .ok (.iconst 1, 1) := by decide +kernel
theorem dX3_write_37 : decode cX3_write 37 = .ok (.iadd, 1) := by decide +kernel
theorem dX3_write_38 : decode cX3_write 38 = .ok (.putfield 15, 3) := by decide +kernel
theorem dX3_write_41 : decode cX3_write 41 = .ok (.iconst 1, 1) := by decide +kernel
theorem dX3_write_42 : decode cX3_write 42 = .ok (.ireturn, 1) := by decide +kernel
theorem dX3_codeAt_0 : decode cX3_codeAt 0 = .ok (.iload_n 1, 1) := by decide +kernel
theorem dX3_codeAt_1 : decode cX3_codeAt 1 = .ok (.ifCond .lt 29, 3) := by decide +kernel
theorem dX3_codeAt_4 : decode cX3_codeAt 4 = .ok (.iload_n 1, 1) := by decide +kernel
theorem dX3_codeAt_5 : decode cX3_codeAt 5 = .ok (.aload_n 0, 1) := by decide +kernel
theorem dX3_codeAt_6 : decode cX3_codeAt 6 = .ok (.getfield 15, 3) := by decide +kernel
theorem dX3_codeAt_9 : decode cX3_codeAt 9 = .ok (.if_icmp .ge 21, 3) := by decide +kernel
theorem dX3_codeAt_12 : decode cX3_codeAt 12 = .ok (.iload_n 1, 1) := by decide +kernel
theorem dX3_codeAt_13 : decode cX3_codeAt 13 = .ok (.aload_n 0, 1) := by decide +kernel
theorem dX3_codeAt_14 : decode cX3_codeAt 14 = .ok (.getfield 11, 3) := by decide +kernel
theorem dX3_codeAt_17 : decode cX3_codeAt 17 = .ok (.arraylength, 1) := by decide +kernel
theorem dX3_codeAt_18 : decode cX3_codeAt 18 = .ok (.if_icmp .ge 12, 3) := by decide +kernel
theorem dX3_codeAt_21 : decode cX3_codeAt 21 = .ok (.aload_n 0, 1) := by decide +kernel
theorem dX3_codeAt_22 : decode cX3_codeAt 22 = .ok (.getfield 11, 3) := by decide +kernel
theorem dX3_codeAt_25 : decode cX3_codeAt 25 = .ok (.iload_n 1, 1) := by decide +kernel
theorem dX3_codeAt_26 : decode cX3_codeAt 26 = .ok (.iaload, 1) := by decide +kernel
theorem dX3_codeAt_27 : decode cX3_codeAt 27 = .ok (.goto 4, 3) := by decide +kernel
theorem dX3_codeAt_30 : decode cX3_codeAt 30 = .ok (.iconst (-1), 1) := by decide +kernel
theorem dX3_codeAt_31 : decode cX3_codeAt 31 = .ok (.ireturn, 1) := by decide +kernel
set_option maxRecDepth 20000 in
theorem ggX3_faultPlace_X3_fitsPots : GoodIn wsX3_faultPlace wsX3_fitsPots := goodIn_r _ [6, 7, 8, 9, 5, 10, 1, 11, 12, 13, 14, 15, 16, 17, 22, 23] (by decide +kernel) (by decide +kernel)
set_option maxRecDepth 20000 in
theorem gX3_faultPlace_X3_fitsPots : GoodIn wsX3_faultPlace (wsV RX3 19 RX3 yX3_fitsPots wsX3_fitsPots) := goodIn_app (goodIn_of _ (by decide +kernel)) ggX3_faultPlace_X3_fitsPots
set_option maxRecDepth 20000 in
theorem ggX3_faultPlace_X3_fitsEnd : GoodIn wsX3_faultPlace wsX3_fitsEnd := goodIn_r _ [21, 7, 8, 9, 5, 10, 1, 11, 15, 16, 17, 22, 23] (by decide +kernel) (by decide +kernel)
set_option maxRecDepth 20000 in
theorem gX3_faultPlace_X3_fitsEnd : GoodIn wsX3_faultPlace (wsV RX3 23 RX3 yX3_fitsEnd wsX3_fitsEnd) := goodIn_app (goodIn_of _ (by decide +kernel)) ggX3_faultPlace_X3_fitsEnd
set_option maxRecDepth 20000 in
theorem ggX3_faultPlace_X3_codeAt : GoodIn wsX3_faultPlace wsX3_codeAt := goodIn_r _ [10, 1, 11, 22, 23] (by decide +kernel) (by decide +kernel)
set_option maxRecDepth 20000 in
theorem gX3_faultPlace_X3_codeAt : GoodIn wsX3_faultPlace (wsV RX3 27 RX3 yX3_codeAt wsX3_codeAt) := goodIn_app (goodIn_of _ (by decide +kernel)) ggX3_faultPlace_X3_codeAt
theorem dX3_faultPlace_0 : decode cX3_faultPlace 0 = .ok (.iconst (-1), 1) := by decide +kernel
theorem dX3_faultPlace_1 : decode cX3_faultPlace 1 = .ok (.istore_n 1, 1) := by decide +kernel
theorem dX3_faultPlace_2 : decode cX3_faultPlace 2 = .ok (.iconst 0, 1) := by decide +kernel
theorem dX3_faultPlace_3 : decode cX3_faultPlace 3 = .ok (.istore_n 2, 1) := by decide +kernel
theorem dX3_faultPlace_4 : decode cX3_faultPlace 4 = .ok (.iload_n 2, 1) := by decide +kernel
theorem dX3_faultPlace_5 : decode cX3_faultPlace 5 = .ok (.aload_n 0, 1) := by decide +kernel
theorem dX3_faultPlace_6 : decode cX3_faultPlace 6 = .ok (.getfield 15, 3) := by decide +kernel
theorem dX3_faultPlace_9 : decode cX3_faultPlace 9 = .ok (.if_icmp .ge 49, 3) := by decide +kernel
theorem dX3_faultPlace_12 : decode cX3_faultPlace 12 = .ok (.iload_n 1, 1) := by decide +kernel
theorem dX3_faultPlace_13 : decode cX3_faultPlace 13 = .ok (.iconst (-1), 1) := by decide +kernel
theorem dX3_faultPlace_14 : decode cX3_faultPlace 14 = .ok (.if_icmp .ne 11, 3) := by decide +kernel
theorem dX3_faultPlace_17 : decode cX3_faultPlace 17 = .ok (.aload_n 0, 1) := by decide +kernel
theorem dX3_faultPlace_18 : decode cX3_faultPlace 18 = .ok (.iload_n 2, 1) := by decide +kernel
theorem dX3_faultPlace_19 : decode cX3_faultPlace 19 = .ok (.invokevirtual 19, 3) := by decide +kernel
theorem dX3_faultPlace_22 : decode cX3_faultPlace 22 = .ok (.goto 11, 3) := by decide +kernel
theorem dX3_faultPlace_25 : decode cX3_faultPlace 25 = .ok (.aload_n 0, 1) := by decide +kernel
theorem dX3_faultPlace_26 : decode cX3_faultPlace 26 = .ok (.iload_n 2, 1) := by decide +kernel
theorem dX3_faultPlace_27 : decode cX3_faultPlace 27 = .ok (.iload_n 2, 1) := by decide +kernel
theorem dX3_faultPlace_28 : decode cX3_faultPlace 28 = .ok (.iload_n 1, 1) := by decide +kernel
theorem dX3_faultPlace_29 : decode cX3_faultPlace 29 = .ok (.isub, 1) := by decide +kernel
theorem dX3_faultPlace_30 : decode cX3_faultPlace 30 = .ok (.invokevirtual 23, 3) := by decide +kernel
theorem dX3_faultPlace_33 : decode cX3_faultPlace 33 = .ok (.istore_n 3, 1) := by decide +kernel
theorem dX3_faultPlace_34 : decode cX3_faultPlace 34 = .ok (.iload_n 3, 1) := by decide +kernel
theorem dX3_faultPlace_35 : decode cX3_faultPlace 35 = .ok (.ifCond .ne 5, 3) := by decide +kernel
theorem dX3_faultPlace_38 : decode cX3_faultPlace 38 = .ok (.iload_n 2, 1) := by decide +kernel
theorem dX3_faultPlace_39 : decode cX3_faultPlace 39 = .ok (.ireturn, 1) := by decide +kernel
theorem dX3_faultPlace_40 : decode cX3_faultPlace 40 = .ok (.aload_n 0, 1) := by decide +kernel
theorem dX3_faultPlace_41 : decode cX3_faultPlace 41 = .ok (.iload_n 2, 1) := by decide +kernel
theorem dX3_faultPlace_42 : decode cX3_faultPlace 42 = .ok (.invokevirtual 27, 3) := by decide +kernel
theorem dX3_faultPlace_45 : decode cX3_faultPlace 45 = .ok (.bipush 59, 2) := by decide +kernel
theorem dX3_faultPlace_47 : decode cX3_faultPlace 47 = .ok (.if_icmp .ne 5, 3) := by decide +kernel
theorem dX3_faultPlace_50 : decode cX3_faultPlace 50 = .ok (.iload_n 2, 1) := by decide +kernel
theorem dX3_faultPlace_51 : decode cX3_faultPlace 51 = .ok (.istore_n 1, 1) := by decide +kernel
theorem dX3_faultPlace_52 : decode cX3_faultPlace 52 = .ok (.iinc 2 1, 3) := by decide +kernel
theorem dX3_faultPlace_55 : decode cX3_faultPlace 55 = .ok (.goto (-51), 3) := by decide +kernel
theorem dX3_faultPlace_58 : decode cX3_faultPlace 58 = .ok (.aload_n 0, 1) := by decide +kernel
theorem dX3_faultPlace_59 : decode cX3_faultPlace 59 = .ok (.getfield 15, 3) := by decide +kernel
theorem dX3_faultPlace_62 : decode cX3_faultPlace 62 = .ok (.ireturn, 1) := by decide +kernel
set_option maxRecDepth 20000 in
theorem ggX3_fitsPots_X3_codeAt : GoodIn wsX3_fitsPots wsX3_codeAt := goodIn_r _ [5, 6, 7, 14, 15] (by decide +kernel) (by decide +kernel)
set_option maxRecDepth 20000 in
theorem gX3_fitsPots_X3_codeAt : GoodIn wsX3_fitsPots (wsV RX3 27 RX3 yX3_codeAt wsX3_codeAt) := goodIn_app (goodIn_of _ (by decide +kernel)) ggX3_fitsPots_X3_codeAt
set_option maxRecDepth 20000 in
theorem ggX3_fitsPots_X3_kindOf : GoodIn wsX3_fitsPots wsX3_kindOf := goodIn_r _ [10] (by decide +kernel) (by decide +kernel)
set_option maxRecDepth 20000 in
theorem gX3_fitsPots_X3_kindOf : GoodIn wsX3_fitsPots (va_wsS RX3 31 yX3_kindOf wsX3_kindOf) := goodIn_app (goodIn_of _ (by decide +kernel)) ggX3_fitsPots_X3_kindOf
set_option maxRecDepth 20000 in
theorem ggX3_fitsPots_X3_fitsSecondDigit : GoodIn wsX3_fitsPots wsX3_fitsSecondDigit := goodIn_r _ [13] (by decide +kernel) (by decide +kernel)
set_option maxRecDepth 20000 in
theorem gX3_fitsPots_X3_fitsSecondDigit : GoodIn wsX3_fitsPots (va_wsS RX3 34 yX3_fitsSecondDigit wsX3_fitsSecondDigit) := goodIn_app (goodIn_of _ (by decide +kernel)) ggX3_fitsPots_X3_fitsSecondDigit
theorem dX3_fitsPots_0 : decode cX3_fitsPots 0 = .ok (.aload_n 0, 1) := by decide +kernel
theorem dX3_fitsPots_1 : decode cX3_fitsPots 1 = .ok (.iload_n 1, 1) := by decide +kernel
theorem dX3_fitsPots_2 : decode cX3_fitsPots 2 = .ok (.invokevirtual 27, 3) := by decide +kernel
theorem dX3_fitsPots_5 : decode cX3_fitsPots 5 = .ok (.istore_n 2, 1) := by decide +kernel
theorem dX3_fitsPots_6 : decode cX3_fitsPots 6 = .ok (.iload_n 1, 1) := by decide +kernel
theorem dX3_fitsPots_7 : decode cX3_fitsPots 7 = .ok (.iconst 4, 1) := by decide +kernel
theorem dX3_fitsPots_8 : decode cX3_fitsPots 8 = .ok (.irem, 1) := by decide +kernel
theorem dX3_fitsPots_9 : decode cX3_fitsPots 9 = .ok (.tableswitch 73 0 2 #[27, 41, 59], 27) := by decide +kernel
theorem dX3_fitsPots_36 : decode cX3_fitsPots 36 = .ok (.iload_n 2, 1) := by decide +kernel
theorem dX3_fitsPots_37 : decode cX3_fitsPots 37 = .ok (.invokestatic 31, 3) := by decide +kernel
theorem dX3_fitsPots_40 : decode cX3_fitsPots 40 = .ok (.iconst (-1), 1) := by decide +kernel
theorem dX3_fitsPots_41 : decode cX3_fitsPots 41 = .ok (.if_icmp .eq 7, 3) := by decide +kernel
theorem dX3_fitsPots_44 : decode cX3_fitsPots 44 = .ok (.iconst 1, 1) := by decide +kernel
theorem dX3_fitsPots_45 : decode cX3_fitsPots 45 = .ok (.goto 4, 3) := by decide +kernel
theorem dX3_fitsPots_48 : decode cX3_fitsPots 48 = .ok (.iconst 0, 1) := by decide +kernel
theorem dX3_fitsPots_49 : decode cX3_fitsPots 49 = .ok (.ireturn, 1) := by decide +kernel
theorem dX3_fitsPots_50 : decode cX3_fitsPots 50 = .ok (.iload_n 2, 1) := by decide +kernel
theorem dX3_fitsPots_51 : decode cX3_fitsPots 51 = .ok (.bipush 48, 2) := by decide +kernel
theorem dX3_fitsPots_53 : decode cX3_fitsPots 53 = .ok (.if_icmp .lt 13, 3) := by decide +kernel
theorem dX3_fitsPots_56 : decode cX3_fitsPots 56 = .ok (.iload_n 2, 1) := by decide +kernel
theorem dX3_fitsPots_57 : decode cX3_fitsPots 57 = .ok (.bipush 52, 2) := by decide +kernel
theorem dX3_fitsPots_59 : decode cX3_fitsPots 59 = .ok (.if_icmp .gt 7, 3) := by decide +kernel
theorem dX3_fitsPots_62 : decode cX3_fitsPots 62 = .ok (.iconst 1, 1) := by decide +kernel
theorem dX3_fitsPots_63 : decode cX3_fitsPots 63 = .ok (.goto 4, 3) := by decide +kernel
theorem dX3_fitsPots_66 : decode cX3_fitsPots 66 = .ok (.iconst 0, 1) := by decide +kernel
theorem dX3_fitsPots_67 : decode cX3_fitsPots 67 = .ok (.ireturn, 1) := by decide +kernel
theorem dX3_fitsPots_68 : decode cX3_fitsPots 68 = .ok (.aload_n 0, 1) := by decide +kernel
theorem dX3_fitsPots_69 : decode cX3_fitsPots 69 = .ok (.iload_n 1, 1) := by decide +kernel
theorem dX3_fitsPots_70 : decode cX3_fitsPots 70 = .ok (.iconst 1, 1) := by decide +kernel
theorem dX3_fitsPots_71 : decode cX3_fitsPots 71 = .ok (.isub, 1) := by decide +kernel
theorem dX3_fitsPots_72 : decode cX3_fitsPots 72 = .ok (.invokevirtual 27, 3) := by decide +kernel
theorem dX3_fitsPots_75 : decode cX3_fitsPots 75 = .ok (.iload_n 2, 1) := by decide +kernel
theorem dX3_fitsPots_76 : decode cX3_fitsPots 76 = .ok (.bipush 52, 2) := by decide +kernel
theorem dX3_fitsPots_78 : decode cX3_fitsPots 78 = .ok (.invokestatic 34, 3) := by decide +kernel
theorem dX3_fitsPots_81 : decode cX3_fitsPots 81 = .ok (.ireturn, 1) := by decide +kernel
theorem dX3_fitsPots_82 : decode cX3_fitsPots 82 = .ok (.iload_n 2, 1) := by decide +kernel
theorem dX3_fitsPots_83 : decode cX3_fitsPots 83 = .ok (.bipush 44, 2) := by decide +kernel
theorem dX3_fitsPots_85 : decode cX3_fitsPots 85 = .ok (.if_icmp .ne 9, 3) := by decide +kernel
theorem dX3_fitsPots_88 : decode cX3_fitsPots 88 = .ok (.iload_n 1, 1) := by decide +kernel
theorem dX3_fitsPots_89 : decode cX3_fitsPots 89 = .ok (.bipush 15, 2) := by decide +kernel
theorem dX3_fitsPots_91 : decode cX3_fitsPots 91 = .ok (.if_icmp .lt 15, 3) := by decide +kernel
theorem dX3_fitsPots_94 : decode cX3_fitsPots 94 = .ok (.iload_n 2, 1) := by decide +kernel
theorem dX3_fitsPots_95 : decode cX3_fitsPots 95 = .ok (.bipush 59, 2) := by decide +kernel
theorem dX3_fitsPots_97 : decode cX3_fitsPots 97 = .ok (.if_icmp .ne 13, 3) := by decide +kernel
theorem dX3_fitsPots_100 : decode cX3_fitsPots 100 = .ok (.iload_n 1, 1) := by decide +kernel
theorem dX3_fitsPots_101 : decode cX3_fitsPots 101 = .ok (.bipush 7, 2) := by decide +kernel
theorem dX3_fitsPots_103 : decode cX3_fitsPots 103 = .ok (.if_icmp .lt 7, 3) := by decide +kernel
theorem dX3_fitsPots_106 : decode cX3_fitsPots 106 = .ok (.iconst 1, 1) := by decide +kernel
theorem dX3_fitsPots_107 : decode cX3_fitsPots 107 = .ok (.goto 4, 3) := by decide +kernel
theorem dX3_fitsPots_110 : decode cX3_fitsPots 110 = .ok (.iconst 0, 1) := by decide +kernel
theorem dX3_fitsPots_111 : decode cX3_fitsPots 111 = .ok (.ireturn, 1) := by decide +kernel
set_option maxRecDepth 20000 in
theorem ggX3_fitsEnd_X3_codeAt : GoodIn wsX3_fitsEnd wsX3_codeAt := goodIn_r _ [5, 6, 7, 11, 12] (by decide +kernel) (by decide +kernel)
set_option maxRecDepth 20000 in
theorem gX3_fitsEnd_X3_codeAt : GoodIn wsX3_fitsEnd (wsV RX3 27 RX3 yX3_codeAt wsX3_codeAt) := goodIn_app (goodIn_of _ (by decide +kernel)) ggX3_fitsEnd_X3_codeAt
set_option maxRecDepth 20000 in
theorem ggX3_fitsEnd_X3_fitsSecondDigit : GoodIn wsX3_fitsEnd wsX3_fitsSecondDigit := goodIn_r _ [10] (by decide +kernel) (by decide +kernel)
set_option maxRecDepth 20000 in
theorem gX3_fitsEnd_X3_fitsSecondDigit : GoodIn wsX3_fitsEnd (va_wsS RX3 34 yX3_fitsSecondDigit wsX3_fitsSecondDigit) := goodIn_app (goodIn_of _ (by decide +kernel)) ggX3_fitsEnd_X3_fitsSecondDigit
theorem dX3_fitsEnd_0 : decode cX3_fitsEnd 0 = .ok (.aload_n 0, 1) := by decide +kernel
theorem dX3_fitsEnd_1 : decode cX3_fitsEnd 1 = .ok (.iload_n 1, 1) := by decide +kernel
theorem dX3_fitsEnd_2 : decode cX3_fitsEnd 2 = .ok (.invokevirtual 27, 3) := by decide +kernel
theorem dX3_fitsEnd_5 : decode cX3_fitsEnd 5 = .ok (.istore_n 3, 1) := by decide +kernel
theorem dX3_fitsEnd_6 : decode cX3_fitsEnd 6 = .ok (.iload_n 2, 1) := by decide +kernel
theorem dX3_fitsEnd_7 : decode cX3_fitsEnd 7 = .ok (.tableswitch 75 1 3 #[25, 43, 57], 25) := by decide +kernel
theorem dX3_fitsEnd_32 : decode cX3_fitsEnd 32 = .ok (.iload_n 3, 1) := by decide +kernel
theorem dX3_fitsEnd_33 : decode cX3_fitsEnd 33 = .ok (.bipush 48, 2) := by decide +kernel
theorem dX3_fitsEnd_35 : decode cX3_fitsEnd 35 = .ok (.if_icmp .lt 13, 3) := by decide +kernel
theorem dX3_fitsEnd_38 : decode cX3_fitsEnd 38 = .ok (.iload_n 3, 1) := by decide +kernel
theorem dX3_fitsEnd_39 : decode cX3_fitsEnd 39 = .ok (.bipush 54, 2) := by decide +kernel
theorem dX3_fitsEnd_41 : decode cX3_fitsEnd 41 = .ok (.if_icmp .gt 7, 3) := by decide +kernel
theorem dX3_fitsEnd_44 : decode cX3_fitsEnd 44 = .ok (.iconst 1, 1) := by decide +kernel
theorem dX3_fitsEnd_45 : decode cX3_fitsEnd 45 = .ok (.goto 4, 3) := by decide +kernel
theorem dX3_fitsEnd_48 : decode cX3_fitsEnd 48 = .ok (.iconst 0, 1) := by decide +kernel
theorem dX3_fitsEnd_49 : decode cX3_fitsEnd 49 = .ok (.ireturn, 1) := by decide +kernel
theorem dX3_fitsEnd_50 : decode cX3_fitsEnd 50 = .ok (.aload_n 0, 1) := by decide +kernel
theorem dX3_fitsEnd_51 : decode cX3_fitsEnd 51 = .ok (.iload_n 1, 1) := by decide +kernel
theorem dX3_fitsEnd_52 : decode cX3_fitsEnd 52 = .ok (.iconst 1, 1) := by decide +kernel
theorem dX3_fitsEnd_53 : decode cX3_fitsEnd 53 = .ok (.isub, 1) := by decide +kernel
theorem dX3_fitsEnd_54 : decode cX3_fitsEnd 54 = .ok (.invokevirtual 27, 3) := by decide +kernel
theorem dX3_fitsEnd_57 : decode cX3_fitsEnd 57 = .ok (.iload_n 3, 1) := by decide +kernel
theorem dX3_fitsEnd_58 : decode cX3_fitsEnd 58 = .ok (.bipush 54, 2) := by decide +kernel
theorem dX3_fitsEnd_60 : decode cX3_fitsEnd 60 = .ok (.invokestatic 34, 3) := by decide +kernel
theorem dX3_fitsEnd_63 : decode cX3_fitsEnd 63 = .ok (.ireturn, 1) := by decide +kernel
theorem dX3_fitsEnd_64 : decode cX3_fitsEnd 64 = .ok (.iload_n 3, 1) := by decide +kernel
theorem dX3_fitsEnd_65 : decode cX3_fitsEnd 65 = .ok (.bipush 49, 2) := by decide +kernel
theorem dX3_fitsEnd_67 : decode cX3_fitsEnd 67 = .ok (.if_icmp .lt 13, 3) := by decide +kernel
theorem dX3_fitsEnd_70 : decode cX3_fitsEnd 70 = .ok (.iload_n 3, 1) := by decide +kernel
theorem dX3_fitsEnd_71 : decode cX3_fitsEnd 71 = .ok (.bipush 52, 2) := by decide +kernel
theorem dX3_fitsEnd_73 : decode cX3_fitsEnd 73 = .ok (.if_icmp .gt 7, 3) := by decide +kernel
theorem dX3_fitsEnd_76 : decode cX3_fitsEnd 76 = .ok (.iconst 1, 1) := by decide +kernel
theorem dX3_fitsEnd_77 : decode cX3_fitsEnd 77 = .ok (.goto 4, 3) := by decide +kernel
theorem dX3_fitsEnd_80 : decode cX3_fitsEnd 80 = .ok (.iconst 0, 1) := by decide +kernel
theorem dX3_fitsEnd_81 : decode cX3_fitsEnd 81 = .ok (.ireturn, 1) := by decide +kernel
theorem dX3_fitsEnd_82 : decode cX3_fitsEnd 82 = .ok (.iconst 0, 1) := by decide +kernel
theorem dX3_fitsEnd_83 : decode cX3_fitsEnd 83 = .ok (.ireturn, 1) := by decide +kernel
theorem dX3_fitsSecondDigit_0 : decode cX3_fitsSecondDigit 0 = .ok (.iload_n 0, 1) := by decide +kernel
theorem dX3_fitsSecondDigit_1 : decode cX3_fitsSecondDigit 1 = .ok (.iload_n 2, 1) := by decide +kernel
theorem dX3_fitsSecondDigit_2 : decode cX3_fitsSecondDigit 2 = .ok (.if_icmp .ne 15, 3) := by decide +kernel
theorem dX3_fitsSecondDigit_5 : decode cX3_fitsSecondDigit 5 = .ok (.iload_n 1, 1) := by decide +kernel
theorem dX3_fitsSecondDigit_6 : decode cX3_fitsSecondDigit 6 = .ok (.bipush 48, 2) := by decide +kernel
theorem dX3_fitsSecondDigit_8 : decode cX3_fitsSecondDigit 8 = .ok (.if_icmp .ne 7, 3) := by decide +kernel
theorem dX3_fitsSecondDigit_11 : decode cX3_fitsSecondDigit 11 = .ok (.iconst 1, 1) := by decide +kernel
theorem dX3_fitsSecondDigit_12 : decode cX3_fitsSecondDigit 12 = .ok (.goto 4, 3) := by decide +kernel
theorem dX3_fitsSecondDigit_15 : decode cX3_fitsSecondDigit 15 = .ok (.iconst 0, 1) := by decide +kernel
theorem dX3_fitsSecondDigit_16 : decode cX3_fitsSecondDigit 16 = .ok (.ireturn, 1) := by decide +kernel
theorem dX3_fitsSecondDigit_17 : decode cX3_fitsSecondDigit 17 = .ok (.iload_n 1, 1) := by decide +kernel
theorem dX3_fitsSecondDigit_18 : decode cX3_fitsSecondDigit 18 = .ok (.iload_n 0, 1) := by decide +kernel
theorem dX3_fitsSecondDigit_19 : decode cX3_fitsSecondDigit 19 = .ok (.bipush 48, 2) := by decide +kernel
theorem dX3_fitsSecondDigit_21 : decode cX3_fitsSecondDigit 21 = .ok (.if_icmp .ne 8, 3) := by decide +kernel
theorem dX3_fitsSecondDigit_24 : decode cX3_fitsSecondDigit 24 = .ok (.bipush 49, 2) := by decide +kernel
theorem dX3_fitsSecondDigit_26 : decode cX3_fitsSecondDigit 26 = .ok (.goto 5, 3) := by decide +kernel
theorem dX3_fitsSecondDigit_29 : decode cX3_fitsSecondDigit 29 = .ok (.bipush 48, 2) := by decide +kernel
theorem dX3_fitsSecondDigit_31 : decode cX3_fitsSecondDigit 31 = .ok (.if_icmp .lt 13, 3) := by decide +kernel
theorem dX3_fitsSecondDigit_34 : decode cX3_fitsSecondDigit 34 = .ok (.iload_n 1, 1) := by decide +kernel
theorem dX3_fitsSecondDigit_35 : decode cX3_fitsSecondDigit 35 = .ok (.bipush 57, 2) := by decide +kernel
theorem dX3_fitsSecondDigit_37 : decode cX3_fitsSecondDigit 37 = .ok (.if_icmp .gt 7, 3) := by decide +kernel
theorem dX3_fitsSecondDigit_40 : decode cX3_fitsSecondDigit 40 = .ok (.iconst 1, 1) := by decide +kernel
theorem dX3_fitsSecondDigit_41 : decode cX3_fitsSecondDigit 41 = .ok (.goto 4, 3) := by decide +kernel
theorem dX3_fitsSecondDigit_44 : decode cX3_fitsSecondDigit 44 = .ok (.iconst 0, 1) := by decide +kernel
theorem dX3_fitsSecondDigit_45 : decode cX3_fitsSecondDigit 45 = .ok (.ireturn, 1) := by decide +kernel
theorem dX3_kindOf_0 : decode cX3_kindOf 0 = .ok (.iload_n 0, 1) := by decide +kernel
theorem dX3_kindOf_1 : decode cX3_kindOf 1 = .ok (.lookupswitch 61 #[(98, 59), (101, 53), (112, 51), (114, 55), (115, 57)], 51) := by decide +kernel
theorem dX3_kindOf_52 : decode cX3_kindOf 52 = .ok (.iconst 0, 1) := by decide +kernel
theorem dX3_kindOf_53 : decode cX3_kindOf 53 = .ok (.ireturn, 1) := by decide +kernel
theorem dX3_kindOf_54 : decode cX3_kindOf 54 = .ok (.iconst 1, 1) := by decide +kernel
theorem dX3_kindOf_55 : decode cX3_kindOf 55 = .ok (.ireturn, 1) := by decide +kernel
theorem dX3_kindOf_56 : decode cX3_kindOf 56 = .ok (.iconst 2, 1) := by decide +kernel
theorem dX3_kindOf_57 : decode cX3_kindOf 57 = .ok (.ireturn, 1) := by decide +kernel
theorem dX3_kindOf_58 : decode cX3_kindOf 58 = .ok (.iconst 3, 1) := by decide +kernel
theorem dX3_kindOf_59 : decode cX3_kindOf 59 = .ok (.ireturn, 1) := by decide +kernel
theorem dX3_kindOf_60 : decode cX3_kindOf 60 = .ok (.iconst 4, 1) := by decide +kernel
theorem dX3_kindOf_61 : decode cX3_kindOf 61 = .ok (.ireturn, 1) := by decide +kernel
theorem dX3_kindOf_62 : decode cX3_kindOf 62 = .ok (.iconst (-1), 1) := by decide +kernel
theorem dX3_kindOf_63 : decode cX3_kindOf 63 = .ok (.ireturn, 1) := by decide +kernel
set_option maxRecDepth 20000 in
theorem ggX3_isKitchen_X3_codeAt : GoodIn wsX3_isKitchen wsX3_codeAt := goodIn_r _ [6, 1, 7, 26, 27] (by decide +kernel) (by decide +kernel)
set_option maxRecDepth 20000 in
theorem gX3_isKitchen_X3_codeAt : GoodIn wsX3_isKitchen (wsV RX3 27 RX3 yX3_codeAt wsX3_codeAt) := goodIn_app (goodIn_of _ (by decide +kernel)) ggX3_isKitchen_X3_codeAt
set_option maxRecDepth 20000 in
theorem ggX3_isKitchen_X3_faultPlace : GoodIn wsX3_isKitchen wsX3_faultPlace := goodIn_r _ [11, 1, 12, 13, 14, 5, 15, 2, 3, 4, 6, 7, 16, 17, 18, 19, 20, 21, 22, 23, 24, 25, 26, 27] (by decide +kernel) (by decide +kernel)
set_option maxRecDepth 20000 in
theorem gX3_isKitchen_X3_faultPlace : GoodIn wsX3_isKitchen (wsV RX3 38 RX3 yX3_faultPlace wsX3_faultPlace) := goodIn_app (goodIn_of _ (by decide +kernel)) ggX3_isKitchen_X3_faultPlace
theorem dX3_isKitchen_0 : decode cX3_isKitchen 0 = .ok (.aload_n 0, 1) := by decide +kernel
theorem dX3_isKitchen_1 : decode cX3_isKitchen 1 = .ok (.aload_n 0, 1) := by decide +kernel
theorem dX3_isKitchen_2 : decode cX3_isKitchen 2 = .ok (.getfield 15, 3) := by decide +kernel
theorem dX3_isKitchen_5 : decode cX3_isKitchen 5 = .ok (.iconst 4, 1) := by decide +kernel
theorem dX3_isKitchen_6 : decode cX3_isKitchen 6 = .ok (.isub, 1) := by decide +kernel
theorem dX3_isKitchen_7 : decode cX3_isKitchen 7 = .ok (.invokevirtual 27, 3) := by decide +kernel
theorem dX3_isKitchen_10 : decode cX3_isKitchen 10 = .ok (.bipush 59, 2) := by decide +kernel
theorem dX3_isKitchen_12 : decode cX3_isKitchen 12 = .ok (.if_icmp .ne 18, 3) := by decide +kernel
theorem dX3_isKitchen_15 : decode cX3_isKitchen 15 = .ok (.aload_n 0, 1) := by decide +kernel
theorem dX3_isKitchen_16 : decode cX3_isKitchen 16 = .ok (.invokevirtual 38, 3) := by decide +kernel
theorem dX3_isKitchen_19 : decode cX3_isKitchen 19 = .ok (.aload_n 0, 1) := by decide +kernel
theorem dX3_isKitchen_20 : decode cX3_isKitchen 20 = .ok (.getfield 15, 3) := by decide +kernel
theorem dX3_isKitchen_23 : decode cX3_isKitchen 23 = .ok (.if_icmp .ne 7, 3) := by decide +kernel
theorem dX3_isKitchen_26 : decode cX3_isKitchen 26 = .ok (.iconst 1, 1) := by decide +kernel
theorem dX3_isKitchen_27 : decode cX3_isKitchen 27 = .ok (.goto 4, 3) := by decide +kernel
theorem dX3_isKitchen_30 : decode cX3_isKitchen 30 = .ok (.iconst 0, 1) := by decide +kernel
theorem dX3_isKitchen_31 : decode cX3_isKitchen 31 = .ok (.ireturn, 1) := by decide +kernel
theorem dX3_potsTold_0 : decode cX3_potsTold 0 = .ok (.aload_n 0, 1) := by decide +kernel
theorem dX3_potsTold_1 : decode cX3_potsTold 1 = .ok (.getfield 15, 3) := by decide +kernel
theorem dX3_potsTold_4 : decode cX3_potsTold 4 = .ok (.iconst 4, 1) := by decide +kernel
theorem dX3_potsTold_5 : decode cX3_potsTold 5 = .ok (.idiv, 1) := by decide +kernel
theorem dX3_potsTold_6 : decode cX3_potsTold 6 = .ok (.ireturn, 1) := by decide +kernel
set_option maxRecDepth 20000 in
theorem ggX3_kindTold_X3_codeAt : GoodIn wsX3_kindTold wsX3_codeAt := goodIn_r _ [5, 6, 7, 11, 12] (by decide +kernel) (by decide +kernel)
set_option maxRecDepth 20000 in
theorem gX3_kindTold_X3_codeAt : GoodIn wsX3_kindTold (wsV RX3 27 RX3 yX3_codeAt wsX3_codeAt) := goodIn_app (goodIn_of _ (by decide +kernel)) ggX3_kindTold_X3_codeAt
set_option maxRecDepth 20000 in
theorem ggX3_kindTold_X3_kindOf : GoodIn wsX3_kindTold wsX3_kindOf := goodIn_r _ [10] (by decide +kernel) (by decide +kernel)
set_option maxRecDepth 20000 in
theorem gX3_kindTold_X3_kindOf : GoodIn wsX3_kindTold (va_wsS RX3 31 yX3_kindOf wsX3_kindOf) := goodIn_app (goodIn_of _ (by decide +kernel)) ggX3_kindTold_X3_kindOf
theorem dX3_kindTold_0 : decode cX3_kindTold 0 = .ok (.aload_n 0, 1) := by decide +kernel
theorem dX3_kindTold_1 : decode cX3_kindTold 1 = .ok (.iload_n 1, 1) := by decide +kernel
theorem dX3_kindTold_2 : decode cX3_kindTold 2 = .ok (.iconst 4, 1) := by decide +kernel
theorem dX3_kindTold_3 : decode cX3_kindTold 3 = .ok (.imul, 1) := by decide +kernel
theorem dX3_kindTold_4 : decode cX3_kindTold 4 = .ok (.invokevirtual 27, 3) := by decide +kernel
theorem dX3_kindTold_7 : decode cX3_kindTold 7 = .ok (.invokestatic 31, 3) := by decide +kernel
theorem dX3_kindTold_10 : decode cX3_kindTold 10 = .ok (.ireturn, 1) := by decide +kernel
set_option maxRecDepth 20000 in
theorem ggX3_wantsTold_X3_twoDigits : GoodIn wsX3_wantsTold wsX3_twoDigits := goodIn_r _ [5, 6, 7, 8, 4, 9, 10, 11, 12, 13] (by decide +kernel) (by decide +kernel)
set_option maxRecDepth 20000 in
theorem gX3_wantsTold_X3_twoDigits : GoodIn wsX3_wantsTold (wsV RX3 42 RX3 yX3_twoDigits wsX3_twoDigits) := goodIn_app (goodIn_of _ (by decide +kernel)) ggX3_wantsTold_X3_twoDigits
theorem dX3_wantsTold_0 : decode cX3_wantsTold 0 = .ok (.aload_n 0, 1) := by decide +kernel
theorem dX3_wantsTold_1 : decode cX3_wantsTold 1 = .ok (.iload_n 1, 1) := by decide +kernel
theorem dX3_wantsTold_2 : decode cX3_wantsTold 2 = .ok (.iconst 4, 1) := by decide +kernel
theorem dX3_wantsTold_3 : decode cX3_wantsTold 3 = .ok (.imul, 1) := by decide +kernel
theorem dX3_wantsTold_4 : decode cX3_wantsTold 4 = .ok (.iconst 1, 1) := by decide +kernel
theorem dX3_wantsTold_5 : decode cX3_wantsTold 5 = .ok (.iadd, 1) := by decide +kernel
theorem dX3_wantsTold_6 : decode cX3_wantsTold 6 = .ok (.invokevirtual 42, 3) := by decide +kernel
theorem dX3_wantsTold_9 : decode cX3_wantsTold 9 = .ok (.ireturn, 1) := by decide +kernel
set_option maxRecDepth 20000 in
theorem ggX3_springTold_X3_twoDigits : GoodIn wsX3_springTold wsX3_twoDigits := goodIn_r _ [6, 7, 8, 9, 5, 10, 1, 11, 12, 13] (by decide +kernel) (by decide +kernel)
set_option maxRecDepth 20000 in
theorem gX3_springTold_X3_twoDigits : GoodIn wsX3_springTold (wsV RX3 42 RX3 yX3_twoDigits wsX3_twoDigits) := goodIn_app (goodIn_of _ (by decide +kernel)) ggX3_springTold_X3_twoDigits
theorem dX3_springTold_0 : decode cX3_springTold 0 = .ok (.aload_n 0, 1) := by decide +kernel
theorem dX3_springTold_1 : decode cX3_springTold 1 = .ok (.aload_n 0, 1) := by decide +kernel
theorem dX3_springTold_2 : decode cX3_springTold 2 = .ok (.getfield 15, 3) := by decide +kernel
theorem dX3_springTold_5 : decode cX3_springTold 5 = .ok (.iconst 3, 1) := by decide +kernel
theorem dX3_springTold_6 : decode cX3_springTold 6 = .ok (.isub, 1) := by decide +kernel
theorem dX3_springTold_7 : decode cX3_springTold 7 = .ok (.invokevirtual 42, 3) := by decide +kernel
theorem dX3_springTold_10 : decode cX3_springTold 10 = .ok (.ireturn, 1) := by decide +kernel
set_option maxRecDepth 20000 in
theorem ggX3_handsTold_X3_codeAt : GoodIn wsX3_handsTold wsX3_codeAt := goodIn_r _ [6, 1, 7, 8, 9] (by decide +kernel) (by decide +kernel)
set_option maxRecDepth 20000 in
theorem gX3_handsTold_X3_codeAt : GoodIn wsX3_handsTold (wsV RX3 27 RX3 yX3_codeAt wsX3_codeAt) := goodIn_app (goodIn_of _ (by decide +kernel)) ggX3_handsTold_X3_codeAt
theorem dX3_handsTold_0 : decode cX3_handsTold 0 = .ok (.aload_n 0, 1) := by decide +kernel
theorem dX3_handsTold_1 : decode cX3_handsTold 1 = .ok (.aload_n 0, 1) := by decide +kernel
theorem dX3_handsTold_2 : decode cX3_handsTold 2 = .ok (.getfield 15, 3) := by decide +kernel
theorem dX3_handsTold_5 : decode cX3_handsTold 5 = .ok (.iconst 1, 1) := by decide +kernel
theorem dX3_handsTold_6 : decode cX3_handsTold 6 = .ok (.isub, 1) := by decide +kernel
theorem dX3_handsTold_7 : decode cX3_handsTold 7 = .ok (.invokevirtual 27, 3) := by decide +kernel
theorem dX3_handsTold_10 : decode cX3_handsTold 10 = .ok (.bipush 48, 2) := by decide +kernel
theorem dX3_handsTold_12 : decode cX3_handsTold 12 = .ok (.isub, 1) := by decide +kernel
theorem dX3_handsTold_13 : decode cX3_handsTold 13 = .ok (.ireturn, 1) := by decide +kernel
set_option maxRecDepth 20000 in
theorem ggX3_twoDigits_X3_codeAt : GoodIn wsX3_twoDigits wsX3_codeAt := goodIn_r _ [5, 6, 7, 8, 9] (by decide +kernel) (by decide +kernel)
set_option maxRecDepth 20000 in
theorem gX3_twoDigits_X3_codeAt : GoodIn wsX3_twoDigits (wsV RX3 27 RX3 yX3_codeAt wsX3_codeAt) := goodIn_app (goodIn_of _ (by decide +kernel)) ggX3_twoDigits_X3_codeAt
theorem dX3_twoDigits_0 : decode cX3_twoDigits 0 = .ok (.bipush 10, 2) := by decide +kernel
theorem dX3_twoDigits_2 : decode cX3_twoDigits 2 = .ok (.aload_n 0, 1) := by decide +kernel
theorem dX3_twoDigits_3 : decode cX3_twoDigits 3 = .ok (.iload_n 1, 1) := by decide +kernel
theorem dX3_twoDigits_4 : decode cX3_twoDigits 4 = .ok (.invokevirtual 27, 3) := by decide +kernel
theorem dX3_twoDigits_7 : decode cX3_twoDigits 7 = .ok (.bipush 48, 2) := by decide +kernel
theorem dX3_twoDigits_9 : decode cX3_twoDigits 9 = .ok (.isub, 1) := by decide +kernel
theorem dX3_twoDigits_10 : decode cX3_twoDigits 10 = .ok (.imul, 1) := by decide +kernel
theorem dX3_twoDigits_11 : decode cX3_twoDigits 11 = .ok (.aload_n 0, 1) := by decide +kernel
theorem dX3_twoDigits_12 : decode cX3_twoDigits 12 = .ok (.iload_n 1, 1) := by decide +kernel
theorem dX3_twoDigits_13 : decode cX3_twoDigits 13 = .ok (.iconst 1, 1) := by decide +kernel
theorem dX3_twoDigits_14 : decode cX3_twoDigits 14 = .ok (.iadd, 1) := by decide +kernel
theorem dX3_twoDigits_15 : decode cX3_twoDigits 15 = .ok (.invokevirtual 27, 3) := by decide +kernel
theorem dX3_twoDigits_18 : decode cX3_twoDigits 18 = .ok (.iadd, 1) := by decide +kernel
theorem dX3_twoDigits_19 : decode cX3_twoDigits 19 = .ok (.bipush 48, 2) := by decide +kernel
theorem dX3_twoDigits_21 : decode cX3_twoDigits 21 = .ok (.isub, 1) := by decide +kernel
theorem dX3_twoDigits_22 : decode cX3_twoDigits 22 = .ok (.ireturn, 1) := by decide +kernel
theorem dX4_init_0 : decode cX4_init 0 = .ok (.aload_n 0, 1) := by decide +kernel
theorem dX4_init_1 : decode cX4_init 1 = .ok (.invokespecial 3, 3) := by decide +kernel
theorem dX4_init_4 : decode cX4_init 4 = .ok (.aload_n 0, 1) := by decide +kernel
theorem dX4_init_5 : decode cX4_init 5 = .ok (.sipush 1936, 3) := by decide +kernel
theorem dX4_init_8 : decode cX4_init 8 = .ok (.newarray .int, 2) := by decide +kernel
theorem dX4_init_10 : decode cX4_init 10 = .ok (.putfield 11, 3) := by decide +kernel
theorem dX4_init_13 : decode cX4_init 13 = .ok (.aload_n 0, 1) := by decide +kernel
theorem dX4_init_14 : decode cX4_init 14 = .ok (.bipush 16, 2) := by decide +kernel
theorem dX4_init_16 : decode cX4_init 16 = .ok (.newarray .int, 2) := by decide +kernel
theorem dX4_init_18 : decode cX4_init 18 = .ok (.putfield 15, 3) := by decide +kernel
theorem dX4_init_21 : decode cX4_init 21 = .ok (.aload_n 0, 1) := by decide +kernel
theorem dX4_init_22 : decode cX4_init 22 = .ok (.iconst 4, 1) := by decide +kernel
theorem dX4_init_23 : decode cX4_init 23 = .ok (.newarray .int, 2) := by decide +kernel
theorem dX4_init_25 : decode cX4_init 25 = .ok (.putfield 18, 3) := by decide +kernel
theorem dX4_init_28 : decode cX4_init 28 = .ok (.aload_n 0, 1) := by decide +kernel
theorem dX4_init_29 : decode cX4_init 29 = .ok (.iconst 4, 1) := by decide +kernel
theorem dX4_init_30 : decode cX4_init 30 = .ok (.newarray .int, 2) := by decide +kernel
theorem dX4_init_32 : decode cX4_init 32 = .ok (.putfield 21, 3) := by decide +kernel
theorem dX4_init_35 : decode cX4_init 35 = .ok (.return_, 1) := by decide +kernel
theorem dX4_begin_0 : decode cX4_begin 0 = .ok (.aload_n 0, 1) := by decide +kernel
theorem dX4_begin_1 : decode cX4_begin 1 = .ok (.iconst 0, 1) := by decide +kernel
theorem dX4_begin_2 : decode cX4_begin 2 = .ok (.putfield 24, 3) := by decide +kernel
theorem dX4_begin_5 : decode cX4_begin 5 = .ok (.aload_n 0, 1) := by decide +kernel
theorem dX4_begin_6 : decode cX4_begin 6 = .ok (.iconst 0, 1) := by decide +kernel
theorem dX4_begin_7 : decode cX4_begin 7 = .ok (.putfield 28, 3) := by decide +kernel
theorem dX4_begin_10 : decode cX4_begin 10 = .ok (.aload_n 0, 1) := by decide +kernel
theorem dX4_begin_11 : decode cX4_begin 11 = .ok (.iload_n 1, 1) := by decide +kernel
theorem dX4_begin_12 : decode cX4_begin 12 = .ok (.putfield 31, 3) := by decide +kernel
theorem dX4_begin_15 : decode cX4_begin 15 = .ok (.aload_n 0, 1) := by decide +kernel
theorem dX4_begin_16 : decode cX4_begin 16 = .ok (.iload_n 2, 1) := by decide +kernel
theorem dX4_begin_17 : decode cX4_begin 17 = .ok (.putfield 34, 3) := by decide +kernel
theorem dX4_begin_20 : decode cX4_begin 20 = .ok (.aload_n 0, 1) := by decide +kernel
theorem dX4_begin_21 : decode cX4_begin 21 = .ok (.iload_n 3, 1) := by decide +kernel
theorem dX4_begin_22 : decode cX4_begin 22 = .ok (.putfield 37, 3) := by decide +kernel
theorem dX4_begin_25 : decode cX4_begin 25 = .ok (.return_, 1) := by decide +kernel
theorem dX4_add_0 : decode cX4_add 0 = .ok (.aload_n 0, 1) := by decide +kernel
theorem dX4_add_1 : decode cX4_add 1 = .ok (.getfield 24, 3) := by decide +kernel
theorem dX4_add_4 : decode cX4_add 4 = .ok (.iconst 4, 1) := by decide +kernel
theorem dX4_add_5 : decode cX4_add 5 = .ok (.if_icmp .lt 4, 3) := by decide +kernel
theorem dX4_add_8 : decode cX4_add 8 = .ok (.return_, 1) := by decide +kernel
theorem dX4_add_9 : decode cX4_add 9 = .ok (.aload_n 0, 1) := by decide +kernel
theorem dX4_add_10 : decode cX4_add 10 = .ok (.getfield 18, 3) := by decide +kernel
theorem dX4_add_13 : decode cX4_add 13 = .ok (.aload_n 0, 1) := by decide +kernel
theorem dX4_add_14 : decode cX4_add 14 = .ok (.getfield 24, 3) := by decide +kernel
theorem dX4_add_17 : decode cX4_add 17 = .ok (.iload_n 1, 1) := by decide +kernel
theorem dX4_add_18 : decode cX4_add 18 = .ok (.iastore, 1) := by decide +kernel
theorem dX4_add_19 : decode cX4_add 19 = .ok (.aload_n 0, 1) := by decide +kernel
theorem dX4_add_20 : decode cX4_add 20 = .ok (.getfield 21, 3) := by decide +kernel
theorem dX4_add_23 : decode cX4_add 23 = .ok (.aload_n 0, 1) := by decide +kernel
theorem dX4_add_24 : decode cX4_add 24 = .ok (.getfield 24, 3) := by decide +kernel
theorem dX4_add_27 : decode cX4_add 27 = .ok (.iload_n 1, 1) := by decide +kernel
theorem dX4_add_28 : decode cX4_add 28 = .ok (.iload_n 2, 1) := by decide +kernel
theorem dX4_add_29 : decode cX4_add 29 = .ok (.iadd, 1) := by decide +kernel
theorem dX4_add_30 : decode cX4_add 30 = .ok (.iastore, 1) := by decide +kernel
theorem dX4_add_31 : decode cX4_add 31 = .ok (.aload_n 0, 1) := by decide +kernel
theorem dX4_add_32 : decode cX4_add 32 = .ok (.bipush 120, 2) := by decide +kernel
theorem dX4_add_34 : decode cX4_add 34 = .ok (.aload_n 0, 1) := by decide +kernel
theorem dX4_add_35 : decode cX4_add 35 = .ok (.getfield 28, 3) := by decide +kernel
theorem dX4_add_38 : decode cX4_add 38 = .ok (.aload_n 0, 1) := by decide +kernel
theorem dX4_add_39 : decode cX4_add 39 = .ok (.getfield 21, 3) := by decide +kernel
theorem dX4_add_42 : decode cX4_add 42 = .ok (.aload_n 0, 1) := by decide +kernel
theorem dX4_add_43 : decode cX4_add 43 = .ok (.getfield 24, 3) := by decide +kernel
theorem dX4_add_46 : decode cX4_add 46 = .ok (.iaload, 1) := by decide +kernel
theorem dX4_add_47 : decode cX4_add 47 = .ok (.invokestatic 40, 3) := by decide +kernel
theorem dX4_add_50 : decode cX4_add 50 = .ok (.invokestatic 46, 3) := by decide +kernel
theorem dX4_add_53 : decode cX4_add 53 = .ok (.putfield 28, 3) := by decide +kernel
theorem dX4_add_56 : decode cX4_add 56 = .ok (.aload_n 0, 1) := by decide +kernel
theorem dX4_add_57 : decode cX4_add 57 = .ok (.dup, 1) := by decide +kernel
theorem dX4_add_58 : decode cX4_add 58 = .ok (.getfield 24, 3) := by decide +kernel
theorem dX4_add_61 : decode cX4_add 61 = .ok (.iconst 1, 1) := by decide +kernel
theorem dX4_add_62 : decode cX4_add 62 = .ok (.iadd, 1) := by decide +kernel
theorem dX4_add_63 : decode cX4_add 63 = .ok (.putfield 24, 3) := by decide +kernel
theorem dX4_add_66 : decode cX4_add 66 = .ok (.return_, 1) := by decide +kernel
set_option maxRecDepth 20000 in
theorem ggX4_fill_X4_fillMinute : GoodIn wsX4_fill wsX4_fillMinute := goodIn_r _ [6, 7, 8, 9, 10, 11, 12, 13, 5, 14, 15, 16, 17, 18, 19, 20, 21, 22, 23, 24, 25, 26, 1, 27, 28, 29, 30, 31, 32, 33, 34, 35, 36, 37, 38, 39, 40, 41, 42, 43, 44, 45, 46, 47, 48, 49, 50, 51, 52, 53] (by decide +kernel) (by decide +kernel)
set_option maxRecDepth 20000 in
theorem gX4_fill_X4_fillMinute : GoodIn wsX4_fill (wsV RX4 49 RX4 yX4_fillMinute wsX4_fillMinute) := goodIn_app (goodIn_of _ (by decide +kernel)) ggX4_fill_X4_fillMinute
theorem dX4_fill_0 : decode cX4_fill 0 = .ok (.aload_n 0, 1) := by decide +kernel
theorem dX4_fill_1 : decode cX4_fill 1 = .ok (.getfield 28, 3) := by decide +kernel
theorem dX4_fill_4 : decode cX4_fill 4 = .ok (.istore_n 1, 1) := by decide +kernel
theorem dX4_fill_5 : decode cX4_fill 5 = .ok (.iload_n 1, 1) := by decide +kernel
theorem dX4_fill_6 : decode cX4_fill 6 = .ok (.ifCond .lt 14, 3) := by decide +kernel
theorem dX4_fill_9 : decode cX4_fill 9 = .ok (.aload_n 0, 1) := by decide +kernel
theorem dX4_fill_10 : decode cX4_fill 10 = .ok (.iload_n 1, 1) := by decide +kernel
theorem dX4_fill_11 : decode cX4_fill 11 = .ok (.invokevirtual 49, 3) := by decide +kernel
theorem dX4_fill_14 : decode cX4_fill 14 = .ok (.iinc 1 (-1), 3) := by decide +kernel
theorem dX4_fill_17 : decode cX4_fill 17 = .ok (.goto (-12), 3) := by decide +kernel
theorem dX4_fill_20 : decode cX4_fill 20 = .ok (.return_, 1) := by decide +kernel
theorem dX4_allPots_0 : decode cX4_allPots 0 = .ok (.iconst 1, 1) := by decide +kernel
theorem dX4_allPots_1 : decode cX4_allPots 1 = .ok (.aload_n 0, 1) := by decide +kernel
theorem dX4_allPots_2 : decode cX4_allPots 2 = .ok (.getfield 24, 3) := by decide +kernel
theorem dX4_allPots_5 : decode cX4_allPots 5 = .ok (.ishl, 1) := by decide +kernel
theorem dX4_allPots_6 : decode cX4_allPots 6 = .ok (.iconst 1, 1) := by decide +kernel
theorem dX4_allPots_7 : decode cX4_allPots 7 = .ok (.isub, 1) := by decide +kernel
theorem dX4_allPots_8 : decode cX4_allPots 8 = .ok (.ireturn, 1) := by decide +kernel
set_option maxRecDepth 20000 in
theorem ggX4_fillMinute_X4_allPots : GoodIn wsX4_fillMinute wsX4_allPots := goodIn_r _ [9, 10, 41, 42, 43, 44, 45, 46, 47, 48, 49] (by decide +kernel) (by decide +kernel)
set_option maxRecDepth 20000 in
theorem gX4_fillMinute_X4_allPots : GoodIn wsX4_fillMinute (wsV RX4 53 RX4 yX4_allPots wsX4_allPots) := goodIn_app (goodIn_of _ (by decide +kernel)) ggX4_fillMinute_X4_allPots
set_option maxRecDepth 20000 in
theorem ggX4_fillMinute_X4_goodAt : GoodIn wsX4_fillMinute wsX4_goodAt := goodIn_r _ [14, 10, 15, 16, 41, 42, 43, 44, 45, 46, 47, 48, 49] (by decide +kernel) (by decide +kernel)
set_option maxRecDepth 20000 in
theorem gX4_fillMinute_X4_goodAt : GoodIn wsX4_fillMinute (wsV RX4 57 RX4 yX4_goodAt wsX4_goodAt) := goodIn_app (goodIn_of _ (by decide +kernel)) ggX4_fillMinute_X4_goodAt
set_option maxRecDepth 20000 in
theorem ggX4_fillMinute_X4_byWinding : GoodIn wsX4_fillMinute wsX4_byWinding := goodIn_r _ [20, 21, 22, 2, 23, 24, 25, 26, 41, 42, 43, 44, 45, 46, 47, 48, 49] (by decide +kernel) (by decide +kernel)
set_option maxRecDepth 20000 in
theorem gX4_fillMinute_X4_byWinding : GoodIn wsX4_fillMinute (wsV RX4 61 RX4 yX4_byWinding wsX4_byWinding) := goodIn_app (goodIn_of _ (by decide +kernel)) ggX4_fillMinute_X4_byWinding
set_option maxRecDepth 20000 in
theorem ggX4_fillMinute_X4_byTaking : GoodIn wsX4_fillMinute wsX4_byTaking := goodIn_r _ [30, 1, 23, 24, 25, 26, 31, 32, 8, 33, 34, 35, 36, 37, 38, 39, 40, 41, 42, 43, 44, 45, 46, 47, 48, 49] (by decide +kernel) (by decide +kernel)
set_option maxRecDepth 20000 in
theorem gX4_fillMinute_X4_byTaking : GoodIn wsX4_fillMinute (wsV RX4 64 RX4 yX4_byTaking wsX4_byTaking) := goodIn_app (goodIn_of _ (by decide +kernel)) ggX4_fillMinute_X4_byTaking
theorem dX4_fillMinute_0 : decode cX4_fillMinute 0 = .ok (.aload_n 0, 1) := by decide +kernel
theorem dX4_fillMinute_1 : decode cX4_fillMinute 1 = .ok (.invokevirtual 53, 3) := by decide +kernel
theorem dX4_fillMinute_4 : decode cX4_fillMinute 4 = .ok (.istore_n 2, 1) := by decide +kernel
theorem dX4_fillMinute_5 : decode cX4_fillMinute 5 = .ok (.aload_n 0, 1) := by decide +kernel
theorem dX4_fillMinute_6 : decode cX4_fillMinute 6 = .ok (.iload_n 1, 1) := by decide +kernel
theorem dX4_fillMinute_7 : decode cX4_fillMinute 7 = .ok (.invokevirtual 57, 3) := by decide +kernel
theorem dX4_fillMinute_10 : decode cX4_fillMinute 10 = .ok (.istore_n 3, 1) := by decide +kernel
theorem dX4_fillMinute_11 : decode cX4_fillMinute 11 = .ok (.iconst 0, 1) := by decide +kernel
theorem dX4_fillMinute_12 : decode cX4_fillMinute 12 = .ok (.istore 4, 2) := by decide +kernel
theorem dX4_fillMinute_14 : decode cX4_fillMinute 14 = .ok (.iload 4, 2) := by decide +kernel
theorem dX4_fillMinute_16 : decode cX4_fillMinute 16 = .ok (.iload_n 2, 1) := by decide +kernel
theorem dX4_fillMinute_17 : decode cX4_fillMinute 17 = .ok (.if_icmp .gt 23, 3) := by decide +kernel
theorem dX4_fillMinute_20 : decode cX4_fillMinute 20 = .ok (.aload_n 0, 1) := by decide +kernel
theorem dX4_fillMinute_21 : decode cX4_fillMinute 21 = .ok (.getfield 15, 3) := by decide +kernel
theorem dX4_fillMinute_24 : decode cX4_fillMinute 24 = .ok (.iload 4, 2) := by decide +kernel
theorem dX4_fillMinute_26 : decode cX4_fillMinute 26 = .ok (.aload_n 0, 1) := by decide +kernel
theorem dX4_fillMinute_27 : decode cX4_fillMinute 27 = .ok (.iload_n 1, 1) := by decide +kernel
theorem dX4_fillMinute_28 : decode cX4_fillMinute 28 = .ok (.iload 4, 2) := by decide +kernel
theorem dX4_fillMinute_30 : decode cX4_fillMinute 30 = .ok (.invokevirtual 61, 3) := by decide +kernel
theorem dX4_fillMinute_33 : decode cX4_fillMinute 33 = .ok (.iastore, 1) := by decide +kernel
theorem dX4_fillMinute_34 : decode cX4_fillMinute 34 = .ok (.iinc 4 1, 3) := by decide +kernel
theorem dX4_fillMinute_37 : decode cX4_fillMinute 37 = .ok (.goto (-23), 3) := by decide +kernel
theorem dX4_fillMinute_40 : decode cX4_fillMinute 40 = .ok (.iconst 0, 1) := by decide +kernel
theorem dX4_fillMinute_41 : decode cX4_fillMinute 41 = .ok (.istore 4, 2) := by decide +kernel
theorem dX4_fillMinute_43 : decode cX4_fillMinute 43 = .ok (.iload 4, 2) := by decide +kernel
theorem dX4_fillMinute_45 : decode cX4_fillMinute 45 = .ok (.iload_n 2, 1) := by decide +kernel
theorem dX4_fillMinute_46 : decode cX4_fillMinute 46 = .ok (.if_icmp .gt 46, 3) := by decide +kernel
theorem dX4_fillMinute_49 : decode cX4_fillMinute 49 = .ok (.aload_n 0, 1) := by decide +kernel
theorem dX4_fillMinute_50 : decode cX4_fillMinute 50 = .ok (.getfield 11, 3) := by decide +kernel
theorem dX4_fillMinute_53 : decode cX4_fillMinute 53 = .ok (.iload_n 1, 1) := by decide +kernel
theorem dX4_fillMinute_54 : decode cX4_fillMinute 54 = .ok (.bipush 16, 2) := by decide +kernel
theorem dX4_fillMinute_56 : decode cX4_fillMinute 56 = .ok (.imul, 1) := by decide +kernel
theorem dX4_fillMinute_57 : decode cX4_fillMinute 57 = .ok (.iload 4, 2) := by decide +kernel
theorem dX4_fillMinute_59 : decode cX4_fillMinute 59 = .ok (.iadd, 1) := by decide +kernel
theorem dX4_fillMinute_60 : decode cX4_fillMinute 60 = .ok (.aload_n 0, 1) := by decide +kernel
theorem dX4_fillMinute_61 : decode cX4_fillMinute 61 = .ok (.iload 4, 2) := by decide +kernel
theorem dX4_fillMinute_63 : decode cX4_fillMinute 63 = .ok (.iload 4, 2) := by decide +kernel
theorem dX4_fillMinute_65 : decode cX4_fillMinute 65 = .ok (.iload_n 3, 1) := by decide +kernel
theorem dX4_fillMinute_66 : decode cX4_fillMinute 66 = .ok (.iand, 1) := by decide +kernel
theorem dX4_fillMinute_67 : decode cX4_fillMinute 67 = .ok (.iload_n 1, 1) := by decide +kernel
theorem dX4_fillMinute_68 : decode cX4_fillMinute 68 = .ok (.ifCond .ne 10, 3) := by decide +kernel
theorem dX4_fillMinute_71 : decode cX4_fillMinute 71 = .ok (.aload_n 0, 1) := by decide +kernel
theorem dX4_fillMinute_72 : decode cX4_fillMinute 72 = .ok (.getfield 37, 3) := by decide +kernel
theorem dX4_fillMinute_75 : decode cX4_fillMinute 75 = .ok (.goto 7, 3) := by decide +kernel
theorem dX4_fillMinute_78 : decode cX4_fillMinute 78 = .ok (.aload_n 0, 1) := by decide +kernel
theorem dX4_fillMinute_79 : decode cX4_fillMinute 79 = .ok (.getfield 34, 3) := by decide +kernel
theorem dX4_fillMinute_82 : decode cX4_fillMinute 82 = .ok (.invokevirtual 64, 3) := by decide +kernel
theorem dX4_fillMinute_85 : decode cX4_fillMinute 85 = .ok (.iastore, 1) := by decide +kernel
theorem dX4_fillMinute_86 : decode cX4_fillMinute 86 = .ok (.iinc 4 1, 3) := by decide +kernel
theorem dX4_fillMinute_89 : decode cX4_fillMinute 89 = .ok (.goto (-46), 3) := by decide +kernel
theorem dX4_fillMinute_92 : decode cX4_fillMinute 92 = .ok (.return_, 1) := by decide +kernel
theorem dX4_goodAt_0 : decode cX4_goodAt 0 = .ok (.iconst 0, 1) := by decide +kernel
theorem dX4_goodAt_1 : decode cX4_goodAt 1 = .ok (.istore_n 2, 1) := by decide +kernel
theorem dX4_goodAt_2 : decode cX4_goodAt 2 = .ok (.iconst 0, 1) := by decide +kernel
theorem dX4_goodAt_3 : decode cX4_goodAt 3 = .ok (.istore_n 3, 1) := by decide +kernel
theorem dX4_goodAt_4 : decode cX4_goodAt 4 = .ok (.iload_n 3, 1) := by decide +kernel
theorem dX4_goodAt_5 : decode cX4_goodAt 5 = .ok (.aload_n 0, 1) := by decide +kernel
theorem dX4_goodAt_6 : decode cX4_goodAt 6 = .ok (.getfield 24, 3) := by decide +kernel
theorem dX4_goodAt_9 : decode cX4_goodAt 9 = .ok (.if_icmp .ge 40, 3) := by decide +kernel
theorem dX4_goodAt_12 : decode cX4_goodAt 12 = .ok (.iload_n 3, 1) := by decide +kernel
theorem dX4_goodAt_13 : decode cX4_goodAt 13 = .ok (.iconst 4, 1) := by decide +kernel
theorem dX4_goodAt_14 : decode cX4_goodAt 14 = .ok (.if_icmp .ge 35, 3) := by decide +kernel
theorem dX4_goodAt_17 : decode cX4_goodAt 17 = .ok (.aload_n 0, 1) := by decide +kernel
theorem dX4_goodAt_18 : decode cX4_goodAt 18 = .ok (.getfield 18, 3) := by decide +kernel
theorem dX4_goodAt_21 : decode cX4_goodAt 21 = .ok (.iload_n 3, 1) := by decide +kernel
theorem dX4_goodAt_22 : decode cX4_goodAt 22 = .ok (.iaload, 1) := by decide +kernel
theorem dX4_goodAt_23 : decode cX4_goodAt 23 = .ok (.iload_n 1, 1) := by decide +kernel
theorem dX4_goodAt_24 : decode cX4_goodAt 24 = .ok (.if_icmp .gt 19, 3) := by decide +kernel
theorem dX4_goodAt_27 : decode cX4_goodAt 27 = .ok (.iload_n 1, 1) := by decide +kernel
theorem dX4_goodAt_28 : decode cX4_goodAt 28 = .ok (.aload_n 0, 1) := by decide +kernel
theorem dX4_goodAt_29 : decode cX4_goodAt 29 = .ok (.getfield 21, 3) := by decide +kernel
theorem dX4_goodAt_32 : decode cX4_goodAt 32 = .ok (.iload_n 3, 1) := by decide +kernel
theorem dX4_goodAt_33 : decode cX4_goodAt 33 = .ok (.iaload, 1) := by decide +kernel
theorem dX4_goodAt_34 : decode cX4_goodAt 34 = .ok (.if_icmp .gt 9, 3) := by decide +kernel
theorem dX4_goodAt_37 : decode cX4_goodAt 37 = .ok (.iload_n 2, 1) := by decide +kernel
theorem dX4_goodAt_38 : decode cX4_goodAt 38 = .ok (.iconst 1, 1) := by decide +kernel
theorem dX4_goodAt_39 : decode cX4_goodAt 39 = .ok (.iload_n 3, 1) := by decide +kernel
theorem dX4_goodAt_40 : decode cX4_goodAt 40 = .ok (.ishl, 1) := by decide +kernel
theorem dX4_goodAt_41 : decode cX4_goodAt 41 = .ok (.ior, 1) := by decide +kernel
theorem dX4_goodAt_42 : decode cX4_goodAt 42 = .ok (.istore_n 2, 1) := by decide +kernel
theorem dX4_goodAt_43 : decode cX4_goodAt 43 = .ok (.iinc 3 1, 3) := by decide +kernel
theorem dX4_goodAt_46 : decode cX4_goodAt 46 = .ok (.goto (-42), 3) := by decide +kernel
theorem dX4_goodAt_49 : decode cX4_goodAt 49 = .ok (.iload_n 2, 1) := by decide +kernel
theorem dX4_goodAt_50 : decode cX4_goodAt 50 = .ok (.ireturn, 1) := by decide +kernel
theorem dX4_byWinding_0 : decode cX4_byWinding 0 = .ok (.iload_n 2, 1) := by decide +kernel
theorem dX4_byWinding_1 : decode cX4_byWinding 1 = .ok (.ifCond .ne 5, 3) := by decide +kernel
theorem dX4_byWinding_4 : decode cX4_byWinding 4 = .ok (.iconst 0, 1) := by decide +kernel
theorem dX4_byWinding_5 : decode cX4_byWinding 5 = .ok (.ireturn, 1) := by decide +kernel
theorem dX4_byWinding_6 : decode cX4_byWinding 6 = .ok (.sipush 1000, 3) := by decide +kernel
theorem dX4_byWinding_9 : decode cX4_byWinding 9 = .ok (.istore_n 3, 1) := by decide +kernel
theorem dX4_byWinding_10 : decode cX4_byWinding 10 = .ok (.iload_n 1, 1) := by decide +kernel
theorem dX4_byWinding_11 : decode cX4_byWinding 11 = .ok (.iconst 1, 1) := by decide +kernel
theorem dX4_byWinding_12 : decode cX4_byWinding 12 = .ok (.iadd, 1) := by decide +kernel
theorem dX4_byWinding_13 : decode cX4_byWinding 13 = .ok (.istore 4, 2) := by decide +kernel
theorem dX4_byWinding_15 : decode cX4_byWinding 15 = .ok (.iload 4, 2) := by decide +kernel
theorem dX4_byWinding_17 : decode cX4_byWinding 17 = .ok (.iload_n 1, 1) := by decide +kernel
theorem dX4_byWinding_18 : decode cX4_byWinding 18 = .ok (.aload_n 0, 1) := by decide +kernel
theorem dX4_byWinding_19 : decode cX4_byWinding 19 = .ok (.getfield 31, 3) := by decide +kernel
theorem dX4_byWinding_22 : decode cX4_byWinding 22 = .ok (.iadd, 1) := by decide +kernel
theorem dX4_byWinding_23 : decode cX4_byWinding 23 = .ok (.if_icmp .gt 35, 3) := by decide +kernel
theorem dX4_byWinding_26 : decode cX4_byWinding 26 = .ok (.iload 4, 2) := by decide +kernel
theorem dX4_byWinding_28 : decode cX4_byWinding 28 = .ok (.aload_n 0, 1) := by decide +kernel
theorem dX4_byWinding_29 : decode cX4_byWinding 29 = .ok (.getfield 28, 3) := by decide +kernel
theorem dX4_byWinding_32 : decode cX4_byWinding 32 = .ok (.if_icmp .gt 26, 3) := by decide +kernel
theorem dX4_byWinding_35 : decode cX4_byWinding 35 = .ok (.iload_n 3, 1) := by decide +kernel
theorem dX4_byWinding_36 : decode cX4_byWinding 36 = .ok (.aload_n 0, 1) := by decide +kernel
theorem dX4_byWinding_37 : decode cX4_byWinding 37 = .ok (.getfield 11, 3) := by decide +kernel
theorem dX4_byWinding_40 : decode cX4_byWinding 40 = .ok (.iload 4, 2) := by decide +kernel
theorem dX4_byWinding_42 : decode cX4_byWinding 42 = .ok (.bipush 16, 2) := by decide +kernel
theorem dX4_byWinding_44 : decode cX4_byWinding 44 = .ok (.imul, 1) := by decide +kernel
theorem dX4_byWinding_45 : decode cX4_byWinding 45 = .ok (.iload_n 2, 1) := by decide +kernel
theorem dX4_byWinding_46 : decode cX4_byWinding 46 = .ok (.iadd, 1) := by decide +kernel
theorem dX4_byWinding_47 : decode cX4_byWinding 47 = .ok (.iaload, 1) := by decide +kernel
theorem dX4_byWinding_48 : decode cX4_byWinding 48 = .ok (.invokestatic 46, 3) := by decide +kernel
theorem dX4_byWinding_51 : decode cX4_byWinding 51 = .ok (.istore_n 3, 1) := by decide +kernel
theorem dX4_byWinding_52 : decode cX4_byWinding 52 = .ok (.iinc 4 1, 3) := by decide +kernel
theorem dX4_byWinding_55 : decode cX4_byWinding 55 = .ok (.goto (-40), 3) := by decide +kernel
theorem dX4_byWinding_58 : decode cX4_byWinding 58 = .ok (.iload_n 3, 1) := by decide +kernel
theorem dX4_byWinding_59 : decode cX4_byWinding 59 = .ok (.sipush 1000, 3) := by decide +kernel
theorem dX4_byWinding_62 : decode cX4_byWinding 62 = .ok (.if_icmp .ne 9, 3) := by decide +kernel
theorem dX4_byWinding_65 : decode cX4_byWinding 65 = .ok (.sipush 1000, 3) := by decide +kernel
theorem dX4_byWinding_68 : decode cX4_byWinding 68 = .ok (.goto 6, 3) := by decide +kernel
theorem dX4_byWinding_71 : decode cX4_byWinding 71 = .ok (.iload_n 3, 1) := by decide +kernel
theorem dX4_byWinding_72 : decode cX4_byWinding 72 = .ok (.iconst 1, 1) := by decide +kernel
theorem dX4_byWinding_73 : decode cX4_byWinding 73 = .ok (.iadd, 1) := by decide +kernel
theorem dX4_byWinding_74 : decode cX4_byWinding 74 = .ok (.ireturn, 1) := by decide +kernel
set_option maxRecDepth 20000 in
theorem ggX4_byTaking_X4_canTake : GoodIn wsX4_byTaking wsX4_canTake := goodIn_r _ [9, 10, 11, 12, 13, 14, 15, 16] (by decide +kernel) (by decide +kernel)
set_option maxRecDepth 20000 in
theorem gX4_byTaking_X4_canTake : GoodIn wsX4_byTaking (va_wsS RX4 68 yX4_canTake wsX4_canTake) := goodIn_app (goodIn_of _ (by decide +kernel)) ggX4_byTaking_X4_canTake
theorem dX4_byTaking_0 : decode cX4_byTaking 0 = .ok (.sipush 1000, 3) := by decide +kernel
theorem dX4_byTaking_3 : decode cX4_byTaking 3 = .ok (.istore 4, 2) := by decide +kernel
theorem dX4_byTaking_5 : decode cX4_byTaking 5 = .ok (.iconst 0, 1) := by decide +kernel
theorem dX4_byTaking_6 : decode cX4_byTaking 6 = .ok (.istore 5, 2) := by decide +kernel
theorem dX4_byTaking_8 : decode cX4_byTaking 8 = .ok (.iload 5, 2) := by decide +kernel
theorem dX4_byTaking_10 : decode cX4_byTaking 10 = .ok (.iload_n 2, 1) := by decide +kernel
theorem dX4_byTaking_11 : decode cX4_byTaking 11 = .ok (.if_icmp .gt 37, 3) := by decide +kernel
theorem dX4_byTaking_14 : decode cX4_byTaking 14 = .ok (.iload 5, 2) := by decide +kernel
theorem dX4_byTaking_16 : decode cX4_byTaking 16 = .ok (.iload_n 2, 1) := by decide +kernel
theorem dX4_byTaking_17 : decode cX4_byTaking 17 = .ok (.iload_n 3, 1) := by decide +kernel
theorem dX4_byTaking_18 : decode cX4_byTaking 18 = .ok (.invokestatic 68, 3) := by decide +kernel
theorem dX4_byTaking_21 : decode cX4_byTaking 21 = .ok (.ifCond .eq 21, 3) := by decide +kernel
theorem dX4_byTaking_24 : decode cX4_byTaking 24 = .ok (.iload 4, 2) := by decide +kernel
theorem dX4_byTaking_26 : decode cX4_byTaking 26 = .ok (.aload_n 0, 1) := by decide +kernel
theorem dX4_byTaking_27 : decode cX4_byTaking 27 = .ok (.getfield 15, 3) := by decide +kernel
theorem dX4_byTaking_30 : decode cX4_byTaking 30 = .ok (.iload_n 1, 1) := by decide +kernel
theorem dX4_byTaking_31 : decode cX4_byTaking 31 = .ok (.iload 5, 2) := by decide +kernel
theorem dX4_byTaking_33 : decode cX4_byTaking 33 = .ok (.iconst (-1), 1) := by decide +kernel
theorem dX4_byTaking_34 : decode cX4_byTaking 34 = .ok (.ixor, 1) := by decide +kernel
theorem dX4_byTaking_35 : decode cX4_byTaking 35 = .ok (.iand, 1) := by decide +kernel
theorem dX4_byTaking_36 : decode cX4_byTaking 36 = .ok (.iaload, 1) := by decide +kernel
theorem dX4_byTaking_37 : decode cX4_byTaking 37 = .ok (.invokestatic 46, 3) := by decide +kernel
theorem dX4_byTaking_40 : decode cX4_byTaking 40 = .ok (.istore 4, 2) := by decide +kernel
theorem dX4_byTaking_42 : decode cX4_byTaking 42 = .ok (.iinc 5 1, 3) := by decide +kernel
theorem dX4_byTaking_45 : decode cX4_byTaking 45 = .ok (.goto (-37), 3) := by decide +kernel
theorem dX4_byTaking_48 : decode cX4_byTaking 48 = .ok (.iload 4, 2) := by decide +kernel
theorem dX4_byTaking_50 : decode cX4_byTaking 50 = .ok (.ireturn, 1) := by decide +kernel
set_option maxRecDepth 20000 in
theorem ggX4_canTake_J6_bitCount_0f7a4 : GoodIn wsX4_canTake wsJ6_bitCount_0f7a4 := goodIn_r _ [4, 5, 6, 7] (by decide +kernel) (by decide +kernel)
set_option maxRecDepth 20000 in
theorem gX4_canTake_J6_bitCount_0f7a4 : GoodIn wsX4_canTake (va_wsS RX4 72 yJ6_bitCount_0f7a4 wsJ6_bitCount_0f7a4) := goodIn_app (goodIn_of _ (by decide +kernel)) ggX4_canTake_J6_bitCount_0f7a4
theorem dX4_canTake_0 : decode cX4_canTake 0 = .ok (.iload_n 0, 1) := by decide +kernel
end
section
theorem dX4_canTake_1 : decode cX4_canTake 1 = .ok (.iload_n 1, 1) := by decide +kernel
theorem dX4_canTake_2 : decode cX4_canTake 2 = .ok (.iconst (-1), 1) := by decide +kernel
theorem dX4_canTake_3 : decode cX4_canTake 3 = .ok (.ixor, 1) := by decide +kernel
theorem dX4_canTake_4 : decode cX4_canTake 4 = .ok (.iand, 1) := by decide +kernel
theorem dX4_canTake_5 : decode cX4_canTake 5 = .ok (.ifCond .ne 15, 3) := by decide +kernel
theorem dX4_canTake_8 : decode cX4_canTake 8 = .ok (.iload_n 0, 1) := by decide +kernel
theorem dX4_canTake_9 : decode cX4_canTake 9 = .ok (.invokestatic 72, 3) := by decide +kernel
theorem dX4_canTake_12 : decode cX4_canTake 12 = .ok (.iload_n 2, 1) := by decide +kernel
theorem dX4_canTake_13 : decode cX4_canTake 13 = .ok (.if_icmp .gt 7, 3) := by decide +kernel
theorem dX4_canTake_16 : decode cX4_canTake 16 = .ok (.iconst 1, 1) := by decide +kernel
theorem dX4_canTake_17 : decode cX4_canTake 17 = .ok (.goto 4, 3) := by decide +kernel
theorem dX4_canTake_20 : decode cX4_canTake 20 = .ok (.iconst 0, 1) := by decide +kernel
theorem dX4_canTake_21 : decode cX4_canTake 21 = .ok (.ireturn, 1) := by decide +kernel
set_option maxRecDepth 20000 in
theorem ggX4_howFew_X4_allPots : GoodIn wsX4_howFew wsX4_allPots := goodIn_r _ [6, 7, 8, 9, 10, 11, 12, 13, 14, 15, 16] (by decide +kernel) (by decide +kernel)
set_option maxRecDepth 20000 in
theorem gX4_howFew_X4_allPots : GoodIn wsX4_howFew (wsV RX4 53 RX4 yX4_allPots wsX4_allPots) := goodIn_app (goodIn_of _ (by decide +kernel)) ggX4_howFew_X4_allPots
theorem dX4_howFew_0 : decode cX4_howFew 0 = .ok (.aload_n 0, 1) := by decide +kernel
theorem dX4_howFew_1 : decode cX4_howFew 1 = .ok (.getfield 11, 3) := by decide +kernel
theorem dX4_howFew_4 : decode cX4_howFew 4 = .ok (.aload_n 0, 1) := by decide +kernel
theorem dX4_howFew_5 : decode cX4_howFew 5 = .ok (.invokevirtual 53, 3) := by decide +kernel
theorem dX4_howFew_8 : decode cX4_howFew 8 = .ok (.iaload, 1) := by decide +kernel
theorem dX4_howFew_9 : decode cX4_howFew 9 = .ok (.istore_n 1, 1) := by decide +kernel
theorem dX4_howFew_10 : decode cX4_howFew 10 = .ok (.iload_n 1, 1) := by decide +kernel
theorem dX4_howFew_11 : decode cX4_howFew 11 = .ok (.sipush 1000, 3) := by decide +kernel
theorem dX4_howFew_14 : decode cX4_howFew 14 = .ok (.if_icmp .ne 7, 3) := by decide +kernel
theorem dX4_howFew_17 : decode cX4_howFew 17 = .ok (.iconst (-1), 1) := by decide +kernel
theorem dX4_howFew_18 : decode cX4_howFew 18 = .ok (.goto 4, 3) := by decide +kernel
theorem dX4_howFew_21 : decode cX4_howFew 21 = .ok (.iload_n 1, 1) := by decide +kernel
theorem dX4_howFew_22 : decode cX4_howFew 22 = .ok (.ireturn, 1) := by decide +kernel
set_option maxRecDepth 20000 in
theorem ggX4_first_X4_howFew : GoodIn wsX4_first wsX4_howFew := goodIn_r _ [7, 8, 9, 10, 11, 6, 12, 13, 35, 36, 37, 38, 39, 40, 41, 42, 43] (by decide +kernel) (by decide +kernel)
set_option maxRecDepth 20000 in
theorem gX4_first_X4_howFew : GoodIn wsX4_first (wsV RX4 77 RX4 yX4_howFew wsX4_howFew) := goodIn_app (goodIn_of _ (by decide +kernel)) ggX4_first_X4_howFew
set_option maxRecDepth 20000 in
theorem ggX4_first_X4_leadsOn : GoodIn wsX4_first wsX4_leadsOn := goodIn_r _ [17, 18, 8, 19, 20, 21, 6, 22, 13, 23, 24, 25, 26, 27, 28, 29, 30, 31, 32, 33, 34, 9, 10, 11, 12, 35, 36, 37, 38, 39, 40, 41, 42, 43] (by decide +kernel) (by decide +kernel)
set_option maxRecDepth 20000 in
theorem gX4_first_X4_leadsOn : GoodIn wsX4_first (wsV RX4 80 RX4 yX4_leadsOn wsX4_leadsOn) := goodIn_app (goodIn_of _ (by decide +kernel)) ggX4_first_X4_leadsOn
theorem dX4_first_0 : decode cX4_first 0 = .ok (.aload_n 0, 1) := by decide +kernel
theorem dX4_first_1 : decode cX4_first 1 = .ok (.invokevirtual 77, 3) := by decide +kernel
theorem dX4_first_4 : decode cX4_first 4 = .ok (.istore_n 1, 1) := by decide +kernel
theorem dX4_first_5 : decode cX4_first 5 = .ok (.iload_n 1, 1) := by decide +kernel
theorem dX4_first_6 : decode cX4_first 6 = .ok (.ifCond .gt 5, 3) := by decide +kernel
theorem dX4_first_9 : decode cX4_first 9 = .ok (.iconst (-1), 1) := by decide +kernel
theorem dX4_first_10 : decode cX4_first 10 = .ok (.ireturn, 1) := by decide +kernel
theorem dX4_first_11 : decode cX4_first 11 = .ok (.iconst 1, 1) := by decide +kernel
theorem dX4_first_12 : decode cX4_first 12 = .ok (.istore_n 2, 1) := by decide +kernel
theorem dX4_first_13 : decode cX4_first 13 = .ok (.iload_n 2, 1) := by decide +kernel
theorem dX4_first_14 : decode cX4_first 14 = .ok (.aload_n 0, 1) := by decide +kernel
theorem dX4_first_15 : decode cX4_first 15 = .ok (.getfield 31, 3) := by decide +kernel
theorem dX4_first_18 : decode cX4_first 18 = .ok (.if_icmp .gt 30, 3) := by decide +kernel
theorem dX4_first_21 : decode cX4_first 21 = .ok (.iload_n 2, 1) := by decide +kernel
theorem dX4_first_22 : decode cX4_first 22 = .ok (.aload_n 0, 1) := by decide +kernel
theorem dX4_first_23 : decode cX4_first 23 = .ok (.getfield 28, 3) := by decide +kernel
theorem dX4_first_26 : decode cX4_first 26 = .ok (.if_icmp .gt 22, 3) := by decide +kernel
theorem dX4_first_29 : decode cX4_first 29 = .ok (.aload_n 0, 1) := by decide +kernel
theorem dX4_first_30 : decode cX4_first 30 = .ok (.iload_n 2, 1) := by decide +kernel
theorem dX4_first_31 : decode cX4_first 31 = .ok (.iload_n 1, 1) := by decide +kernel
theorem dX4_first_32 : decode cX4_first 32 = .ok (.iconst 1, 1) := by decide +kernel
theorem dX4_first_33 : decode cX4_first 33 = .ok (.isub, 1) := by decide +kernel
theorem dX4_first_34 : decode cX4_first 34 = .ok (.invokevirtual 80, 3) := by decide +kernel
theorem dX4_first_37 : decode cX4_first 37 = .ok (.ifCond .eq 5, 3) := by decide +kernel
theorem dX4_first_40 : decode cX4_first 40 = .ok (.iload_n 2, 1) := by decide +kernel
theorem dX4_first_41 : decode cX4_first 41 = .ok (.ireturn, 1) := by decide +kernel
theorem dX4_first_42 : decode cX4_first 42 = .ok (.iinc 2 1, 3) := by decide +kernel
theorem dX4_first_45 : decode cX4_first 45 = .ok (.goto (-32), 3) := by decide +kernel
theorem dX4_first_48 : decode cX4_first 48 = .ok (.iconst (-1), 1) := by decide +kernel
theorem dX4_first_49 : decode cX4_first 49 = .ok (.ireturn, 1) := by decide +kernel
set_option maxRecDepth 20000 in
theorem ggX4_leadsOn_X4_goodAt : GoodIn wsX4_leadsOn wsX4_goodAt := goodIn_r _ [7, 8, 9, 10, 25, 26, 27, 28, 29, 30, 31, 32, 33] (by decide +kernel) (by decide +kernel)
set_option maxRecDepth 20000 in
theorem gX4_leadsOn_X4_goodAt : GoodIn wsX4_leadsOn (wsV RX4 57 RX4 yX4_goodAt wsX4_goodAt) := goodIn_app (goodIn_of _ (by decide +kernel)) ggX4_leadsOn_X4_goodAt
set_option maxRecDepth 20000 in
theorem ggX4_leadsOn_X4_canTake : GoodIn wsX4_leadsOn wsX4_canTake := goodIn_r _ [13, 14, 15, 16, 17, 18, 19, 20] (by decide +kernel) (by decide +kernel)
set_option maxRecDepth 20000 in
theorem gX4_leadsOn_X4_canTake : GoodIn wsX4_leadsOn (va_wsS RX4 68 yX4_canTake wsX4_canTake) := goodIn_app (goodIn_of _ (by decide +kernel)) ggX4_leadsOn_X4_canTake
set_option maxRecDepth 20000 in
theorem ggX4_leadsOn_X4_allPots : GoodIn wsX4_leadsOn wsX4_allPots := goodIn_r _ [24, 8, 25, 26, 27, 28, 29, 30, 31, 32, 33] (by decide +kernel) (by decide +kernel)
set_option maxRecDepth 20000 in
theorem gX4_leadsOn_X4_allPots : GoodIn wsX4_leadsOn (wsV RX4 53 RX4 yX4_allPots wsX4_allPots) := goodIn_app (goodIn_of _ (by decide +kernel)) ggX4_leadsOn_X4_allPots
theorem dX4_leadsOn_0 : decode cX4_leadsOn 0 = .ok (.aload_n 0, 1) := by decide +kernel
theorem dX4_leadsOn_1 : decode cX4_leadsOn 1 = .ok (.iconst 0, 1) := by decide +kernel
theorem dX4_leadsOn_2 : decode cX4_leadsOn 2 = .ok (.invokevirtual 57, 3) := by decide +kernel
theorem dX4_leadsOn_5 : decode cX4_leadsOn 5 = .ok (.istore_n 3, 1) := by decide +kernel
theorem dX4_leadsOn_6 : decode cX4_leadsOn 6 = .ok (.iconst 0, 1) := by decide +kernel
theorem dX4_leadsOn_7 : decode cX4_leadsOn 7 = .ok (.istore 4, 2) := by decide +kernel
theorem dX4_leadsOn_9 : decode cX4_leadsOn 9 = .ok (.iload 4, 2) := by decide +kernel
theorem dX4_leadsOn_11 : decode cX4_leadsOn 11 = .ok (.iload_n 3, 1) := by decide +kernel
theorem dX4_leadsOn_12 : decode cX4_leadsOn 12 = .ok (.if_icmp .gt 47, 3) := by decide +kernel
theorem dX4_leadsOn_15 : decode cX4_leadsOn 15 = .ok (.iload 4, 2) := by decide +kernel
theorem dX4_leadsOn_17 : decode cX4_leadsOn 17 = .ok (.iload_n 3, 1) := by decide +kernel
theorem dX4_leadsOn_18 : decode cX4_leadsOn 18 = .ok (.aload_n 0, 1) := by decide +kernel
theorem dX4_leadsOn_19 : decode cX4_leadsOn 19 = .ok (.getfield 37, 3) := by decide +kernel
theorem dX4_leadsOn_22 : decode cX4_leadsOn 22 = .ok (.invokestatic 68, 3) := by decide +kernel
theorem dX4_leadsOn_25 : decode cX4_leadsOn 25 = .ok (.ifCond .eq 28, 3) := by decide +kernel
theorem dX4_leadsOn_28 : decode cX4_leadsOn 28 = .ok (.aload_n 0, 1) := by decide +kernel
theorem dX4_leadsOn_29 : decode cX4_leadsOn 29 = .ok (.getfield 11, 3) := by decide +kernel
theorem dX4_leadsOn_32 : decode cX4_leadsOn 32 = .ok (.iload_n 1, 1) := by decide +kernel
theorem dX4_leadsOn_33 : decode cX4_leadsOn 33 = .ok (.bipush 16, 2) := by decide +kernel
theorem dX4_leadsOn_35 : decode cX4_leadsOn 35 = .ok (.imul, 1) := by decide +kernel
theorem dX4_leadsOn_36 : decode cX4_leadsOn 36 = .ok (.aload_n 0, 1) := by decide +kernel
theorem dX4_leadsOn_37 : decode cX4_leadsOn 37 = .ok (.invokevirtual 53, 3) := by decide +kernel
theorem dX4_leadsOn_40 : decode cX4_leadsOn 40 = .ok (.iload 4, 2) := by decide +kernel
theorem dX4_leadsOn_42 : decode cX4_leadsOn 42 = .ok (.iconst (-1), 1) := by decide +kernel
theorem dX4_leadsOn_43 : decode cX4_leadsOn 43 = .ok (.ixor, 1) := by decide +kernel
theorem dX4_leadsOn_44 : decode cX4_leadsOn 44 = .ok (.iand, 1) := by decide +kernel
theorem dX4_leadsOn_45 : decode cX4_leadsOn 45 = .ok (.iadd, 1) := by decide +kernel
theorem dX4_leadsOn_46 : decode cX4_leadsOn 46 = .ok (.iaload, 1) := by decide +kernel
theorem dX4_leadsOn_47 : decode cX4_leadsOn 47 = .ok (.iload_n 2, 1) := by decide +kernel
theorem dX4_leadsOn_48 : decode cX4_leadsOn 48 = .ok (.if_icmp .ne 5, 3) := by decide +kernel
theorem dX4_leadsOn_51 : decode cX4_leadsOn 51 = .ok (.iconst 1, 1) := by decide +kernel
theorem dX4_leadsOn_52 : decode cX4_leadsOn 52 = .ok (.ireturn, 1) := by decide +kernel
theorem dX4_leadsOn_53 : decode cX4_leadsOn 53 = .ok (.iinc 4 1, 3) := by decide +kernel
theorem dX4_leadsOn_56 : decode cX4_leadsOn 56 = .ok (.goto (-47), 3) := by decide +kernel
theorem dX4_leadsOn_59 : decode cX4_leadsOn 59 = .ok (.iconst 0, 1) := by decide +kernel
theorem dX4_leadsOn_60 : decode cX4_leadsOn 60 = .ok (.ireturn, 1) := by decide +kernel
theorem dX5_init_0 : decode cX5_init 0 = .ok (.aload_n 0, 1) := by decide +kernel
theorem dX5_init_1 : decode cX5_init 1 = .ok (.invokespecial 3, 3) := by decide +kernel
theorem dX5_init_4 : decode cX5_init 4 = .ok (.aload_n 0, 1) := by decide +kernel
theorem dX5_init_5 : decode cX5_init 5 = .ok (.iconst (-1), 1) := by decide +kernel
theorem dX5_init_6 : decode cX5_init 6 = .ok (.putfield 9, 3) := by decide +kernel
theorem dX5_init_9 : decode cX5_init 9 = .ok (.aload_n 0, 1) := by decide +kernel
theorem dX5_init_10 : decode cX5_init 10 = .ok (.iconst (-1), 1) := by decide +kernel
theorem dX5_init_11 : decode cX5_init 11 = .ok (.putfield 15, 3) := by decide +kernel
theorem dX5_init_14 : decode cX5_init 14 = .ok (.aload_n 0, 1) := by decide +kernel
theorem dX5_init_15 : decode cX5_init 15 = .ok (.iconst (-1), 1) := by decide +kernel
theorem dX5_init_16 : decode cX5_init 16 = .ok (.putfield 18, 3) := by decide +kernel
theorem dX5_init_19 : decode cX5_init 19 = .ok (.aload_n 0, 1) := by decide +kernel
theorem dX5_init_20 : decode cX5_init 20 = .ok (.iconst (-1), 1) := by decide +kernel
theorem dX5_init_21 : decode cX5_init 21 = .ok (.putfield 21, 3) := by decide +kernel
theorem dX5_init_24 : decode cX5_init 24 = .ok (.aload_n 0, 1) := by decide +kernel
theorem dX5_init_25 : decode cX5_init 25 = .ok (.iload_n 1, 1) := by decide +kernel
theorem dX5_init_26 : decode cX5_init 26 = .ok (.putfield 24, 3) := by decide +kernel
theorem dX5_init_29 : decode cX5_init 29 = .ok (.return_, 1) := by decide +kernel
theorem dX5_kind_0 : decode cX5_kind 0 = .ok (.iconst 0, 1) := by decide +kernel
theorem dX5_kind_1 : decode cX5_kind 1 = .ok (.ireturn, 1) := by decide +kernel
theorem dX5_keeps_0 : decode cX5_keeps 0 = .ok (.iconst 0, 1) := by decide +kernel
theorem dX5_keeps_1 : decode cX5_keeps 1 = .ok (.ireturn, 1) := by decide +kernel
theorem dX5_boils_0 : decode cX5_boils 0 = .ok (.aload_n 0, 1) := by decide +kernel
theorem dX5_boils_1 : decode cX5_boils 1 = .ok (.getfield 9, 3) := by decide +kernel
theorem dX5_boils_4 : decode cX5_boils 4 = .ok (.iconst (-1), 1) := by decide +kernel
theorem dX5_boils_5 : decode cX5_boils 5 = .ok (.if_icmp .eq 7, 3) := by decide +kernel
theorem dX5_boils_8 : decode cX5_boils 8 = .ok (.iconst 1, 1) := by decide +kernel
theorem dX5_boils_9 : decode cX5_boils 9 = .ok (.goto 4, 3) := by decide +kernel
theorem dX5_boils_12 : decode cX5_boils 12 = .ok (.iconst 0, 1) := by decide +kernel
theorem dX5_boils_13 : decode cX5_boils 13 = .ok (.ireturn, 1) := by decide +kernel
theorem dX5_due_0 : decode cX5_due 0 = .ok (.aload_n 0, 1) := by decide +kernel
theorem dX5_due_1 : decode cX5_due 1 = .ok (.getfield 9, 3) := by decide +kernel
theorem dX5_due_4 : decode cX5_due 4 = .ok (.aload_n 0, 1) := by decide +kernel
theorem dX5_due_5 : decode cX5_due 5 = .ok (.getfield 24, 3) := by decide +kernel
theorem dX5_due_8 : decode cX5_due 8 = .ok (.iadd, 1) := by decide +kernel
theorem dX5_due_9 : decode cX5_due 9 = .ok (.ireturn, 1) := by decide +kernel
set_option maxRecDepth 20000 in
theorem ggX5_outAt_X5_due : GoodIn wsX5_outAt wsX5_due := goodIn_r _ [6, 7, 8, 43, 44, 45, 46, 47, 48, 49, 50, 51, 52, 53, 54, 55, 56, 57, 58, 59, 60, 61, 62, 63, 64, 65, 66, 67, 68, 69, 70, 71, 72, 73, 74, 75, 76, 77] (by decide +kernel) (by decide +kernel)
set_option maxRecDepth 20000 in
theorem gX5_outAt_X5_due_u27X0 : GoodIn wsX5_outAt (va_wsU RX5 27 RX0 "OneTimer$Pot" ⟨"OneTimer$Pot", "due", "()I"⟩ yX5_due wsX5_due) := goodIn_app (goodIn_of _ (by decide +kernel)) ggX5_outAt_X5_due
set_option maxRecDepth 20000 in
theorem gX5_outAt_X5_due_u27X2 : GoodIn wsX5_outAt (va_wsU RX5 27 RX2 "OneTimer$Pot" ⟨"OneTimer$Pot", "due", "()I"⟩ yX5_due wsX5_due) := goodIn_app (goodIn_of _ (by decide +kernel)) ggX5_outAt_X5_due
set_option maxRecDepth 20000 in
theorem gX5_outAt_X5_due : GoodIn wsX5_outAt (wsV RX5 27 RX5 yX5_due wsX5_due) := goodIn_app (goodIn_of _ (by decide +kernel)) ggX5_outAt_X5_due
set_option maxRecDepth 20000 in
theorem gX5_outAt_X5_due_u27X6 : GoodIn wsX5_outAt (va_wsU RX5 27 RX6 "OneTimer$Pot" ⟨"OneTimer$Pot", "due", "()I"⟩ yX5_due wsX5_due) := goodIn_app (goodIn_of _ (by decide +kernel)) ggX5_outAt_X5_due
set_option maxRecDepth 20000 in
theorem gX5_outAt_X5_due_u27X7 : GoodIn wsX5_outAt (va_wsU RX5 27 RX7 "OneTimer$Pot" ⟨"OneTimer$Pot", "due", "()I"⟩ yX5_due wsX5_due) := goodIn_app (goodIn_of _ (by decide +kernel)) ggX5_outAt_X5_due
set_option maxRecDepth 20000 in
theorem ggX5_outAt_X0_keeps : GoodIn wsX5_outAt wsX0_keeps := goodIn_r _ [20, 21, 22, 23, 24, 25, 26] (by decide +kernel) (by decide +kernel)
set_option maxRecDepth 20000 in
theorem gX5_outAt_X0_keeps_u31X0 : GoodIn wsX5_outAt (va_wsO RX5 31 RX0 "OneTimer$Pot" ⟨"OneTimer$Pot", "keeps", "()I"⟩ yX0_keeps wsX0_keeps) := goodIn_app (goodIn_of _ (by decide +kernel)) ggX5_outAt_X0_keeps
set_option maxRecDepth 20000 in
theorem ggX5_outAt_X2_keeps : GoodIn wsX5_outAt wsX2_keeps := goodIn_r _ [31] (by decide +kernel) (by decide +kernel)
set_option maxRecDepth 20000 in
theorem gX5_outAt_X2_keeps_u31X2 : GoodIn wsX5_outAt (va_wsO RX5 31 RX2 "OneTimer$Pot" ⟨"OneTimer$Pot", "keeps", "()I"⟩ yX2_keeps wsX2_keeps) := goodIn_app (goodIn_of _ (by decide +kernel)) ggX5_outAt_X2_keeps
set_option maxRecDepth 20000 in
theorem ggX5_outAt_X5_keeps : GoodIn wsX5_outAt wsX5_keeps := goodIn_r _ [27] (by decide +kernel) (by decide +kernel)
set_option maxRecDepth 20000 in
theorem gX5_outAt_X5_keeps : GoodIn wsX5_outAt (wsV RX5 31 RX5 yX5_keeps wsX5_keeps) := goodIn_app (goodIn_of _ (by decide +kernel)) ggX5_outAt_X5_keeps
set_option maxRecDepth 20000 in
theorem ggX5_outAt_X6_keeps : GoodIn wsX5_outAt wsX6_keeps := goodIn_r _ [26] (by decide +kernel) (by decide +kernel)
set_option maxRecDepth 20000 in
theorem gX5_outAt_X6_keeps_u31X6 : GoodIn wsX5_outAt (va_wsO RX5 31 RX6 "OneTimer$Pot" ⟨"OneTimer$Pot", "keeps", "()I"⟩ yX6_keeps wsX6_keeps) := goodIn_app (goodIn_of _ (by decide +kernel)) ggX5_outAt_X6_keeps
set_option maxRecDepth 20000 in
theorem ggX5_outAt_X7_keeps : GoodIn wsX5_outAt wsX7_keeps := goodIn_r _ [39] (by decide +kernel) (by decide +kernel)
set_option maxRecDepth 20000 in
theorem gX5_outAt_X7_keeps_u31X7 : GoodIn wsX5_outAt (va_wsO RX5 31 RX7 "OneTimer$Pot" ⟨"OneTimer$Pot", "keeps", "()I"⟩ yX7_keeps wsX7_keeps) := goodIn_app (goodIn_of _ (by decide +kernel)) ggX5_outAt_X7_keeps
set_option maxRecDepth 20000 in
theorem ggX5_outAt_X9_outBy : GoodIn wsX5_outAt wsX9_outBy := goodIn_r _ [42] (by decide +kernel) (by decide +kernel)
set_option maxRecDepth 20000 in
theorem gX5_outAt_X9_outBy_n34 : GoodIn wsX5_outAt (wsX9_outBy) := ggX5_outAt_X9_outBy
theorem dX5_outAt_0 : decode cX5_outAt 0 = .ok (.iload_n 1, 1) := by decide +kernel
theorem dX5_outAt_1 : decode cX5_outAt 1 = .ok (.aload_n 0, 1) := by decide +kernel
theorem dX5_outAt_2 : decode cX5_outAt 2 = .ok (.invokevirtual 27, 3) := by decide +kernel
theorem dX5_outAt_5 : decode cX5_outAt 5 = .ok (.isub, 1) := by decide +kernel
theorem dX5_outAt_6 : decode cX5_outAt 6 = .ok (.aload_n 0, 1) := by decide +kernel
theorem dX5_outAt_7 : decode cX5_outAt 7 = .ok (.invokevirtual 31, 3) := by decide +kernel
theorem dX5_outAt_10 : decode cX5_outAt 10 = .ok (.invokestatic 34, 3) := by decide +kernel
theorem dX5_outAt_13 : decode cX5_outAt 13 = .ok (.ireturn, 1) := by decide +kernel
set_option maxRecDepth 20000 in
theorem ggX5_comeOut_X5_outAt : GoodIn wsX5_comeOut wsX5_outAt := goodIn_r _ [9, 10, 11, 12, 13, 8, 14, 3, 15, 16, 17, 18, 19, 20, 21, 22, 23, 24, 25, 26, 27, 28, 29, 30, 31, 32, 33, 34, 35, 36, 37, 38, 39, 40, 41, 42, 43, 44, 45, 46, 47, 48, 49, 55, 56, 57, 58, 59, 60, 61, 62, 63, 64, 65, 66, 67, 68, 69, 70, 71, 72, 73, 74, 75, 76, 77, 78, 79, 80, 81, 82, 83, 84, 85, 86, 87, 88, 89] (by decide +kernel) (by decide +kernel)
set_option maxRecDepth 20000 in
theorem gX5_comeOut_X5_outAt_u38X0 : GoodIn wsX5_comeOut (va_wsU RX5 38 RX0 "OneTimer$Pot" ⟨"OneTimer$Pot", "outAt", "(I)I"⟩ yX5_outAt wsX5_outAt) := goodIn_app (goodIn_of _ (by decide +kernel)) ggX5_comeOut_X5_outAt
set_option maxRecDepth 20000 in
theorem gX5_comeOut_X5_outAt_u38X2 : GoodIn wsX5_comeOut (va_wsU RX5 38 RX2 "OneTimer$Pot" ⟨"OneTimer$Pot", "outAt", "(I)I"⟩ yX5_outAt wsX5_outAt) := goodIn_app (goodIn_of _ (by decide +kernel)) ggX5_comeOut_X5_outAt
set_option maxRecDepth 20000 in
theorem gX5_comeOut_X5_outAt : GoodIn wsX5_comeOut (wsV RX5 38 RX5 yX5_outAt wsX5_outAt) := goodIn_app (goodIn_of _ (by decide +kernel)) ggX5_comeOut_X5_outAt
set_option maxRecDepth 20000 in
theorem gX5_comeOut_X5_outAt_u38X6 : GoodIn wsX5_comeOut (va_wsU RX5 38 RX6 "OneTimer$Pot" ⟨"OneTimer$Pot", "outAt", "(I)I"⟩ yX5_outAt wsX5_outAt) := goodIn_app (goodIn_of _ (by decide +kernel)) ggX5_comeOut_X5_outAt
set_option maxRecDepth 20000 in
theorem gX5_comeOut_X5_outAt_u38X7 : GoodIn wsX5_comeOut (va_wsU RX5 38 RX7 "OneTimer$Pot" ⟨"OneTimer$Pot", "outAt", "(I)I"⟩ yX5_outAt wsX5_outAt) := goodIn_app (goodIn_of _ (by decide +kernel)) ggX5_comeOut_X5_outAt
theorem dX5_comeOut_0 : decode cX5_comeOut 0 = .ok (.aload_n 0, 1) := by decide +kernel
theorem dX5_comeOut_1 : decode cX5_comeOut 1 = .ok (.aload_n 0, 1) := by decide +kernel
theorem dX5_comeOut_2 : decode cX5_comeOut 2 = .ok (.iload_n 1, 1) := by decide +kernel
theorem dX5_comeOut_3 : decode cX5_comeOut 3 = .ok (.invokevirtual 38, 3) := by decide +kernel
theorem dX5_comeOut_6 : decode cX5_comeOut 6 = .ok (.putfield 15, 3) := by decide +kernel
theorem dX5_comeOut_9 : decode cX5_comeOut 9 = .ok (.aload_n 0, 1) := by decide +kernel
theorem dX5_comeOut_10 : decode cX5_comeOut 10 = .ok (.dup, 1) := by decide +kernel
theorem dX5_comeOut_11 : decode cX5_comeOut 11 = .ok (.getfield 42, 3) := by decide +kernel
theorem dX5_comeOut_14 : decode cX5_comeOut 14 = .ok (.iconst 1, 1) := by decide +kernel
theorem dX5_comeOut_15 : decode cX5_comeOut 15 = .ok (.iadd, 1) := by decide +kernel
theorem dX5_comeOut_16 : decode cX5_comeOut 16 = .ok (.putfield 42, 3) := by decide +kernel
theorem dX5_comeOut_19 : decode cX5_comeOut 19 = .ok (.aload_n 0, 1) := by decide +kernel
theorem dX5_comeOut_20 : decode cX5_comeOut 20 = .ok (.iconst (-1), 1) := by decide +kernel
theorem dX5_comeOut_21 : decode cX5_comeOut 21 = .ok (.putfield 9, 3) := by decide +kernel
theorem dX5_comeOut_24 : decode cX5_comeOut 24 = .ok (.return_, 1) := by decide +kernel
set_option maxRecDepth 20000 in
theorem ggX5_sureAt_X5_outAt : GoodIn wsX5_sureAt wsX5_outAt := goodIn_r _ [6, 7, 8, 9, 10, 5, 11, 12, 13, 14, 15, 16, 17, 18, 19, 20, 21, 22, 23, 24, 25, 26, 27, 28, 29, 30, 31, 32, 33, 34, 35, 36, 37, 38, 39, 40, 41, 42, 43, 44, 45, 46, 47, 53, 54, 55, 56, 57, 58, 59, 60, 61, 62, 63, 64, 65, 66, 67, 68, 69, 70, 71, 72, 73, 74, 75, 76, 77, 78, 79, 80, 81, 82, 83, 84, 85, 86, 87] (by decide +kernel) (by decide +kernel)
set_option maxRecDepth 20000 in
theorem gX5_sureAt_X5_outAt_u38X0 : GoodIn wsX5_sureAt (va_wsU RX5 38 RX0 "OneTimer$Pot" ⟨"OneTimer$Pot", "outAt", "(I)I"⟩ yX5_outAt wsX5_outAt) := goodIn_app (goodIn_of _ (by decide +kernel)) ggX5_sureAt_X5_outAt
set_option maxRecDepth 20000 in
theorem gX5_sureAt_X5_outAt_u38X2 : GoodIn wsX5_sureAt (va_wsU RX5 38 RX2 "OneTimer$Pot" ⟨"OneTimer$Pot", "outAt", "(I)I"⟩ yX5_outAt wsX5_outAt) := goodIn_app (goodIn_of _ (by decide +kernel)) ggX5_sureAt_X5_outAt
set_option maxRecDepth 20000 in
theorem gX5_sureAt_X5_outAt : GoodIn wsX5_sureAt (wsV RX5 38 RX5 yX5_outAt wsX5_outAt) := goodIn_app (goodIn_of _ (by decide +kernel)) ggX5_sureAt_X5_outAt
set_option maxRecDepth 20000 in
theorem gX5_sureAt_X5_outAt_u38X6 : GoodIn wsX5_sureAt (va_wsU RX5 38 RX6 "OneTimer$Pot" ⟨"OneTimer$Pot", "outAt", "(I)I"⟩ yX5_outAt wsX5_outAt) := goodIn_app (goodIn_of _ (by decide +kernel)) ggX5_sureAt_X5_outAt
set_option maxRecDepth 20000 in
theorem gX5_sureAt_X5_outAt_u38X7 : GoodIn wsX5_sureAt (va_wsU RX5 38 RX7 "OneTimer$Pot" ⟨"OneTimer$Pot", "outAt", "(I)I"⟩ yX5_outAt wsX5_outAt) := goodIn_app (goodIn_of _ (by decide +kernel)) ggX5_sureAt_X5_outAt
theorem dX5_sureAt_0 : decode cX5_sureAt 0 = .ok (.aload_n 0, 1) := by decide +kernel
theorem dX5_sureAt_1 : decode cX5_sureAt 1 = .ok (.iload_n 1, 1) := by decide +kernel
theorem dX5_sureAt_2 : decode cX5_sureAt 2 = .ok (.invokevirtual 38, 3) := by decide +kernel
theorem dX5_sureAt_5 : decode cX5_sureAt 5 = .ok (.bipush 100, 2) := by decide +kernel
theorem dX5_sureAt_7 : decode cX5_sureAt 7 = .ok (.if_icmp .ne 8, 3) := by decide +kernel
theorem dX5_sureAt_10 : decode cX5_sureAt 10 = .ok (.bipush 18, 2) := by decide +kernel
theorem dX5_sureAt_12 : decode cX5_sureAt 12 = .ok (.goto 4, 3) := by decide +kernel
theorem dX5_sureAt_15 : decode cX5_sureAt 15 = .ok (.iconst 0, 1) := by decide +kernel
theorem dX5_sureAt_16 : decode cX5_sureAt 16 = .ok (.istore_n 2, 1) := by decide +kernel
theorem dX5_sureAt_17 : decode cX5_sureAt 17 = .ok (.iload_n 2, 1) := by decide +kernel
theorem dX5_sureAt_18 : decode cX5_sureAt 18 = .ok (.aload_n 0, 1) := by decide +kernel
theorem dX5_sureAt_19 : decode cX5_sureAt 19 = .ok (.iload_n 1, 1) := by decide +kernel
theorem dX5_sureAt_20 : decode cX5_sureAt 20 = .ok (.iconst 1, 1) := by decide +kernel
theorem dX5_sureAt_21 : decode cX5_sureAt 21 = .ok (.isub, 1) := by decide +kernel
theorem dX5_sureAt_22 : decode cX5_sureAt 22 = .ok (.invokevirtual 38, 3) := by decide +kernel
theorem dX5_sureAt_25 : decode cX5_sureAt 25 = .ok (.bipush 100, 2) := by decide +kernel
theorem dX5_sureAt_27 : decode cX5_sureAt 27 = .ok (.if_icmp .ne 7, 3) := by decide +kernel
theorem dX5_sureAt_30 : decode cX5_sureAt 30 = .ok (.iconst 1, 1) := by decide +kernel
theorem dX5_sureAt_31 : decode cX5_sureAt 31 = .ok (.goto 4, 3) := by decide +kernel
theorem dX5_sureAt_34 : decode cX5_sureAt 34 = .ok (.iconst 0, 1) := by decide +kernel
theorem dX5_sureAt_35 : decode cX5_sureAt 35 = .ok (.iadd, 1) := by decide +kernel
theorem dX5_sureAt_36 : decode cX5_sureAt 36 = .ok (.istore_n 2, 1) := by decide +kernel
theorem dX5_sureAt_37 : decode cX5_sureAt 37 = .ok (.iload_n 2, 1) := by decide +kernel
theorem dX5_sureAt_38 : decode cX5_sureAt 38 = .ok (.aload_n 0, 1) := by decide +kernel
theorem dX5_sureAt_39 : decode cX5_sureAt 39 = .ok (.iload_n 1, 1) := by decide +kernel
theorem dX5_sureAt_40 : decode cX5_sureAt 40 = .ok (.iconst 1, 1) := by decide +kernel
theorem dX5_sureAt_41 : decode cX5_sureAt 41 = .ok (.iadd, 1) := by decide +kernel
theorem dX5_sureAt_42 : decode cX5_sureAt 42 = .ok (.invokevirtual 38, 3) := by decide +kernel
theorem dX5_sureAt_45 : decode cX5_sureAt 45 = .ok (.bipush 100, 2) := by decide +kernel
theorem dX5_sureAt_47 : decode cX5_sureAt 47 = .ok (.if_icmp .ne 7, 3) := by decide +kernel
theorem dX5_sureAt_50 : decode cX5_sureAt 50 = .ok (.iconst 1, 1) := by decide +kernel
theorem dX5_sureAt_51 : decode cX5_sureAt 51 = .ok (.goto 4, 3) := by decide +kernel
theorem dX5_sureAt_54 : decode cX5_sureAt 54 = .ok (.iconst 0, 1) := by decide +kernel
theorem dX5_sureAt_55 : decode cX5_sureAt 55 = .ok (.iadd, 1) := by decide +kernel
theorem dX5_sureAt_56 : decode cX5_sureAt 56 = .ok (.istore_n 2, 1) := by decide +kernel
theorem dX5_sureAt_57 : decode cX5_sureAt 57 = .ok (.iload_n 2, 1) := by decide +kernel
theorem dX5_sureAt_58 : decode cX5_sureAt 58 = .ok (.ireturn, 1) := by decide +kernel
theorem dX5_keepImage_0 : decode cX5_keepImage 0 = .ok (.aload_n 0, 1) := by decide +kernel
theorem dX5_keepImage_1 : decode cX5_keepImage 1 = .ok (.aload_n 0, 1) := by decide +kernel
theorem dX5_keepImage_2 : decode cX5_keepImage 2 = .ok (.getfield 9, 3) := by decide +kernel
theorem dX5_keepImage_5 : decode cX5_keepImage 5 = .ok (.putfield 18, 3) := by decide +kernel
theorem dX5_keepImage_8 : decode cX5_keepImage 8 = .ok (.aload_n 0, 1) := by decide +kernel
theorem dX5_keepImage_9 : decode cX5_keepImage 9 = .ok (.aload_n 0, 1) := by decide +kernel
theorem dX5_keepImage_10 : decode cX5_keepImage 10 = .ok (.getfield 42, 3) := by decide +kernel
theorem dX5_keepImage_13 : decode cX5_keepImage 13 = .ok (.putfield 45, 3) := by decide +kernel
theorem dX5_keepImage_16 : decode cX5_keepImage 16 = .ok (.aload_n 0, 1) := by decide +kernel
theorem dX5_keepImage_17 : decode cX5_keepImage 17 = .ok (.aload_n 0, 1) := by decide +kernel
theorem dX5_keepImage_18 : decode cX5_keepImage 18 = .ok (.getfield 15, 3) := by decide +kernel
theorem dX5_keepImage_21 : decode cX5_keepImage 21 = .ok (.putfield 21, 3) := by decide +kernel
theorem dX5_keepImage_24 : decode cX5_keepImage 24 = .ok (.return_, 1) := by decide +kernel
theorem dX5_goBack_0 : decode cX5_goBack 0 = .ok (.aload_n 0, 1) := by decide +kernel
theorem dX5_goBack_1 : decode cX5_goBack 1 = .ok (.aload_n 0, 1) := by decide +kernel
theorem dX5_goBack_2 : decode cX5_goBack 2 = .ok (.getfield 18, 3) := by decide +kernel
theorem dX5_goBack_5 : decode cX5_goBack 5 = .ok (.putfield 9, 3) := by decide +kernel
theorem dX5_goBack_8 : decode cX5_goBack 8 = .ok (.aload_n 0, 1) := by decide +kernel
theorem dX5_goBack_9 : decode cX5_goBack 9 = .ok (.aload_n 0, 1) := by decide +kernel
theorem dX5_goBack_10 : decode cX5_goBack 10 = .ok (.getfield 45, 3) := by decide +kernel
theorem dX5_goBack_13 : decode cX5_goBack 13 = .ok (.putfield 42, 3) := by decide +kernel
theorem dX5_goBack_16 : decode cX5_goBack 16 = .ok (.aload_n 0, 1) := by decide +kernel
theorem dX5_goBack_17 : decode cX5_goBack 17 = .ok (.aload_n 0, 1) := by decide +kernel
theorem dX5_goBack_18 : decode cX5_goBack 18 = .ok (.getfield 21, 3) := by decide +kernel
theorem dX5_goBack_21 : decode cX5_goBack 21 = .ok (.putfield 15, 3) := by decide +kernel
theorem dX5_goBack_24 : decode cX5_goBack 24 = .ok (.return_, 1) := by decide +kernel
set_option maxRecDepth 20000 in
theorem ggX6_init_X5_init : GoodIn wsX6_init wsX5_init := goodIn_r _ [4, 5, 6, 7, 8, 9, 10, 11, 12, 13, 14, 15, 16, 17, 18, 19, 20, 21, 22, 23, 24, 25, 26, 27, 28, 29, 30, 31, 32, 33, 34, 35, 36, 37, 38, 39, 40, 41, 42, 43, 44, 45, 46, 47] (by decide +kernel) (by decide +kernel)
set_option maxRecDepth 20000 in
theorem gX6_init_X5_init : GoodIn wsX6_init (wsX5_init) := ggX6_init_X5_init
theorem dX6_init_0 : decode cX6_init 0 = .ok (.aload_n 0, 1) := by decide +kernel
theorem dX6_init_1 : decode cX6_init 1 = .ok (.iload_n 1, 1) := by decide +kernel
theorem dX6_init_2 : decode cX6_init 2 = .ok (.invokespecial 1, 3) := by decide +kernel
theorem dX6_init_5 : decode cX6_init 5 = .ok (.return_, 1) := by decide +kernel
theorem dX6_kind_0 : decode cX6_kind 0 = .ok (.iconst 2, 1) := by decide +kernel
theorem dX6_kind_1 : decode cX6_kind 1 = .ok (.ireturn, 1) := by decide +kernel
theorem dX6_keeps_0 : decode cX6_keeps 0 = .ok (.iconst 3, 1) := by decide +kernel
theorem dX6_keeps_1 : decode cX6_keeps 1 = .ok (.ireturn, 1) := by decide +kernel
set_option maxRecDepth 20000 in
theorem ggX7_init_X5_init : GoodIn wsX7_init wsX5_init := goodIn_r _ [4, 5, 6, 7, 8, 9, 10, 11, 12, 13, 14, 15, 16, 17, 18, 19, 20, 21, 22, 23, 24, 25, 26, 27, 28, 29, 30, 31, 32, 33, 34, 35, 36, 37, 38, 39, 40, 41, 42, 43, 44, 45, 46, 47] (by decide +kernel) (by decide +kernel)
set_option maxRecDepth 20000 in
theorem gX7_init_X5_init : GoodIn wsX7_init (wsX5_init) := ggX7_init_X5_init
theorem dX7_init_0 : decode cX7_init 0 = .ok (.aload_n 0, 1) := by decide +kernel
theorem dX7_init_1 : decode cX7_init 1 = .ok (.iload_n 1, 1) := by decide +kernel
theorem dX7_init_2 : decode cX7_init 2 = .ok (.invokespecial 1, 3) := by decide +kernel
theorem dX7_init_5 : decode cX7_init 5 = .ok (.return_, 1) := by decide +kernel
theorem dX7_kind_0 : decode cX7_kind 0 = .ok (.iconst 3, 1) := by decide +kernel
theorem dX7_kind_1 : decode cX7_kind 1 = .ok (.ireturn, 1) := by decide +kernel
theorem dX7_keeps_0 : decode cX7_keeps 0 = .ok (.bipush 9, 2) := by decide +kernel
theorem dX7_keeps_2 : decode cX7_keeps 2 = .ok (.ireturn, 1) := by decide +kernel
theorem dX8_init_0 : decode cX8_init 0 = .ok (.aload_n 0, 1) := by decide +kernel
theorem dX8_init_1 : decode cX8_init 1 = .ok (.invokespecial 1, 3) := by decide +kernel
theorem dX8_init_4 : decode cX8_init 4 = .ok (.aload_n 0, 1) := by decide +kernel
theorem dX8_init_5 : decode cX8_init 5 = .ok (.bipush 6, 2) := by decide +kernel
theorem dX8_init_7 : decode cX8_init 7 = .ok (.newarray .int, 2) := by decide +kernel
theorem dX8_init_9 : decode cX8_init 9 = .ok (.putfield 9, 3) := by decide +kernel
theorem dX8_init_12 : decode cX8_init 12 = .ok (.aload_n 0, 1) := by decide +kernel
theorem dX8_init_13 : decode cX8_init 13 = .ok (.bipush 6, 2) := by decide +kernel
theorem dX8_init_15 : decode cX8_init 15 = .ok (.newarray .int, 2) := by decide +kernel
theorem dX8_init_17 : decode cX8_init 17 = .ok (.putfield 13, 3) := by decide +kernel
theorem dX8_init_20 : decode cX8_init 20 = .ok (.aload_n 0, 1) := by decide +kernel
theorem dX8_init_21 : decode cX8_init 21 = .ok (.bipush 6, 2) := by decide +kernel
theorem dX8_init_23 : decode cX8_init 23 = .ok (.newarray .int, 2) := by decide +kernel
theorem dX8_init_25 : decode cX8_init 25 = .ok (.putfield 16, 3) := by decide +kernel
theorem dX8_init_28 : decode cX8_init 28 = .ok (.return_, 1) := by decide +kernel
theorem dX8_add_0 : decode cX8_add 0 = .ok (.aload_n 0, 1) := by decide +kernel
theorem dX8_add_1 : decode cX8_add 1 = .ok (.getfield 19, 3) := by decide +kernel
theorem dX8_add_4 : decode cX8_add 4 = .ok (.ifCond .lt 12, 3) := by decide +kernel
theorem dX8_add_7 : decode cX8_add 7 = .ok (.aload_n 0, 1) := by decide +kernel
theorem dX8_add_8 : decode cX8_add 8 = .ok (.getfield 19, 3) := by decide +kernel
theorem dX8_add_11 : decode cX8_add 11 = .ok (.bipush 6, 2) := by decide +kernel
theorem dX8_add_13 : decode cX8_add 13 = .ok (.if_icmp .lt 5, 3) := by decide +kernel
theorem dX8_add_16 : decode cX8_add 16 = .ok (.iconst 0, 1) := by decide +kernel
theorem dX8_add_17 : decode cX8_add 17 = .ok (.ireturn, 1) := by decide +kernel
theorem dX8_add_18 : decode cX8_add 18 = .ok (.aload_n 0, 1) := by decide +kernel
theorem dX8_add_19 : decode cX8_add 19 = .ok (.getfield 9, 3) := by decide +kernel
theorem dX8_add_22 : decode cX8_add 22 = .ok (.aload_n 0, 1) := by decide +kernel
theorem dX8_add_23 : decode cX8_add 23 = .ok (.getfield 19, 3) := by decide +kernel
theorem dX8_add_26 : decode cX8_add 26 = .ok (.iload_n 1, 1) := by decide +kernel
theorem dX8_add_27 : decode cX8_add 27 = .ok (.iastore, 1) := by decide +kernel
theorem dX8_add_28 : decode cX8_add 28 = .ok (.aload_n 0, 1) := by decide +kernel
theorem dX8_add_29 : decode cX8_add 29 = .ok (.getfield 13, 3) := by decide +kernel
theorem dX8_add_32 : decode cX8_add 32 = .ok (.aload_n 0, 1) := by decide +kernel
theorem dX8_add_33 : decode cX8_add 33 = .ok (.getfield 19, 3) := by decide +kernel
theorem dX8_add_36 : decode cX8_add 36 = .ok (.iload_n 2, 1) := by decide +kernel
theorem dX8_add_37 : decode cX8_add 37 = .ok (.iastore, 1) := by decide +kernel
theorem dX8_add_38 : decode cX8_add 38 = .ok (.aload_n 0, 1) := by decide +kernel
theorem dX8_add_39 : decode cX8_add 39 = .ok (.getfield 16, 3) := by decide +kernel
theorem dX8_add_42 : decode cX8_add 42 = .ok (.aload_n 0, 1) := by decide +kernel
theorem dX8_add_43 : decode cX8_add 43 = .ok (.getfield 19, 3) := by decide +kernel
theorem dX8_add_46 : decode cX8_add 46 = .ok (.iload_n 3, 1) := by decide +kernel
theorem dX8_add_47 : decode cX8_add 47 = .ok (.iastore, 1) := by decide +kernel
theorem dX8_add_48 : decode cX8_add 48 = .ok (.aload_n 0, 1) := by decide +kernel
theorem dX8_add_49 : decode cX8_add 49 = .ok (.dup, 1) := by decide +kernel
theorem dX8_add_50 : decode cX8_add 50 = .ok (.getfield 19, 3) := by decide +kernel
theorem dX8_add_53 : decode cX8_add 53 = .ok (.iconst 1, 1) := by decide +kernel
theorem dX8_add_54 : decode cX8_add 54 = .ok (.iadd, 1) := by decide +kernel
theorem dX8_add_55 : decode cX8_add 55 = .ok (.putfield 19, 3) := by decide +kernel
theorem dX8_add_58 : decode cX8_add 58 = .ok (.iconst 1, 1) := by decide +kernel
theorem dX8_add_59 : decode cX8_add 59 = .ok (.ireturn, 1) := by decide +kernel
set_option maxRecDepth 20000 in
theorem ggX8_fits_X9_outBy : GoodIn wsX8_fits wsX9_outBy := goodIn_r _ [7] (by decide +kernel) (by decide +kernel)
set_option maxRecDepth 20000 in
theorem gX8_fits_X9_outBy_n23 : GoodIn wsX8_fits (wsX9_outBy) := ggX8_fits_X9_outBy
theorem dX8_fits_0 : decode cX8_fits 0 = .ok (.iconst 0, 1) := by decide +kernel
theorem dX8_fits_1 : decode cX8_fits 1 = .ok (.istore_n 2, 1) := by decide +kernel
theorem dX8_fits_2 : decode cX8_fits 2 = .ok (.iload_n 2, 1) := by decide +kernel
theorem dX8_fits_3 : decode cX8_fits 3 = .ok (.aload_n 0, 1) := by decide +kernel
theorem dX8_fits_4 : decode cX8_fits 4 = .ok (.getfield 19, 3) := by decide +kernel
theorem dX8_fits_7 : decode cX8_fits 7 = .ok (.if_icmp .ge 43, 3) := by decide +kernel
theorem dX8_fits_10 : decode cX8_fits 10 = .ok (.iload_n 2, 1) := by decide +kernel
theorem dX8_fits_11 : decode cX8_fits 11 = .ok (.bipush 6, 2) := by decide +kernel
theorem dX8_fits_13 : decode cX8_fits 13 = .ok (.if_icmp .ge 37, 3) := by decide +kernel
theorem dX8_fits_16 : decode cX8_fits 16 = .ok (.iload_n 1, 1) := by decide +kernel
theorem dX8_fits_17 : decode cX8_fits 17 = .ok (.aload_n 0, 1) := by decide +kernel
theorem dX8_fits_18 : decode cX8_fits 18 = .ok (.getfield 9, 3) := by decide +kernel
theorem dX8_fits_21 : decode cX8_fits 21 = .ok (.iload_n 2, 1) := by decide +kernel
theorem dX8_fits_22 : decode cX8_fits 22 = .ok (.iaload, 1) := by decide +kernel
theorem dX8_fits_23 : decode cX8_fits 23 = .ok (.isub, 1) := by decide +kernel
theorem dX8_fits_24 : decode cX8_fits 24 = .ok (.aload_n 0, 1) := by decide +kernel
theorem dX8_fits_25 : decode cX8_fits 25 = .ok (.getfield 13, 3) := by decide +kernel
theorem dX8_fits_28 : decode cX8_fits 28 = .ok (.iload_n 2, 1) := by decide +kernel
theorem dX8_fits_29 : decode cX8_fits 29 = .ok (.iaload, 1) := by decide +kernel
theorem dX8_fits_30 : decode cX8_fits 30 = .ok (.invokestatic 23, 3) := by decide +kernel
theorem dX8_fits_33 : decode cX8_fits 33 = .ok (.aload_n 0, 1) := by decide +kernel
theorem dX8_fits_34 : decode cX8_fits 34 = .ok (.getfield 16, 3) := by decide +kernel
theorem dX8_fits_37 : decode cX8_fits 37 = .ok (.iload_n 2, 1) := by decide +kernel
theorem dX8_fits_38 : decode cX8_fits 38 = .ok (.iaload, 1) := by decide +kernel
theorem dX8_fits_39 : decode cX8_fits 39 = .ok (.if_icmp .eq 5, 3) := by decide +kernel
theorem dX8_fits_42 : decode cX8_fits 42 = .ok (.iconst 0, 1) := by decide +kernel
theorem dX8_fits_43 : decode cX8_fits 43 = .ok (.ireturn, 1) := by decide +kernel
theorem dX8_fits_44 : decode cX8_fits 44 = .ok (.iinc 2 1, 3) := by decide +kernel
theorem dX8_fits_47 : decode cX8_fits 47 = .ok (.goto (-45), 3) := by decide +kernel
theorem dX8_fits_50 : decode cX8_fits 50 = .ok (.iconst 1, 1) := by decide +kernel
theorem dX8_fits_51 : decode cX8_fits 51 = .ok (.ireturn, 1) := by decide +kernel
theorem dX8_copyFrom_0 : decode cX8_copyFrom 0 = .ok (.iconst 0, 1) := by decide +kernel
theorem dX8_copyFrom_1 : decode cX8_copyFrom 1 = .ok (.istore_n 2, 1) := by decide +kernel
theorem dX8_copyFrom_2 : decode cX8_copyFrom 2 = .ok (.iload_n 2, 1) := by decide +kernel
theorem dX8_copyFrom_3 : decode cX8_copyFrom 3 = .ok (.bipush 6, 2) := by decide +kernel
theorem dX8_copyFrom_5 : decode cX8_copyFrom 5 = .ok (.if_icmp .ge 45, 3) := by decide +kernel
theorem dX8_copyFrom_8 : decode cX8_copyFrom 8 = .ok (.aload_n 0, 1) := by decide +kernel
theorem dX8_copyFrom_9 : decode cX8_copyFrom 9 = .ok (.getfield 9, 3) := by decide +kernel
theorem dX8_copyFrom_12 : decode cX8_copyFrom 12 = .ok (.iload_n 2, 1) := by decide +kernel
theorem dX8_copyFrom_13 : decode cX8_copyFrom 13 = .ok (.aload_n 1, 1) := by decide +kernel
theorem dX8_copyFrom_14 : decode cX8_copyFrom 14 = .ok (.getfield 9, 3) := by decide +kernel
theorem dX8_copyFrom_17 : decode cX8_copyFrom 17 = .ok (.iload_n 2, 1) := by decide +kernel
theorem dX8_copyFrom_18 : decode cX8_copyFrom 18 = .ok (.iaload, 1) := by decide +kernel
theorem dX8_copyFrom_19 : decode cX8_copyFrom 19 = .ok (.iastore, 1) := by decide +kernel
theorem dX8_copyFrom_20 : decode cX8_copyFrom 20 = .ok (.aload_n 0, 1) := by decide +kernel
theorem dX8_copyFrom_21 : decode cX8_copyFrom 21 = .ok (.getfield 13, 3) := by decide +kernel
theorem dX8_copyFrom_24 : decode cX8_copyFrom 24 = .ok (.iload_n 2, 1) := by decide +kernel
theorem dX8_copyFrom_25 : decode cX8_copyFrom 25 = .ok (.aload_n 1, 1) := by decide +kernel
theorem dX8_copyFrom_26 : decode cX8_copyFrom 26 = .ok (.getfield 13, 3) := by decide +kernel
theorem dX8_copyFrom_29 : decode cX8_copyFrom 29 = .ok (.iload_n 2, 1) := by decide +kernel
theorem dX8_copyFrom_30 : decode cX8_copyFrom 30 = .ok (.iaload, 1) := by decide +kernel
theorem dX8_copyFrom_31 : decode cX8_copyFrom 31 = .ok (.iastore, 1) := by decide +kernel
theorem dX8_copyFrom_32 : decode cX8_copyFrom 32 = .ok (.aload_n 0, 1) := by decide +kernel
theorem dX8_copyFrom_33 : decode cX8_copyFrom 33 = .ok (.getfield 16, 3) := by decide +kernel
theorem dX8_copyFrom_36 : decode cX8_copyFrom 36 = .ok (.iload_n 2, 1) := by decide +kernel
theorem dX8_copyFrom_37 : decode cX8_copyFrom 37 = .ok (.aload_n 1, 1) := by decide +kernel
theorem dX8_copyFrom_38 : decode cX8_copyFrom 38 = .ok (.getfield 16, 3) := by decide +kernel
theorem dX8_copyFrom_41 : decode cX8_copyFrom 41 = .ok (.iload_n 2, 1) := by decide +kernel
theorem dX8_copyFrom_42 : decode cX8_copyFrom 42 = .ok (.iaload, 1) := by decide +kernel
theorem dX8_copyFrom_43 : decode cX8_copyFrom 43 = .ok (.iastore, 1) := by decide +kernel
theorem dX8_copyFrom_44 : decode cX8_copyFrom 44 = .ok (.iinc 2 1, 3) := by decide +kernel
theorem dX8_copyFrom_47 : decode cX8_copyFrom 47 = .ok (.goto (-45), 3) := by decide +kernel
theorem dX8_copyFrom_50 : decode cX8_copyFrom 50 = .ok (.aload_n 0, 1) := by decide +kernel
theorem dX8_copyFrom_51 : decode cX8_copyFrom 51 = .ok (.aload_n 1, 1) := by decide +kernel
theorem dX8_copyFrom_52 : decode cX8_copyFrom 52 = .ok (.getfield 19, 3) := by decide +kernel
theorem dX8_copyFrom_55 : decode cX8_copyFrom 55 = .ok (.putfield 19, 3) := by decide +kernel
theorem dX8_copyFrom_58 : decode cX8_copyFrom 58 = .ok (.return_, 1) := by decide +kernel
set_option maxRecDepth 20000 in
theorem ggX9_init_X3_init : GoodIn wsX9_init wsX3_init := goodIn_r _ [24, 25, 2, 3, 26, 27, 44, 45] (by decide +kernel) (by decide +kernel)
set_option maxRecDepth 20000 in
theorem gX9_init_X3_init_n9 : GoodIn wsX9_init (wsX3_init) := ggX9_init_X3_init
set_option maxRecDepth 20000 in
theorem ggX9_init_X8_init : GoodIn wsX9_init wsX8_init := goodIn_r _ [29, 30, 2, 3, 26, 31, 32, 33, 64, 65, 66, 67] (by decide +kernel) (by decide +kernel)
set_option maxRecDepth 20000 in
theorem gX9_init_X8_init_n24 : GoodIn wsX9_init (wsX8_init) := ggX9_init_X8_init
set_option maxRecDepth 20000 in
theorem ggX9_init_X4_init : GoodIn wsX9_init wsX4_init := goodIn_r _ [35, 36, 2, 3, 26, 37, 38, 39, 40, 68, 69, 70, 71, 72, 73, 74, 75, 76] (by decide +kernel) (by decide +kernel)
set_option maxRecDepth 20000 in
theorem gX9_init_X4_init_n34 : GoodIn wsX9_init (wsX4_init) := ggX9_init_X4_init
set_option maxRecDepth 20000 in
theorem ggX9_init_X1_init : GoodIn wsX9_init wsX1_init := goodIn_r _ [42, 43, 2, 3] (by decide +kernel) (by decide +kernel)
set_option maxRecDepth 20000 in
theorem gX9_init_X1_init_n41 : GoodIn wsX9_init (wsX1_init) := ggX9_init_X1_init
theorem dX9_init_0 : decode cX9_init 0 = .ok (.aload_n 0, 1) := by decide +kernel
theorem dX9_init_1 : decode cX9_init 1 = .ok (.invokespecial 1, 3) := by decide +kernel
theorem dX9_init_4 : decode cX9_init 4 = .ok (.aload_n 0, 1) := by decide +kernel
theorem dX9_init_5 : decode cX9_init 5 = .ok (.new 7, 3) := by decide +kernel
theorem dX9_init_8 : decode cX9_init 8 = .ok (.dup, 1) := by decide +kernel
theorem dX9_init_9 : decode cX9_init 9 = .ok (.invokespecial 9, 3) := by decide +kernel
theorem dX9_init_12 : decode cX9_init 12 = .ok (.putfield 10, 3) := by decide +kernel
theorem dX9_init_15 : decode cX9_init 15 = .ok (.aload_n 0, 1) := by decide +kernel
theorem dX9_init_16 : decode cX9_init 16 = .ok (.iconst 4, 1) := by decide +kernel
theorem dX9_init_17 : decode cX9_init 17 = .ok (.anewarray 16, 3) := by decide +kernel
theorem dX9_init_20 : decode cX9_init 20 = .ok (.putfield 18, 3) := by decide +kernel
theorem dX9_init_23 : decode cX9_init 23 = .ok (.aload_n 0, 1) := by decide +kernel
theorem dX9_init_24 : decode cX9_init 24 = .ok (.new 22, 3) := by decide +kernel
theorem dX9_init_27 : decode cX9_init 27 = .ok (.dup, 1) := by decide +kernel
theorem dX9_init_28 : decode cX9_init 28 = .ok (.invokespecial 24, 3) := by decide +kernel
theorem dX9_init_31 : decode cX9_init 31 = .ok (.putfield 25, 3) := by decide +kernel
theorem dX9_init_34 : decode cX9_init 34 = .ok (.aload_n 0, 1) := by decide +kernel
theorem dX9_init_35 : decode cX9_init 35 = .ok (.new 22, 3) := by decide +kernel
theorem dX9_init_38 : decode cX9_init 38 = .ok (.dup, 1) := by decide +kernel
theorem dX9_init_39 : decode cX9_init 39 = .ok (.invokespecial 24, 3) := by decide +kernel
theorem dX9_init_42 : decode cX9_init 42 = .ok (.putfield 29, 3) := by decide +kernel
theorem dX9_init_45 : decode cX9_init 45 = .ok (.aload_n 0, 1) := by decide +kernel
theorem dX9_init_46 : decode cX9_init 46 = .ok (.new 32, 3) := by decide +kernel
theorem dX9_init_49 : decode cX9_init 49 = .ok (.dup, 1) := by decide +kernel
theorem dX9_init_50 : decode cX9_init 50 = .ok (.invokespecial 34, 3) := by decide +kernel
theorem dX9_init_53 : decode cX9_init 53 = .ok (.putfield 35, 3) := by decide +kernel
theorem dX9_init_56 : decode cX9_init 56 = .ok (.aload_n 0, 1) := by decide +kernel
theorem dX9_init_57 : decode cX9_init 57 = .ok (.new 39, 3) := by decide +kernel
theorem dX9_init_60 : decode cX9_init 60 = .ok (.dup, 1) := by decide +kernel
theorem dX9_init_61 : decode cX9_init 61 = .ok (.invokespecial 41, 3) := by decide +kernel
theorem dX9_init_64 : decode cX9_init 64 = .ok (.putfield 42, 3) := by decide +kernel
theorem dX9_init_67 : decode cX9_init 67 = .ok (.return_, 1) := by decide +kernel
set_option maxRecDepth 20000 in
theorem ggX9_letter_X3_write : GoodIn wsX9_letter wsX3_write := goodIn_r _ [7, 8, 9, 28, 29] (by decide +kernel) (by decide +kernel)
set_option maxRecDepth 20000 in
theorem gX9_letter_X3_write : GoodIn wsX9_letter (wsV RX9 46 RX3 yX3_write wsX3_write) := goodIn_app (goodIn_of _ (by decide +kernel)) ggX9_letter_X3_write
theorem dX9_letter_0 : decode cX9_letter 0 = .ok (.iload_n 1, 1) := by decide +kernel
theorem dX9_letter_1 : decode cX9_letter 1 = .ok (.bipush 32, 2) := by decide +kernel
theorem dX9_letter_3 : decode cX9_letter 3 = .ok (.if_icmp .lt 9, 3) := by decide +kernel
theorem dX9_letter_6 : decode cX9_letter 6 = .ok (.iload_n 1, 1) := by decide +kernel
theorem dX9_letter_7 : decode cX9_letter 7 = .ok (.bipush 126, 2) := by decide +kernel
theorem dX9_letter_9 : decode cX9_letter 9 = .ok (.if_icmp .le 6, 3) := by decide +kernel
theorem dX9_letter_12 : decode cX9_letter 12 = .ok (.bipush (-102), 2) := by decide +kernel
theorem dX9_letter_14 : decode cX9_letter 14 = .ok (.ireturn, 1) := by decide +kernel
theorem dX9_letter_15 : decode cX9_letter 15 = .ok (.aload_n 0, 1) := by decide +kernel
theorem dX9_letter_16 : decode cX9_letter 16 = .ok (.getfield 10, 3) := by decide +kernel
theorem dX9_letter_19 : decode cX9_letter 19 = .ok (.iload_n 1, 1) := by decide +kernel
theorem dX9_letter_20 : decode cX9_letter 20 = .ok (.invokevirtual 46, 3) := by decide +kernel
theorem dX9_letter_23 : decode cX9_letter 23 = .ok (.ifCond .eq 13, 3) := by decide +kernel
theorem dX9_letter_26 : decode cX9_letter 26 = .ok (.aload_n 0, 1) := by decide +kernel
theorem dX9_letter_27 : decode cX9_letter 27 = .ok (.getfield 10, 3) := by decide +kernel
theorem dX9_letter_30 : decode cX9_letter 30 = .ok (.getfield 50, 3) := by decide +kernel
theorem dX9_letter_33 : decode cX9_letter 33 = .ok (.goto 5, 3) := by decide +kernel
theorem dX9_letter_36 : decode cX9_letter 36 = .ok (.bipush (-104), 2) := by decide +kernel
theorem dX9_letter_38 : decode cX9_letter 38 = .ok (.ireturn, 1) := by decide +kernel
theorem dX9_blank_0 : decode cX9_blank 0 = .ok (.aload_n 0, 1) := by decide +kernel
theorem dX9_blank_1 : decode cX9_blank 1 = .ok (.getfield 10, 3) := by decide +kernel
theorem dX9_blank_4 : decode cX9_blank 4 = .ok (.getfield 50, 3) := by decide +kernel
theorem dX9_blank_7 : decode cX9_blank 7 = .ok (.istore_n 1, 1) := by decide +kernel
theorem dX9_blank_8 : decode cX9_blank 8 = .ok (.aload_n 0, 1) := by decide +kernel
theorem dX9_blank_9 : decode cX9_blank 9 = .ok (.getfield 10, 3) := by decide +kernel
theorem dX9_blank_12 : decode cX9_blank 12 = .ok (.iconst 0, 1) := by decide +kernel
theorem dX9_blank_13 : decode cX9_blank 13 = .ok (.putfield 50, 3) := by decide +kernel
theorem dX9_blank_16 : decode cX9_blank 16 = .ok (.iload_n 1, 1) := by decide +kernel
theorem dX9_blank_17 : decode cX9_blank 17 = .ok (.ireturn, 1) := by decide +kernel
set_option maxRecDepth 20000 in
theorem ggX9_fault_X3_faultPlace : GoodIn wsX9_fault wsX3_faultPlace := goodIn_r _ [6, 7, 8, 9, 10, 5, 11, 12, 13, 14, 15, 16, 17, 18, 19, 20, 21, 22, 23, 24, 25, 26, 45, 46] (by decide +kernel) (by decide +kernel)
set_option maxRecDepth 20000 in
theorem gX9_fault_X3_faultPlace : GoodIn wsX9_fault (wsV RX9 54 RX3 yX3_faultPlace wsX3_faultPlace) := goodIn_app (goodIn_of _ (by decide +kernel)) ggX9_fault_X3_faultPlace
theorem dX9_fault_0 : decode cX9_fault 0 = .ok (.aload_n 0, 1) := by decide +kernel
theorem dX9_fault_1 : decode cX9_fault 1 = .ok (.getfield 10, 3) := by decide +kernel
theorem dX9_fault_4 : decode cX9_fault 4 = .ok (.invokevirtual 54, 3) := by decide +kernel
theorem dX9_fault_7 : decode cX9_fault 7 = .ok (.ireturn, 1) := by decide +kernel
set_option maxRecDepth 20000 in
theorem ggX9_kitchen_X3_isKitchen : GoodIn wsX9_kitchen wsX3_isKitchen := goodIn_r _ [11, 12, 13, 14, 15, 10, 16, 17, 18, 19, 20, 21, 22, 23, 24, 25, 26, 27, 28, 29, 30, 31, 32, 33, 34, 35, 143, 144] (by decide +kernel) (by decide +kernel)
set_option maxRecDepth 20000 in
theorem gX9_kitchen_X3_isKitchen : GoodIn wsX9_kitchen (wsV RX9 58 RX3 yX3_isKitchen wsX3_isKitchen) := goodIn_app (goodIn_of _ (by decide +kernel)) ggX9_kitchen_X3_isKitchen
set_option maxRecDepth 20000 in
theorem ggX9_kitchen_X9_readPots : GoodIn wsX9_kitchen wsX9_readPots := goodIn_r _ [40, 1, 41, 42, 43, 44, 6, 45, 46, 47, 48, 10, 49, 12, 50, 51, 52, 53, 13, 14, 15, 16, 17, 26, 27, 28, 54, 55, 56, 57, 58, 59, 60, 61, 62, 63, 39, 64, 65, 66, 67, 68, 69, 70, 71, 72, 73, 74, 75, 76, 77, 78, 79, 80, 81, 82, 83, 84, 85, 86, 87, 88, 89, 90, 91, 92, 93, 94, 95, 96, 97, 98, 99, 100, 101, 102, 103, 104, 105, 106, 125, 126, 127, 128, 129, 130, 131, 132, 133, 134, 135, 136, 137, 138, 139, 140, 141, 142, 143, 144, 145, 146, 147, 148, 149, 150, 151, 152, 153, 154, 155, 156, 157, 158, 159, 160, 161, 162, 163, 164, 165, 166, 167, 168, 169, 170, 171, 172, 173, 174, 175, 176, 177, 178, 179] (by decide +kernel) (by decide +kernel)
set_option maxRecDepth 20000 in
theorem gX9_kitchen_X9_readPots : GoodIn wsX9_kitchen (wsV RX9 62 RX9 yX9_readPots wsX9_readPots) := goodIn_app (goodIn_of _ (by decide +kernel)) ggX9_kitchen_X9_readPots
set_option maxRecDepth 20000 in
theorem ggX9_kitchen_X3_springTold : GoodIn wsX9_kitchen wsX3_springTold := goodIn_r _ [110, 12, 58, 59, 60, 10, 61, 13, 14, 15, 16, 17, 143, 144] (by decide +kernel) (by decide +kernel)
set_option maxRecDepth 20000 in
theorem gX9_kitchen_X3_springTold : GoodIn wsX9_kitchen (wsV RX9 65 RX3 yX3_springTold wsX3_springTold) := goodIn_app (goodIn_of _ (by decide +kernel)) ggX9_kitchen_X3_springTold
set_option maxRecDepth 20000 in
theorem ggX9_kitchen_X3_handsTold : GoodIn wsX9_kitchen wsX3_handsTold := goodIn_r _ [114, 12, 13, 14, 15, 10, 16, 17, 143, 144] (by decide +kernel) (by decide +kernel)
set_option maxRecDepth 20000 in
theorem gX9_kitchen_X3_handsTold : GoodIn wsX9_kitchen (wsV RX9 71 RX3 yX3_handsTold wsX3_handsTold) := goodIn_app (goodIn_of _ (by decide +kernel)) ggX9_kitchen_X3_handsTold
set_option maxRecDepth 20000 in
theorem ggX9_kitchen_X9_startEvening : GoodIn wsX9_kitchen wsX9_startEvening := goodIn_r _ [118, 119, 3, 120, 121, 122, 123, 124, 125, 126, 127, 128, 129, 130, 131, 132, 133, 134, 135, 136, 137, 138, 139, 140, 141, 142, 180, 181, 182, 183] (by decide +kernel) (by decide +kernel)
set_option maxRecDepth 20000 in
theorem gX9_kitchen_X9_startEvening : GoodIn wsX9_kitchen (wsV RX9 77 RX9 yX9_startEvening wsX9_startEvening) := goodIn_app (goodIn_of _ (by decide +kernel)) ggX9_kitchen_X9_startEvening
theorem dX9_kitchen_0 : decode cX9_kitchen 0 = .ok (.aload_n 0, 1) := by decide +kernel
theorem dX9_kitchen_1 : decode cX9_kitchen 1 = .ok (.getfield 10, 3) := by decide +kernel
theorem dX9_kitchen_4 : decode cX9_kitchen 4 = .ok (.invokevirtual 58, 3) := by decide +kernel
theorem dX9_kitchen_7 : decode cX9_kitchen 7 = .ok (.ifCond .ne 6, 3) := by decide +kernel
theorem dX9_kitchen_10 : decode cX9_kitchen 10 = .ok (.bipush (-103), 2) := by decide +kernel
theorem dX9_kitchen_12 : decode cX9_kitchen 12 = .ok (.ireturn, 1) := by decide +kernel
theorem dX9_kitchen_13 : decode cX9_kitchen 13 = .ok (.aload_n 0, 1) := by decide +kernel
theorem dX9_kitchen_14 : decode cX9_kitchen 14 = .ok (.invokevirtual 62, 3) := by decide +kernel
theorem dX9_kitchen_17 : decode cX9_kitchen 17 = .ok (.aload_n 0, 1) := by decide +kernel
theorem dX9_kitchen_18 : decode cX9_kitchen 18 = .ok (.aload_n 0, 1) := by decide +kernel
theorem dX9_kitchen_19 : decode cX9_kitchen 19 = .ok (.getfield 10, 3) := by decide +kernel
theorem dX9_kitchen_22 : decode cX9_kitchen 22 = .ok (.invokevirtual 65, 3) := by decide +kernel
theorem dX9_kitchen_25 : decode cX9_kitchen 25 = .ok (.putfield 68, 3) := by decide +kernel
theorem dX9_kitchen_28 : decode cX9_kitchen 28 = .ok (.aload_n 0, 1) := by decide +kernel
theorem dX9_kitchen_29 : decode cX9_kitchen 29 = .ok (.aload_n 0, 1) := by decide +kernel
theorem dX9_kitchen_30 : decode cX9_kitchen 30 = .ok (.getfield 10, 3) := by decide +kernel
theorem dX9_kitchen_33 : decode cX9_kitchen 33 = .ok (.invokevirtual 71, 3) := by decide +kernel
theorem dX9_kitchen_36 : decode cX9_kitchen 36 = .ok (.putfield 74, 3) := by decide +kernel
theorem dX9_kitchen_39 : decode cX9_kitchen 39 = .ok (.aload_n 0, 1) := by decide +kernel
theorem dX9_kitchen_40 : decode cX9_kitchen 40 = .ok (.getfield 10, 3) := by decide +kernel
theorem dX9_kitchen_43 : decode cX9_kitchen 43 = .ok (.iconst 0, 1) := by decide +kernel
theorem dX9_kitchen_44 : decode cX9_kitchen 44 = .ok (.putfield 50, 3) := by decide +kernel
theorem dX9_kitchen_47 : decode cX9_kitchen 47 = .ok (.aload_n 0, 1) := by decide +kernel
theorem dX9_kitchen_48 : decode cX9_kitchen 48 = .ok (.invokevirtual 77, 3) := by decide +kernel
theorem dX9_kitchen_51 : decode cX9_kitchen 51 = .ok (.aload_n 0, 1) := by decide +kernel
theorem dX9_kitchen_52 : decode cX9_kitchen 52 = .ok (.dup, 1) := by decide +kernel
theorem dX9_kitchen_53 : decode cX9_kitchen 53 = .ok (.getfield 80, 3) := by decide +kernel
theorem dX9_kitchen_56 : decode cX9_kitchen 56 = .ok (.iconst 1, 1) := by decide +kernel
theorem dX9_kitchen_57 : decode cX9_kitchen 57 = .ok (.iadd, 1) := by decide +kernel
theorem dX9_kitchen_58 : decode cX9_kitchen 58 = .ok (.putfield 80, 3) := by decide +kernel
theorem dX9_kitchen_61 : decode cX9_kitchen 61 = .ok (.aload_n 0, 1) := by decide +kernel
theorem dX9_kitchen_62 : decode cX9_kitchen 62 = .ok (.getfield 83, 3) := by decide +kernel
theorem dX9_kitchen_65 : decode cX9_kitchen 65 = .ok (.ireturn, 1) := by decide +kernel
set_option maxRecDepth 20000 in
theorem ggX9_readPots_X3_potsTold : GoodIn wsX9_readPots wsX3_potsTold := goodIn_r _ [12, 13, 98, 99] (by decide +kernel) (by decide +kernel)
set_option maxRecDepth 20000 in
theorem gX9_readPots_X3_potsTold : GoodIn wsX9_readPots (wsV RX9 86 RX3 yX3_potsTold wsX3_potsTold) := goodIn_app (goodIn_of _ (by decide +kernel)) ggX9_readPots_X3_potsTold
set_option maxRecDepth 20000 in
theorem ggX9_readPots_X3_kindTold : GoodIn wsX9_readPots wsX3_kindTold := goodIn_r _ [17, 18, 19, 20, 11, 21, 13, 22, 23, 24, 25, 98, 99] (by decide +kernel) (by decide +kernel)
set_option maxRecDepth 20000 in
theorem gX9_readPots_X3_kindTold : GoodIn wsX9_readPots (wsV RX9 95 RX3 yX3_kindTold wsX3_kindTold) := goodIn_app (goodIn_of _ (by decide +kernel)) ggX9_readPots_X3_kindTold
set_option maxRecDepth 20000 in
theorem ggX9_readPots_X3_wantsTold : GoodIn wsX9_readPots wsX3_wantsTold := goodIn_r _ [29, 30, 31, 32, 11, 33, 18, 19, 20, 21, 13, 22, 98, 99] (by decide +kernel) (by decide +kernel)
set_option maxRecDepth 20000 in
theorem gX9_readPots_X3_wantsTold : GoodIn wsX9_readPots (wsV RX9 99 RX3 yX3_wantsTold wsX3_wantsTold) := goodIn_app (goodIn_of _ (by decide +kernel)) ggX9_readPots_X3_wantsTold
set_option maxRecDepth 20000 in
theorem ggX9_readPots_X9_newPot : GoodIn wsX9_readPots wsX9_newPot := goodIn_r _ [37, 38, 39, 40, 41, 42, 43, 44, 45, 46, 47, 48, 49, 50, 51, 52, 53, 54, 55, 56, 57, 58, 59, 60, 61, 62, 63, 64, 65, 66, 67, 68, 69, 70, 71, 72, 73, 74, 75, 76, 77, 78, 79, 100, 101, 102, 103, 104, 105, 106, 107, 108, 109, 110, 111, 112, 113, 114, 115, 116, 117, 118, 119, 120, 121, 122, 123, 124, 125, 126, 127, 128, 129, 130, 131, 132, 133, 134] (by decide +kernel) (by decide +kernel)
set_option maxRecDepth 20000 in
theorem gX9_readPots_X9_newPot : GoodIn wsX9_readPots (va_wsS RX9 102 yX9_newPot wsX9_newPot) := goodIn_app (goodIn_of _ (by decide +kernel)) ggX9_readPots_X9_newPot
theorem dX9_readPots_0 : decode cX9_readPots 0 = .ok (.aload_n 0, 1) := by decide +kernel
theorem dX9_readPots_1 : decode cX9_readPots 1 = .ok (.aload_n 0, 1) := by decide +kernel
theorem dX9_readPots_2 : decode cX9_readPots 2 = .ok (.getfield 10, 3) := by decide +kernel
theorem dX9_readPots_5 : decode cX9_readPots 5 = .ok (.invokevirtual 86, 3) := by decide +kernel
theorem dX9_readPots_8 : decode cX9_readPots 8 = .ok (.iconst 4, 1) := by decide +kernel
theorem dX9_readPots_9 : decode cX9_readPots 9 = .ok (.invokestatic 89, 3) := by decide +kernel
theorem dX9_readPots_12 : decode cX9_readPots 12 = .ok (.putfield 83, 3) := by decide +kernel
theorem dX9_readPots_15 : decode cX9_readPots 15 = .ok (.iconst 0, 1) := by decide +kernel
theorem dX9_readPots_16 : decode cX9_readPots 16 = .ok (.istore_n 1, 1) := by decide +kernel
theorem dX9_readPots_17 : decode cX9_readPots 17 = .ok (.iload_n 1, 1) := by decide +kernel
theorem dX9_readPots_18 : decode cX9_readPots 18 = .ok (.aload_n 0, 1) := by decide +kernel
theorem dX9_readPots_19 : decode cX9_readPots 19 = .ok (.getfield 18, 3) := by decide +kernel
theorem dX9_readPots_22 : decode cX9_readPots 22 = .ok (.arraylength, 1) := by decide +kernel
theorem dX9_readPots_23 : decode cX9_readPots 23 = .ok (.if_icmp .ge 46, 3) := by decide +kernel
theorem dX9_readPots_26 : decode cX9_readPots 26 = .ok (.aload_n 0, 1) := by decide +kernel
theorem dX9_readPots_27 : decode cX9_readPots 27 = .ok (.getfield 18, 3) := by decide +kernel
theorem dX9_readPots_30 : decode cX9_readPots 30 = .ok (.iload_n 1, 1) := by decide +kernel
theorem dX9_readPots_31 : decode cX9_readPots 31 = .ok (.iload_n 1, 1) := by decide +kernel
theorem dX9_readPots_32 : decode cX9_readPots 32 = .ok (.aload_n 0, 1) := by decide +kernel
theorem dX9_readPots_33 : decode cX9_readPots 33 = .ok (.getfield 83, 3) := by decide +kernel
theorem dX9_readPots_36 : decode cX9_readPots 36 = .ok (.if_icmp .ge 25, 3) := by decide +kernel
theorem dX9_readPots_39 : decode cX9_readPots 39 = .ok (.aload_n 0, 1) := by decide +kernel
theorem dX9_readPots_40 : decode cX9_readPots 40 = .ok (.getfield 10, 3) := by decide +kernel
theorem dX9_readPots_43 : decode cX9_readPots 43 = .ok (.iload_n 1, 1) := by decide +kernel
theorem dX9_readPots_44 : decode cX9_readPots 44 = .ok (.invokevirtual 95, 3) := by decide +kernel
theorem dX9_readPots_47 : decode cX9_readPots 47 = .ok (.aload_n 0, 1) := by decide +kernel
theorem dX9_readPots_48 : decode cX9_readPots 48 = .ok (.getfield 10, 3) := by decide +kernel
theorem dX9_readPots_51 : decode cX9_readPots 51 = .ok (.iload_n 1, 1) := by decide +kernel
theorem dX9_readPots_52 : decode cX9_readPots 52 = .ok (.invokevirtual 99, 3) := by decide +kernel
theorem dX9_readPots_55 : decode cX9_readPots 55 = .ok (.invokestatic 102, 3) := by decide +kernel
theorem dX9_readPots_58 : decode cX9_readPots 58 = .ok (.goto 4, 3) := by decide +kernel
theorem dX9_readPots_61 : decode cX9_readPots 61 = .ok (.aconst_null, 1) := by decide +kernel
theorem dX9_readPots_62 : decode cX9_readPots 62 = .ok (.aastore, 1) := by decide +kernel
theorem dX9_readPots_63 : decode cX9_readPots 63 = .ok (.iinc 1 1, 3) := by decide +kernel
theorem dX9_readPots_66 : decode cX9_readPots 66 = .ok (.goto (-49), 3) := by decide +kernel
theorem dX9_readPots_69 : decode cX9_readPots 69 = .ok (.return_, 1) := by decide +kernel
theorem dX9_startEvening_0 : decode cX9_startEvening 0 = .ok (.aload_n 0, 1) := by decide +kernel
theorem dX9_startEvening_1 : decode cX9_startEvening 1 = .ok (.iconst 0, 1) := by decide +kernel
theorem dX9_startEvening_2 : decode cX9_startEvening 2 = .ok (.putfield 106, 3) := by decide +kernel
theorem dX9_startEvening_5 : decode cX9_startEvening 5 = .ok (.aload_n 0, 1) := by decide +kernel
theorem dX9_startEvening_6 : decode cX9_startEvening 6 = .ok (.aload_n 0, 1) := by decide +kernel
theorem dX9_startEvening_7 : decode cX9_startEvening 7 = .ok (.getfield 74, 3) := by decide +kernel
theorem dX9_startEvening_10 : decode cX9_startEvening 10 = .ok (.putfield 109, 3) := by decide +kernel
theorem dX9_startEvening_13 : decode cX9_startEvening 13 = .ok (.aload_n 0, 1) := by decide +kernel
theorem dX9_startEvening_14 : decode cX9_startEvening 14 = .ok (.iconst 0, 1) := by decide +kernel
theorem dX9_startEvening_15 : decode cX9_startEvening 15 = .ok (.putfield 112, 3) := by decide +kernel
theorem dX9_startEvening_18 : decode cX9_startEvening 18 = .ok (.aload_n 0, 1) := by decide +kernel
theorem dX9_startEvening_19 : decode cX9_startEvening 19 = .ok (.getfield 25, 3) := by decide +kernel
theorem dX9_startEvening_22 : decode cX9_startEvening 22 = .ok (.iconst 0, 1) := by decide +kernel
theorem dX9_startEvening_23 : decode cX9_startEvening 23 = .ok (.putfield 115, 3) := by decide +kernel
theorem dX9_startEvening_26 : decode cX9_startEvening 26 = .ok (.aload_n 0, 1) := by decide +kernel
theorem dX9_startEvening_27 : decode cX9_startEvening 27 = .ok (.iconst 0, 1) := by decide +kernel
theorem dX9_startEvening_28 : decode cX9_startEvening 28 = .ok (.putfield 116, 3) := by decide +kernel
theorem dX9_startEvening_31 : decode cX9_startEvening 31 = .ok (.return_, 1) := by decide +kernel
set_option maxRecDepth 20000 in
theorem ggX9_newPot_X2_init : GoodIn wsX9_newPot wsX2_init := goodIn_r _ [18, 19, 20, 15, 21, 22, 23, 24, 25, 26, 27, 28, 29, 64, 65, 66, 67, 68, 69, 70, 43, 44, 45, 46, 47, 48, 49, 71, 72, 73, 74, 75, 76, 77, 50, 51, 52, 53, 54, 55, 56, 57, 58, 59, 60, 61, 62, 63] (by decide +kernel) (by decide +kernel)
set_option maxRecDepth 20000 in
theorem gX9_newPot_X2_init : GoodIn wsX9_newPot (wsX2_init) := ggX9_newPot_X2_init
set_option maxRecDepth 20000 in
theorem ggX9_newPot_X6_init : GoodIn wsX9_newPot wsX6_init := goodIn_r _ [32, 33, 20, 15, 21, 22, 23, 24, 25, 26, 27, 28, 29, 64, 65, 66, 67, 68, 69, 70, 43, 44, 45, 46, 47, 48, 49, 71, 72, 73, 74, 75, 76, 77, 50, 51, 52, 53, 54, 55, 56, 57, 58, 59, 60, 61, 62, 63] (by decide +kernel) (by decide +kernel)
set_option maxRecDepth 20000 in
theorem gX9_newPot_X6_init : GoodIn wsX9_newPot (wsX6_init) := ggX9_newPot_X6_init
set_option maxRecDepth 20000 in
theorem ggX9_newPot_X7_init : GoodIn wsX9_newPot wsX7_init := goodIn_r _ [36, 37, 20, 15, 21, 22, 23, 24, 25, 26, 27, 28, 29, 64, 65, 66, 67, 68, 69, 70, 43, 44, 45, 46, 47, 48, 49, 71, 72, 73, 74, 75, 76, 77, 50, 51, 52, 53, 54, 55, 56, 57, 58, 59, 60, 61, 62, 63] (by decide +kernel) (by decide +kernel)
set_option maxRecDepth 20000 in
theorem gX9_newPot_X7_init : GoodIn wsX9_newPot (wsX7_init) := ggX9_newPot_X7_init
set_option maxRecDepth 20000 in
theorem ggX9_newPot_X0_init : GoodIn wsX9_newPot wsX0_init := goodIn_r _ [40, 41, 31, 6, 32, 33, 20, 15, 21, 22, 23, 24, 25, 26, 27, 28, 29, 64, 65, 66, 67, 68, 69, 70, 43, 44, 45, 46, 47, 48, 49, 71, 72, 73, 74, 75, 76, 77, 50, 51, 52, 53, 54, 55, 56, 57, 58, 59, 60, 61, 62, 63] (by decide +kernel) (by decide +kernel)
set_option maxRecDepth 20000 in
theorem gX9_newPot_X0_init : GoodIn wsX9_newPot (wsX0_init) := ggX9_newPot_X0_init
set_option maxRecDepth 20000 in
theorem ggX9_newPot_X5_init : GoodIn wsX9_newPot wsX5_init := goodIn_r _ [21, 22, 23, 24, 25, 26, 27, 28, 29, 64, 65, 66, 67, 68, 69, 70, 43, 44, 45, 46, 47, 48, 49, 71, 72, 73, 74, 75, 76, 77, 50, 51, 52, 53, 54, 55, 56, 57, 58, 59, 60, 61, 62, 63] (by decide +kernel) (by decide +kernel)
set_option maxRecDepth 20000 in
theorem gX9_newPot_X5_init : GoodIn wsX9_newPot (wsX5_init) := ggX9_newPot_X5_init
theorem dX9_newPot_0 : decode cX9_newPot 0 = .ok (.iload_n 0, 1) := by decide +kernel
theorem dX9_newPot_1 : decode cX9_newPot 1 = .ok (.tableswitch 67 1 4 #[31, 40, 49, 58], 31) := by decide +kernel
theorem dX9_newPot_32 : decode cX9_newPot 32 = .ok (.new 120, 3) := by decide +kernel
theorem dX9_newPot_35 : decode cX9_newPot 35 = .ok (.dup, 1) := by decide +kernel
theorem dX9_newPot_36 : decode cX9_newPot 36 = .ok (.iload_n 1, 1) := by decide +kernel
theorem dX9_newPot_37 : decode cX9_newPot 37 = .ok (.invokespecial 122, 3) := by decide +kernel
theorem dX9_newPot_40 : decode cX9_newPot 40 = .ok (.areturn, 1) := by decide +kernel
theorem dX9_newPot_41 : decode cX9_newPot 41 = .ok (.new 125, 3) := by decide +kernel
theorem dX9_newPot_44 : decode cX9_newPot 44 = .ok (.dup, 1) := by decide +kernel
theorem dX9_newPot_45 : decode cX9_newPot 45 = .ok (.iload_n 1, 1) := by decide +kernel
theorem dX9_newPot_46 : decode cX9_newPot 46 = .ok (.invokespecial 127, 3) := by decide +kernel
theorem dX9_newPot_49 : decode cX9_newPot 49 = .ok (.areturn, 1) := by decide +kernel
theorem dX9_newPot_50 : decode cX9_newPot 50 = .ok (.new 128, 3) := by decide +kernel
theorem dX9_newPot_53 : decode cX9_newPot 53 = .ok (.dup, 1) := by decide +kernel
theorem dX9_newPot_54 : decode cX9_newPot 54 = .ok (.iload_n 1, 1) := by decide +kernel
theorem dX9_newPot_55 : decode cX9_newPot 55 = .ok (.invokespecial 130, 3) := by decide +kernel
theorem dX9_newPot_58 : decode cX9_newPot 58 = .ok (.areturn, 1) := by decide +kernel
theorem dX9_newPot_59 : decode cX9_newPot 59 = .ok (.new 131, 3) := by decide +kernel
theorem dX9_newPot_62 : decode cX9_newPot 62 = .ok (.dup, 1) := by decide +kernel
theorem dX9_newPot_63 : decode cX9_newPot 63 = .ok (.iload_n 1, 1) := by decide +kernel
theorem dX9_newPot_64 : decode cX9_newPot 64 = .ok (.invokespecial 133, 3) := by decide +kernel
theorem dX9_newPot_67 : decode cX9_newPot 67 = .ok (.areturn, 1) := by decide +kernel
theorem dX9_newPot_68 : decode cX9_newPot 68 = .ok (.new 16, 3) := by decide +kernel
theorem dX9_newPot_71 : decode cX9_newPot 71 = .ok (.dup, 1) := by decide +kernel
theorem dX9_newPot_72 : decode cX9_newPot 72 = .ok (.iload_n 1, 1) := by decide +kernel
end
section
theorem dX9_newPot_73 : decode cX9_newPot 73 = .ok (.invokespecial 134, 3) := by decide +kernel
theorem dX9_newPot_76 : decode cX9_newPot 76 = .ok (.areturn, 1) := by decide +kernel
theorem dX9_hasKitchen_0 : decode cX9_hasKitchen 0 = .ok (.aload_n 0, 1) := by decide +kernel
theorem dX9_hasKitchen_1 : decode cX9_hasKitchen 1 = .ok (.getfield 83, 3) := by decide +kernel
theorem dX9_hasKitchen_4 : decode cX9_hasKitchen 4 = .ok (.ifCond .le 7, 3) := by decide +kernel
theorem dX9_hasKitchen_7 : decode cX9_hasKitchen 7 = .ok (.iconst 1, 1) := by decide +kernel
theorem dX9_hasKitchen_8 : decode cX9_hasKitchen 8 = .ok (.goto 4, 3) := by decide +kernel
theorem dX9_hasKitchen_11 : decode cX9_hasKitchen 11 = .ok (.iconst 0, 1) := by decide +kernel
theorem dX9_hasKitchen_12 : decode cX9_hasKitchen 12 = .ok (.ireturn, 1) := by decide +kernel
theorem dX9_potAt_0 : decode cX9_potAt 0 = .ok (.iload_n 1, 1) := by decide +kernel
theorem dX9_potAt_1 : decode cX9_potAt 1 = .ok (.ifCond .lt 20, 3) := by decide +kernel
theorem dX9_potAt_4 : decode cX9_potAt 4 = .ok (.iload_n 1, 1) := by decide +kernel
theorem dX9_potAt_5 : decode cX9_potAt 5 = .ok (.aload_n 0, 1) := by decide +kernel
theorem dX9_potAt_6 : decode cX9_potAt 6 = .ok (.getfield 83, 3) := by decide +kernel
theorem dX9_potAt_9 : decode cX9_potAt 9 = .ok (.if_icmp .ge 12, 3) := by decide +kernel
theorem dX9_potAt_12 : decode cX9_potAt 12 = .ok (.iload_n 1, 1) := by decide +kernel
theorem dX9_potAt_13 : decode cX9_potAt 13 = .ok (.aload_n 0, 1) := by decide +kernel
theorem dX9_potAt_14 : decode cX9_potAt 14 = .ok (.getfield 18, 3) := by decide +kernel
theorem dX9_potAt_17 : decode cX9_potAt 17 = .ok (.arraylength, 1) := by decide +kernel
theorem dX9_potAt_18 : decode cX9_potAt 18 = .ok (.if_icmp .lt 5, 3) := by decide +kernel
theorem dX9_potAt_21 : decode cX9_potAt 21 = .ok (.aconst_null, 1) := by decide +kernel
theorem dX9_potAt_22 : decode cX9_potAt 22 = .ok (.areturn, 1) := by decide +kernel
theorem dX9_potAt_23 : decode cX9_potAt 23 = .ok (.aload_n 0, 1) := by decide +kernel
theorem dX9_potAt_24 : decode cX9_potAt 24 = .ok (.getfield 18, 3) := by decide +kernel
theorem dX9_potAt_27 : decode cX9_potAt 27 = .ok (.iload_n 1, 1) := by decide +kernel
theorem dX9_potAt_28 : decode cX9_potAt 28 = .ok (.aaload, 1) := by decide +kernel
theorem dX9_potAt_29 : decode cX9_potAt 29 = .ok (.areturn, 1) := by decide +kernel
set_option maxRecDepth 20000 in
theorem ggX9_about_X9_potAt : GoodIn wsX9_about wsX9_potAt := goodIn_r _ [10, 11, 12, 132, 133, 134, 135, 136, 137, 138, 139, 140, 141, 142, 143, 144, 145, 146, 147, 148, 149] (by decide +kernel) (by decide +kernel)
set_option maxRecDepth 20000 in
theorem gX9_about_X9_potAt : GoodIn wsX9_about (wsV RX9 135 RX9 yX9_potAt wsX9_potAt) := goodIn_app (goodIn_of _ (by decide +kernel)) ggX9_about_X9_potAt
set_option maxRecDepth 20000 in
theorem ggX9_about_X0_kind : GoodIn wsX9_about wsX0_kind := goodIn_r _ [19] (by decide +kernel) (by decide +kernel)
set_option maxRecDepth 20000 in
theorem gX9_about_X0_kind_u139X0 : GoodIn wsX9_about (va_wsO RX9 139 RX0 "OneTimer$Pot" ⟨"OneTimer$Pot", "kind", "()I"⟩ yX0_kind wsX0_kind) := goodIn_app (goodIn_of _ (by decide +kernel)) ggX9_about_X0_kind
set_option maxRecDepth 20000 in
theorem ggX9_about_X2_kind : GoodIn wsX9_about wsX2_kind := goodIn_r _ [24] (by decide +kernel) (by decide +kernel)
set_option maxRecDepth 20000 in
theorem gX9_about_X2_kind_u139X2 : GoodIn wsX9_about (va_wsO RX9 139 RX2 "OneTimer$Pot" ⟨"OneTimer$Pot", "kind", "()I"⟩ yX2_kind wsX2_kind) := goodIn_app (goodIn_of _ (by decide +kernel)) ggX9_about_X2_kind
set_option maxRecDepth 20000 in
theorem ggX9_about_X5_kind : GoodIn wsX9_about wsX5_kind := goodIn_r _ [20] (by decide +kernel) (by decide +kernel)
set_option maxRecDepth 20000 in
theorem gX9_about_X5_kind : GoodIn wsX9_about (wsV RX9 139 RX5 yX5_kind wsX5_kind) := goodIn_app (goodIn_of _ (by decide +kernel)) ggX9_about_X5_kind
set_option maxRecDepth 20000 in
theorem ggX9_about_X6_kind : GoodIn wsX9_about wsX6_kind := goodIn_r _ [32] (by decide +kernel) (by decide +kernel)
set_option maxRecDepth 20000 in
theorem gX9_about_X6_kind_u139X6 : GoodIn wsX9_about (va_wsO RX9 139 RX6 "OneTimer$Pot" ⟨"OneTimer$Pot", "kind", "()I"⟩ yX6_kind wsX6_kind) := goodIn_app (goodIn_of _ (by decide +kernel)) ggX9_about_X6_kind
set_option maxRecDepth 20000 in
theorem ggX9_about_X7_kind : GoodIn wsX9_about wsX7_kind := goodIn_r _ [36] (by decide +kernel) (by decide +kernel)
set_option maxRecDepth 20000 in
theorem gX9_about_X7_kind_u139X7 : GoodIn wsX9_about (va_wsO RX9 139 RX7 "OneTimer$Pot" ⟨"OneTimer$Pot", "kind", "()I"⟩ yX7_kind wsX7_kind) := goodIn_app (goodIn_of _ (by decide +kernel)) ggX9_about_X7_kind
set_option maxRecDepth 20000 in
theorem ggX9_about_X0_keeps : GoodIn wsX9_about wsX0_keeps := goodIn_r _ [42, 43, 44, 45, 46, 31, 47] (by decide +kernel) (by decide +kernel)
set_option maxRecDepth 20000 in
theorem gX9_about_X0_keeps_u145X0 : GoodIn wsX9_about (va_wsO RX9 145 RX0 "OneTimer$Pot" ⟨"OneTimer$Pot", "keeps", "()I"⟩ yX0_keeps wsX0_keeps) := goodIn_app (goodIn_of _ (by decide +kernel)) ggX9_about_X0_keeps
set_option maxRecDepth 20000 in
theorem ggX9_about_X2_keeps : GoodIn wsX9_about wsX2_keeps := goodIn_r _ [51] (by decide +kernel) (by decide +kernel)
set_option maxRecDepth 20000 in
theorem gX9_about_X2_keeps_u145X2 : GoodIn wsX9_about (va_wsO RX9 145 RX2 "OneTimer$Pot" ⟨"OneTimer$Pot", "keeps", "()I"⟩ yX2_keeps wsX2_keeps) := goodIn_app (goodIn_of _ (by decide +kernel)) ggX9_about_X2_keeps
set_option maxRecDepth 20000 in
theorem ggX9_about_X5_keeps : GoodIn wsX9_about wsX5_keeps := goodIn_r _ [48] (by decide +kernel) (by decide +kernel)
set_option maxRecDepth 20000 in
theorem gX9_about_X5_keeps : GoodIn wsX9_about (wsV RX9 145 RX5 yX5_keeps wsX5_keeps) := goodIn_app (goodIn_of _ (by decide +kernel)) ggX9_about_X5_keeps
set_option maxRecDepth 20000 in
theorem ggX9_about_X6_keeps : GoodIn wsX9_about wsX6_keeps := goodIn_r _ [47] (by decide +kernel) (by decide +kernel)
set_option maxRecDepth 20000 in
theorem gX9_about_X6_keeps_u145X6 : GoodIn wsX9_about (va_wsO RX9 145 RX6 "OneTimer$Pot" ⟨"OneTimer$Pot", "keeps", "()I"⟩ yX6_keeps wsX6_keeps) := goodIn_app (goodIn_of _ (by decide +kernel)) ggX9_about_X6_keeps
set_option maxRecDepth 20000 in
theorem ggX9_about_X7_keeps : GoodIn wsX9_about wsX7_keeps := goodIn_r _ [58] (by decide +kernel) (by decide +kernel)
set_option maxRecDepth 20000 in
theorem gX9_about_X7_keeps_u145X7 : GoodIn wsX9_about (va_wsO RX9 145 RX7 "OneTimer$Pot" ⟨"OneTimer$Pot", "keeps", "()I"⟩ yX7_keeps wsX7_keeps) := goodIn_app (goodIn_of _ (by decide +kernel)) ggX9_about_X7_keeps
set_option maxRecDepth 20000 in
theorem ggX9_about_X5_boils : GoodIn wsX9_about wsX5_boils := goodIn_r _ [63, 64, 97, 98, 99, 100, 101, 102, 103, 104, 105, 106, 107, 108, 109, 110, 111, 112, 113, 114, 115, 116, 117, 118, 119, 120, 121, 122, 123, 124, 125, 126, 127, 128, 129, 130, 131] (by decide +kernel) (by decide +kernel)
set_option maxRecDepth 20000 in
theorem gX9_about_X5_boils_u151X0 : GoodIn wsX9_about (va_wsU RX9 151 RX0 "OneTimer$Pot" ⟨"OneTimer$Pot", "boils", "()Z"⟩ yX5_boils wsX5_boils) := goodIn_app (goodIn_of _ (by decide +kernel)) ggX9_about_X5_boils
set_option maxRecDepth 20000 in
theorem gX9_about_X5_boils_u151X2 : GoodIn wsX9_about (va_wsU RX9 151 RX2 "OneTimer$Pot" ⟨"OneTimer$Pot", "boils", "()Z"⟩ yX5_boils wsX5_boils) := goodIn_app (goodIn_of _ (by decide +kernel)) ggX9_about_X5_boils
set_option maxRecDepth 20000 in
theorem gX9_about_X5_boils : GoodIn wsX9_about (wsV RX9 151 RX5 yX5_boils wsX5_boils) := goodIn_app (goodIn_of _ (by decide +kernel)) ggX9_about_X5_boils
set_option maxRecDepth 20000 in
theorem gX9_about_X5_boils_u151X6 : GoodIn wsX9_about (va_wsU RX9 151 RX6 "OneTimer$Pot" ⟨"OneTimer$Pot", "boils", "()Z"⟩ yX5_boils wsX5_boils) := goodIn_app (goodIn_of _ (by decide +kernel)) ggX9_about_X5_boils
set_option maxRecDepth 20000 in
theorem gX9_about_X5_boils_u151X7 : GoodIn wsX9_about (va_wsU RX9 151 RX7 "OneTimer$Pot" ⟨"OneTimer$Pot", "boils", "()Z"⟩ yX5_boils wsX5_boils) := goodIn_app (goodIn_of _ (by decide +kernel)) ggX9_about_X5_boils
set_option maxRecDepth 20000 in
theorem ggX9_about_X5_due : GoodIn wsX9_about wsX5_due := goodIn_r _ [74, 64, 75, 97, 98, 99, 100, 101, 102, 103, 104, 105, 106, 107, 108, 109, 110, 111, 112, 113, 114, 115, 116, 117, 118, 119, 120, 121, 122, 123, 124, 125, 126, 127, 128, 129, 130, 131] (by decide +kernel) (by decide +kernel)
set_option maxRecDepth 20000 in
theorem gX9_about_X5_due_u154X0 : GoodIn wsX9_about (va_wsU RX9 154 RX0 "OneTimer$Pot" ⟨"OneTimer$Pot", "due", "()I"⟩ yX5_due wsX5_due) := goodIn_app (goodIn_of _ (by decide +kernel)) ggX9_about_X5_due
set_option maxRecDepth 20000 in
theorem gX9_about_X5_due_u154X2 : GoodIn wsX9_about (va_wsU RX9 154 RX2 "OneTimer$Pot" ⟨"OneTimer$Pot", "due", "()I"⟩ yX5_due wsX5_due) := goodIn_app (goodIn_of _ (by decide +kernel)) ggX9_about_X5_due
set_option maxRecDepth 20000 in
theorem gX9_about_X5_due : GoodIn wsX9_about (wsV RX9 154 RX5 yX5_due wsX5_due) := goodIn_app (goodIn_of _ (by decide +kernel)) ggX9_about_X5_due
set_option maxRecDepth 20000 in
theorem gX9_about_X5_due_u154X6 : GoodIn wsX9_about (va_wsU RX9 154 RX6 "OneTimer$Pot" ⟨"OneTimer$Pot", "due", "()I"⟩ yX5_due wsX5_due) := goodIn_app (goodIn_of _ (by decide +kernel)) ggX9_about_X5_due
set_option maxRecDepth 20000 in
theorem gX9_about_X5_due_u154X7 : GoodIn wsX9_about (va_wsU RX9 154 RX7 "OneTimer$Pot" ⟨"OneTimer$Pot", "due", "()I"⟩ yX5_due wsX5_due) := goodIn_app (goodIn_of _ (by decide +kernel)) ggX9_about_X5_due
set_option maxRecDepth 20000 in
theorem ggX9_about_X5_outAt : GoodIn wsX9_about wsX5_outAt := goodIn_r _ [85, 86, 71, 72, 73, 28, 74, 64, 75, 76, 87, 78, 79, 80, 88, 38, 39, 40, 41, 18, 42, 43, 44, 45, 46, 31, 47, 48, 49, 50, 23, 51, 89, 53, 54, 55, 56, 57, 35, 58, 90, 9, 91, 97, 98, 99, 100, 101, 102, 103, 104, 105, 106, 107, 108, 109, 110, 111, 112, 113, 114, 115, 116, 117, 118, 119, 120, 121, 122, 123, 124, 125, 126, 127, 128, 129, 130, 131] (by decide +kernel) (by decide +kernel)
set_option maxRecDepth 20000 in
theorem gX9_about_X5_outAt_u157X0 : GoodIn wsX9_about (va_wsU RX9 157 RX0 "OneTimer$Pot" ⟨"OneTimer$Pot", "outAt", "(I)I"⟩ yX5_outAt wsX5_outAt) := goodIn_app (goodIn_of _ (by decide +kernel)) ggX9_about_X5_outAt
set_option maxRecDepth 20000 in
theorem gX9_about_X5_outAt_u157X2 : GoodIn wsX9_about (va_wsU RX9 157 RX2 "OneTimer$Pot" ⟨"OneTimer$Pot", "outAt", "(I)I"⟩ yX5_outAt wsX5_outAt) := goodIn_app (goodIn_of _ (by decide +kernel)) ggX9_about_X5_outAt
set_option maxRecDepth 20000 in
theorem gX9_about_X5_outAt : GoodIn wsX9_about (wsV RX9 157 RX5 yX5_outAt wsX5_outAt) := goodIn_app (goodIn_of _ (by decide +kernel)) ggX9_about_X5_outAt
set_option maxRecDepth 20000 in
theorem gX9_about_X5_outAt_u157X6 : GoodIn wsX9_about (va_wsU RX9 157 RX6 "OneTimer$Pot" ⟨"OneTimer$Pot", "outAt", "(I)I"⟩ yX5_outAt wsX5_outAt) := goodIn_app (goodIn_of _ (by decide +kernel)) ggX9_about_X5_outAt
set_option maxRecDepth 20000 in
theorem gX9_about_X5_outAt_u157X7 : GoodIn wsX9_about (va_wsU RX9 157 RX7 "OneTimer$Pot" ⟨"OneTimer$Pot", "outAt", "(I)I"⟩ yX5_outAt wsX5_outAt) := goodIn_app (goodIn_of _ (by decide +kernel)) ggX9_about_X5_outAt
theorem dX9_about_0 : decode cX9_about 0 = .ok (.aload_n 0, 1) := by decide +kernel
theorem dX9_about_1 : decode cX9_about 1 = .ok (.iload_n 1, 1) := by decide +kernel
theorem dX9_about_2 : decode cX9_about 2 = .ok (.invokevirtual 135, 3) := by decide +kernel
theorem dX9_about_5 : decode cX9_about 5 = .ok (.astore_n 3, 1) := by decide +kernel
theorem dX9_about_6 : decode cX9_about 6 = .ok (.aload_n 3, 1) := by decide +kernel
theorem dX9_about_7 : decode cX9_about 7 = .ok (.ifnonnull 6, 3) := by decide +kernel
theorem dX9_about_10 : decode cX9_about 10 = .ok (.bipush (-101), 2) := by decide +kernel
theorem dX9_about_12 : decode cX9_about 12 = .ok (.ireturn, 1) := by decide +kernel
theorem dX9_about_13 : decode cX9_about 13 = .ok (.iload_n 2, 1) := by decide +kernel
theorem dX9_about_14 : decode cX9_about 14 = .ok (.tableswitch 112 0 7 #[46, 51, 56, 61, 66, 82, 102, 107], 46) := by decide +kernel
theorem dX9_about_60 : decode cX9_about 60 = .ok (.aload_n 3, 1) := by decide +kernel
theorem dX9_about_61 : decode cX9_about 61 = .ok (.invokevirtual 139, 3) := by decide +kernel
theorem dX9_about_64 : decode cX9_about 64 = .ok (.ireturn, 1) := by decide +kernel
theorem dX9_about_65 : decode cX9_about 65 = .ok (.aload_n 3, 1) := by decide +kernel
theorem dX9_about_66 : decode cX9_about 66 = .ok (.getfield 142, 3) := by decide +kernel
theorem dX9_about_69 : decode cX9_about 69 = .ok (.ireturn, 1) := by decide +kernel
theorem dX9_about_70 : decode cX9_about 70 = .ok (.aload_n 3, 1) := by decide +kernel
theorem dX9_about_71 : decode cX9_about 71 = .ok (.invokevirtual 145, 3) := by decide +kernel
theorem dX9_about_74 : decode cX9_about 74 = .ok (.ireturn, 1) := by decide +kernel
theorem dX9_about_75 : decode cX9_about 75 = .ok (.aload_n 3, 1) := by decide +kernel
theorem dX9_about_76 : decode cX9_about 76 = .ok (.getfield 148, 3) := by decide +kernel
theorem dX9_about_79 : decode cX9_about 79 = .ok (.ireturn, 1) := by decide +kernel
theorem dX9_about_80 : decode cX9_about 80 = .ok (.aload_n 3, 1) := by decide +kernel
theorem dX9_about_81 : decode cX9_about 81 = .ok (.invokevirtual 151, 3) := by decide +kernel
theorem dX9_about_84 : decode cX9_about 84 = .ok (.ifCond .eq 10, 3) := by decide +kernel
theorem dX9_about_87 : decode cX9_about 87 = .ok (.aload_n 3, 1) := by decide +kernel
theorem dX9_about_88 : decode cX9_about 88 = .ok (.invokevirtual 154, 3) := by decide +kernel
theorem dX9_about_91 : decode cX9_about 91 = .ok (.goto 4, 3) := by decide +kernel
theorem dX9_about_94 : decode cX9_about 94 = .ok (.iconst (-1), 1) := by decide +kernel
theorem dX9_about_95 : decode cX9_about 95 = .ok (.ireturn, 1) := by decide +kernel
theorem dX9_about_96 : decode cX9_about 96 = .ok (.aload_n 3, 1) := by decide +kernel
theorem dX9_about_97 : decode cX9_about 97 = .ok (.invokevirtual 151, 3) := by decide +kernel
theorem dX9_about_100 : decode cX9_about 100 = .ok (.ifCond .eq 14, 3) := by decide +kernel
theorem dX9_about_103 : decode cX9_about 103 = .ok (.aload_n 3, 1) := by decide +kernel
theorem dX9_about_104 : decode cX9_about 104 = .ok (.aload_n 0, 1) := by decide +kernel
theorem dX9_about_105 : decode cX9_about 105 = .ok (.getfield 106, 3) := by decide +kernel
theorem dX9_about_108 : decode cX9_about 108 = .ok (.invokevirtual 157, 3) := by decide +kernel
theorem dX9_about_111 : decode cX9_about 111 = .ok (.goto 4, 3) := by decide +kernel
theorem dX9_about_114 : decode cX9_about 114 = .ok (.iconst (-1), 1) := by decide +kernel
theorem dX9_about_115 : decode cX9_about 115 = .ok (.ireturn, 1) := by decide +kernel
theorem dX9_about_116 : decode cX9_about 116 = .ok (.aload_n 3, 1) := by decide +kernel
theorem dX9_about_117 : decode cX9_about 117 = .ok (.getfield 160, 3) := by decide +kernel
theorem dX9_about_120 : decode cX9_about 120 = .ok (.ireturn, 1) := by decide +kernel
theorem dX9_about_121 : decode cX9_about 121 = .ok (.aload_n 3, 1) := by decide +kernel
theorem dX9_about_122 : decode cX9_about 122 = .ok (.getfield 163, 3) := by decide +kernel
theorem dX9_about_125 : decode cX9_about 125 = .ok (.ireturn, 1) := by decide +kernel
theorem dX9_about_126 : decode cX9_about 126 = .ok (.bipush (-102), 2) := by decide +kernel
theorem dX9_about_128 : decode cX9_about 128 = .ok (.ireturn, 1) := by decide +kernel
set_option maxRecDepth 20000 in
theorem ggX9_as_X9_potAt : GoodIn wsX9_as wsX9_potAt := goodIn_r _ [5, 6, 7, 15, 16, 17, 18, 19, 20, 21, 22, 23, 24, 25, 26, 27, 28, 29, 30, 31, 32] (by decide +kernel) (by decide +kernel)
set_option maxRecDepth 20000 in
theorem gX9_as_X9_potAt : GoodIn wsX9_as (wsV RX9 135 RX9 yX9_potAt wsX9_potAt) := goodIn_app (goodIn_of _ (by decide +kernel)) ggX9_as_X9_potAt
set_option maxRecDepth 20000 in
theorem ggX9_as_X9_isOfKind : GoodIn wsX9_as wsX9_isOfKind := goodIn_r _ [10, 11, 12, 13, 14] (by decide +kernel) (by decide +kernel)
set_option maxRecDepth 20000 in
theorem gX9_as_X9_isOfKind : GoodIn wsX9_as (va_wsS RX9 166 yX9_isOfKind wsX9_isOfKind) := goodIn_app (goodIn_of _ (by decide +kernel)) ggX9_as_X9_isOfKind
theorem dX9_as_0 : decode cX9_as 0 = .ok (.aload_n 0, 1) := by decide +kernel
theorem dX9_as_1 : decode cX9_as 1 = .ok (.iload_n 1, 1) := by decide +kernel
theorem dX9_as_2 : decode cX9_as 2 = .ok (.invokevirtual 135, 3) := by decide +kernel
theorem dX9_as_5 : decode cX9_as 5 = .ok (.astore_n 3, 1) := by decide +kernel
theorem dX9_as_6 : decode cX9_as 6 = .ok (.aload_n 3, 1) := by decide +kernel
theorem dX9_as_7 : decode cX9_as 7 = .ok (.ifnonnull 6, 3) := by decide +kernel
theorem dX9_as_10 : decode cX9_as 10 = .ok (.bipush (-101), 2) := by decide +kernel
theorem dX9_as_12 : decode cX9_as 12 = .ok (.ireturn, 1) := by decide +kernel
theorem dX9_as_13 : decode cX9_as 13 = .ok (.iload_n 2, 1) := by decide +kernel
theorem dX9_as_14 : decode cX9_as 14 = .ok (.ifCond .lt 8, 3) := by decide +kernel
theorem dX9_as_17 : decode cX9_as 17 = .ok (.iload_n 2, 1) := by decide +kernel
theorem dX9_as_18 : decode cX9_as 18 = .ok (.iconst 4, 1) := by decide +kernel
theorem dX9_as_19 : decode cX9_as 19 = .ok (.if_icmp .le 6, 3) := by decide +kernel
theorem dX9_as_22 : decode cX9_as 22 = .ok (.bipush (-102), 2) := by decide +kernel
theorem dX9_as_24 : decode cX9_as 24 = .ok (.ireturn, 1) := by decide +kernel
theorem dX9_as_25 : decode cX9_as 25 = .ok (.aload_n 3, 1) := by decide +kernel
theorem dX9_as_26 : decode cX9_as 26 = .ok (.iload_n 2, 1) := by decide +kernel
theorem dX9_as_27 : decode cX9_as 27 = .ok (.invokestatic 166, 3) := by decide +kernel
theorem dX9_as_30 : decode cX9_as 30 = .ok (.ifCond .eq 7, 3) := by decide +kernel
theorem dX9_as_33 : decode cX9_as 33 = .ok (.iload_n 1, 1) := by decide +kernel
theorem dX9_as_34 : decode cX9_as 34 = .ok (.goto 4, 3) := by decide +kernel
theorem dX9_as_37 : decode cX9_as 37 = .ok (.iconst (-1), 1) := by decide +kernel
theorem dX9_as_38 : decode cX9_as 38 = .ok (.ireturn, 1) := by decide +kernel
theorem dX9_isOfKind_0 : decode cX9_isOfKind 0 = .ok (.iload_n 1, 1) := by decide +kernel
theorem dX9_isOfKind_1 : decode cX9_isOfKind 1 = .ok (.tableswitch 51 1 4 #[31, 36, 41, 46], 31) := by decide +kernel
theorem dX9_isOfKind_32 : decode cX9_isOfKind 32 = .ok (.aload_n 0, 1) := by decide +kernel
theorem dX9_isOfKind_33 : decode cX9_isOfKind 33 = .ok (.instanceof 120, 3) := by decide +kernel
theorem dX9_isOfKind_36 : decode cX9_isOfKind 36 = .ok (.ireturn, 1) := by decide +kernel
theorem dX9_isOfKind_37 : decode cX9_isOfKind 37 = .ok (.aload_n 0, 1) := by decide +kernel
theorem dX9_isOfKind_38 : decode cX9_isOfKind 38 = .ok (.instanceof 125, 3) := by decide +kernel
theorem dX9_isOfKind_41 : decode cX9_isOfKind 41 = .ok (.ireturn, 1) := by decide +kernel
theorem dX9_isOfKind_42 : decode cX9_isOfKind 42 = .ok (.aload_n 0, 1) := by decide +kernel
theorem dX9_isOfKind_43 : decode cX9_isOfKind 43 = .ok (.instanceof 128, 3) := by decide +kernel
theorem dX9_isOfKind_46 : decode cX9_isOfKind 46 = .ok (.ireturn, 1) := by decide +kernel
theorem dX9_isOfKind_47 : decode cX9_isOfKind 47 = .ok (.aload_n 0, 1) := by decide +kernel
theorem dX9_isOfKind_48 : decode cX9_isOfKind 48 = .ok (.instanceof 131, 3) := by decide +kernel
theorem dX9_isOfKind_51 : decode cX9_isOfKind 51 = .ok (.ireturn, 1) := by decide +kernel
theorem dX9_isOfKind_52 : decode cX9_isOfKind 52 = .ok (.iconst 1, 1) := by decide +kernel
theorem dX9_isOfKind_53 : decode cX9_isOfKind 53 = .ok (.ireturn, 1) := by decide +kernel
set_option maxRecDepth 20000 in
theorem ggX9_boil_X9_potAt : GoodIn wsX9_boil wsX9_potAt := goodIn_r _ [7, 8, 9, 33, 34, 35, 36, 37, 38, 39, 40, 41, 42, 43, 44, 45, 46, 47, 48, 49, 50] (by decide +kernel) (by decide +kernel)
set_option maxRecDepth 20000 in
theorem gX9_boil_X9_potAt : GoodIn wsX9_boil (wsV RX9 135 RX9 yX9_potAt wsX9_potAt) := goodIn_app (goodIn_of _ (by decide +kernel)) ggX9_boil_X9_potAt
set_option maxRecDepth 20000 in
theorem ggX9_boil_X5_boils : GoodIn wsX9_boil wsX5_boils := goodIn_r _ [15, 16, 51, 52, 53, 54, 55, 56, 57, 58, 59, 60, 61, 62, 63, 64, 65, 66, 67, 68, 69, 70, 71, 72, 73, 74, 75, 76, 77, 78, 79, 80, 81, 82, 83, 84, 85] (by decide +kernel) (by decide +kernel)
set_option maxRecDepth 20000 in
theorem gX9_boil_X5_boils_u151X0 : GoodIn wsX9_boil (va_wsU RX9 151 RX0 "OneTimer$Pot" ⟨"OneTimer$Pot", "boils", "()Z"⟩ yX5_boils wsX5_boils) := goodIn_app (goodIn_of _ (by decide +kernel)) ggX9_boil_X5_boils
set_option maxRecDepth 20000 in
theorem gX9_boil_X5_boils_u151X2 : GoodIn wsX9_boil (va_wsU RX9 151 RX2 "OneTimer$Pot" ⟨"OneTimer$Pot", "boils", "()Z"⟩ yX5_boils wsX5_boils) := goodIn_app (goodIn_of _ (by decide +kernel)) ggX9_boil_X5_boils
set_option maxRecDepth 20000 in
theorem gX9_boil_X5_boils : GoodIn wsX9_boil (wsV RX9 151 RX5 yX5_boils wsX5_boils) := goodIn_app (goodIn_of _ (by decide +kernel)) ggX9_boil_X5_boils
set_option maxRecDepth 20000 in
theorem gX9_boil_X5_boils_u151X6 : GoodIn wsX9_boil (va_wsU RX9 151 RX6 "OneTimer$Pot" ⟨"OneTimer$Pot", "boils", "()Z"⟩ yX5_boils wsX5_boils) := goodIn_app (goodIn_of _ (by decide +kernel)) ggX9_boil_X5_boils
set_option maxRecDepth 20000 in
theorem gX9_boil_X5_boils_u151X7 : GoodIn wsX9_boil (va_wsU RX9 151 RX7 "OneTimer$Pot" ⟨"OneTimer$Pot", "boils", "()Z"⟩ yX5_boils wsX5_boils) := goodIn_app (goodIn_of _ (by decide +kernel)) ggX9_boil_X5_boils
set_option maxRecDepth 20000 in
theorem ggX9_boil_X5_due : GoodIn wsX9_boil wsX5_due := goodIn_r _ [26, 16, 27, 51, 52, 53, 54, 55, 56, 57, 58, 59, 60, 61, 62, 63, 64, 65, 66, 67, 68, 69, 70, 71, 72, 73, 74, 75, 76, 77, 78, 79, 80, 81, 82, 83, 84, 85] (by decide +kernel) (by decide +kernel)
set_option maxRecDepth 20000 in
theorem gX9_boil_X5_due_u154X0 : GoodIn wsX9_boil (va_wsU RX9 154 RX0 "OneTimer$Pot" ⟨"OneTimer$Pot", "due", "()I"⟩ yX5_due wsX5_due) := goodIn_app (goodIn_of _ (by decide +kernel)) ggX9_boil_X5_due
set_option maxRecDepth 20000 in
theorem gX9_boil_X5_due_u154X2 : GoodIn wsX9_boil (va_wsU RX9 154 RX2 "OneTimer$Pot" ⟨"OneTimer$Pot", "due", "()I"⟩ yX5_due wsX5_due) := goodIn_app (goodIn_of _ (by decide +kernel)) ggX9_boil_X5_due
set_option maxRecDepth 20000 in
theorem gX9_boil_X5_due : GoodIn wsX9_boil (wsV RX9 154 RX5 yX5_due wsX5_due) := goodIn_app (goodIn_of _ (by decide +kernel)) ggX9_boil_X5_due
set_option maxRecDepth 20000 in
theorem gX9_boil_X5_due_u154X6 : GoodIn wsX9_boil (va_wsU RX9 154 RX6 "OneTimer$Pot" ⟨"OneTimer$Pot", "due", "()I"⟩ yX5_due wsX5_due) := goodIn_app (goodIn_of _ (by decide +kernel)) ggX9_boil_X5_due
set_option maxRecDepth 20000 in
theorem gX9_boil_X5_due_u154X7 : GoodIn wsX9_boil (va_wsU RX9 154 RX7 "OneTimer$Pot" ⟨"OneTimer$Pot", "due", "()I"⟩ yX5_due wsX5_due) := goodIn_app (goodIn_of _ (by decide +kernel)) ggX9_boil_X5_due
theorem dX9_boil_0 : decode cX9_boil 0 = .ok (.aload_n 0, 1) := by decide +kernel
theorem dX9_boil_1 : decode cX9_boil 1 = .ok (.iload_n 1, 1) := by decide +kernel
theorem dX9_boil_2 : decode cX9_boil 2 = .ok (.invokevirtual 135, 3) := by decide +kernel
theorem dX9_boil_5 : decode cX9_boil 5 = .ok (.astore_n 2, 1) := by decide +kernel
theorem dX9_boil_6 : decode cX9_boil 6 = .ok (.aload_n 2, 1) := by decide +kernel
theorem dX9_boil_7 : decode cX9_boil 7 = .ok (.ifnonnull 6, 3) := by decide +kernel
theorem dX9_boil_10 : decode cX9_boil 10 = .ok (.bipush (-101), 2) := by decide +kernel
theorem dX9_boil_12 : decode cX9_boil 12 = .ok (.ireturn, 1) := by decide +kernel
theorem dX9_boil_13 : decode cX9_boil 13 = .ok (.aload_n 2, 1) := by decide +kernel
theorem dX9_boil_14 : decode cX9_boil 14 = .ok (.invokevirtual 151, 3) := by decide +kernel
theorem dX9_boil_17 : decode cX9_boil 17 = .ok (.ifCond .eq 6, 3) := by decide +kernel
theorem dX9_boil_20 : decode cX9_boil 20 = .ok (.bipush (-103), 2) := by decide +kernel
theorem dX9_boil_22 : decode cX9_boil 22 = .ok (.ireturn, 1) := by decide +kernel
theorem dX9_boil_23 : decode cX9_boil 23 = .ok (.aload_n 2, 1) := by decide +kernel
theorem dX9_boil_24 : decode cX9_boil 24 = .ok (.aload_n 0, 1) := by decide +kernel
theorem dX9_boil_25 : decode cX9_boil 25 = .ok (.getfield 106, 3) := by decide +kernel
theorem dX9_boil_28 : decode cX9_boil 28 = .ok (.putfield 148, 3) := by decide +kernel
theorem dX9_boil_31 : decode cX9_boil 31 = .ok (.aload_n 2, 1) := by decide +kernel
theorem dX9_boil_32 : decode cX9_boil 32 = .ok (.invokevirtual 154, 3) := by decide +kernel
theorem dX9_boil_35 : decode cX9_boil 35 = .ok (.ireturn, 1) := by decide +kernel
set_option maxRecDepth 20000 in
theorem ggX9_wind_X9_hasKitchen : GoodIn wsX9_wind wsX9_hasKitchen := goodIn_r _ [10, 11, 12, 13, 14, 15, 16, 17, 18, 19, 20, 21, 22, 23, 24, 25, 26, 27, 28, 29] (by decide +kernel) (by decide +kernel)
set_option maxRecDepth 20000 in
theorem gX9_wind_X9_hasKitchen : GoodIn wsX9_wind (wsV RX9 170 RX9 yX9_hasKitchen wsX9_hasKitchen) := goodIn_app (goodIn_of _ (by decide +kernel)) ggX9_wind_X9_hasKitchen
theorem dX9_wind_0 : decode cX9_wind 0 = .ok (.iload_n 1, 1) := by decide +kernel
theorem dX9_wind_1 : decode cX9_wind 1 = .ok (.iconst 1, 1) := by decide +kernel
theorem dX9_wind_2 : decode cX9_wind 2 = .ok (.if_icmp .lt 23, 3) := by decide +kernel
theorem dX9_wind_5 : decode cX9_wind 5 = .ok (.iload_n 1, 1) := by decide +kernel
theorem dX9_wind_6 : decode cX9_wind 6 = .ok (.aload_n 0, 1) := by decide +kernel
theorem dX9_wind_7 : decode cX9_wind 7 = .ok (.invokevirtual 170, 3) := by decide +kernel
theorem dX9_wind_10 : decode cX9_wind 10 = .ok (.ifCond .eq 10, 3) := by decide +kernel
theorem dX9_wind_13 : decode cX9_wind 13 = .ok (.aload_n 0, 1) := by decide +kernel
theorem dX9_wind_14 : decode cX9_wind 14 = .ok (.getfield 68, 3) := by decide +kernel
theorem dX9_wind_17 : decode cX9_wind 17 = .ok (.goto 5, 3) := by decide +kernel
theorem dX9_wind_20 : decode cX9_wind 20 = .ok (.bipush 60, 2) := by decide +kernel
theorem dX9_wind_22 : decode cX9_wind 22 = .ok (.if_icmp .le 6, 3) := by decide +kernel
theorem dX9_wind_25 : decode cX9_wind 25 = .ok (.bipush (-102), 2) := by decide +kernel
theorem dX9_wind_27 : decode cX9_wind 27 = .ok (.ireturn, 1) := by decide +kernel
theorem dX9_wind_28 : decode cX9_wind 28 = .ok (.aload_n 0, 1) := by decide +kernel
theorem dX9_wind_29 : decode cX9_wind 29 = .ok (.invokevirtual 170, 3) := by decide +kernel
theorem dX9_wind_32 : decode cX9_wind 32 = .ok (.ifCond .eq 15, 3) := by decide +kernel
theorem dX9_wind_35 : decode cX9_wind 35 = .ok (.aload_n 0, 1) := by decide +kernel
theorem dX9_wind_36 : decode cX9_wind 36 = .ok (.getfield 106, 3) := by decide +kernel
theorem dX9_wind_39 : decode cX9_wind 39 = .ok (.iload_n 1, 1) := by decide +kernel
theorem dX9_wind_40 : decode cX9_wind 40 = .ok (.iadd, 1) := by decide +kernel
theorem dX9_wind_41 : decode cX9_wind 41 = .ok (.sipush 999, 3) := by decide +kernel
theorem dX9_wind_44 : decode cX9_wind 44 = .ok (.if_icmp .le 6, 3) := by decide +kernel
theorem dX9_wind_47 : decode cX9_wind 47 = .ok (.bipush (-103), 2) := by decide +kernel
theorem dX9_wind_49 : decode cX9_wind 49 = .ok (.ireturn, 1) := by decide +kernel
theorem dX9_wind_50 : decode cX9_wind 50 = .ok (.aload_n 0, 1) := by decide +kernel
theorem dX9_wind_51 : decode cX9_wind 51 = .ok (.dup, 1) := by decide +kernel
theorem dX9_wind_52 : decode cX9_wind 52 = .ok (.getfield 106, 3) := by decide +kernel
theorem dX9_wind_55 : decode cX9_wind 55 = .ok (.iload_n 1, 1) := by decide +kernel
theorem dX9_wind_56 : decode cX9_wind 56 = .ok (.iadd, 1) := by decide +kernel
theorem dX9_wind_57 : decode cX9_wind 57 = .ok (.putfield 106, 3) := by decide +kernel
theorem dX9_wind_60 : decode cX9_wind 60 = .ok (.aload_n 0, 1) := by decide +kernel
theorem dX9_wind_61 : decode cX9_wind 61 = .ok (.aload_n 0, 1) := by decide +kernel
theorem dX9_wind_62 : decode cX9_wind 62 = .ok (.getfield 74, 3) := by decide +kernel
theorem dX9_wind_65 : decode cX9_wind 65 = .ok (.putfield 109, 3) := by decide +kernel
theorem dX9_wind_68 : decode cX9_wind 68 = .ok (.aload_n 0, 1) := by decide +kernel
theorem dX9_wind_69 : decode cX9_wind 69 = .ok (.dup, 1) := by decide +kernel
theorem dX9_wind_70 : decode cX9_wind 70 = .ok (.getfield 112, 3) := by decide +kernel
theorem dX9_wind_73 : decode cX9_wind 73 = .ok (.iconst 1, 1) := by decide +kernel
theorem dX9_wind_74 : decode cX9_wind 74 = .ok (.iadd, 1) := by decide +kernel
theorem dX9_wind_75 : decode cX9_wind 75 = .ok (.putfield 112, 3) := by decide +kernel
theorem dX9_wind_78 : decode cX9_wind 78 = .ok (.aload_n 0, 1) := by decide +kernel
theorem dX9_wind_79 : decode cX9_wind 79 = .ok (.getfield 106, 3) := by decide +kernel
theorem dX9_wind_82 : decode cX9_wind 82 = .ok (.ireturn, 1) := by decide +kernel
set_option maxRecDepth 20000 in
theorem ggX9_take_X9_potAt : GoodIn wsX9_take wsX9_potAt := goodIn_r _ [8, 9, 10, 84, 85, 86, 87, 88, 89, 90, 91, 92, 93, 94, 95, 96, 97, 98, 99, 100, 101] (by decide +kernel) (by decide +kernel)
set_option maxRecDepth 20000 in
theorem gX9_take_X9_potAt : GoodIn wsX9_take (wsV RX9 135 RX9 yX9_potAt wsX9_potAt) := goodIn_app (goodIn_of _ (by decide +kernel)) ggX9_take_X9_potAt
set_option maxRecDepth 20000 in
theorem ggX9_take_X5_boils : GoodIn wsX9_take wsX5_boils := goodIn_r _ [16, 17, 102, 103, 104, 105, 106, 107, 108, 109, 110, 111, 112, 113, 114, 115, 116, 117, 118, 119, 120, 121, 122, 123, 124, 125, 126, 127, 128, 129, 130, 131, 132, 133, 134, 135, 136] (by decide +kernel) (by decide +kernel)
set_option maxRecDepth 20000 in
theorem gX9_take_X5_boils_u151X0 : GoodIn wsX9_take (va_wsU RX9 151 RX0 "OneTimer$Pot" ⟨"OneTimer$Pot", "boils", "()Z"⟩ yX5_boils wsX5_boils) := goodIn_app (goodIn_of _ (by decide +kernel)) ggX9_take_X5_boils
set_option maxRecDepth 20000 in
theorem gX9_take_X5_boils_u151X2 : GoodIn wsX9_take (va_wsU RX9 151 RX2 "OneTimer$Pot" ⟨"OneTimer$Pot", "boils", "()Z"⟩ yX5_boils wsX5_boils) := goodIn_app (goodIn_of _ (by decide +kernel)) ggX9_take_X5_boils
set_option maxRecDepth 20000 in
theorem gX9_take_X5_boils : GoodIn wsX9_take (wsV RX9 151 RX5 yX5_boils wsX5_boils) := goodIn_app (goodIn_of _ (by decide +kernel)) ggX9_take_X5_boils
set_option maxRecDepth 20000 in
theorem gX9_take_X5_boils_u151X6 : GoodIn wsX9_take (va_wsU RX9 151 RX6 "OneTimer$Pot" ⟨"OneTimer$Pot", "boils", "()Z"⟩ yX5_boils wsX5_boils) := goodIn_app (goodIn_of _ (by decide +kernel)) ggX9_take_X5_boils
set_option maxRecDepth 20000 in
theorem gX9_take_X5_boils_u151X7 : GoodIn wsX9_take (va_wsU RX9 151 RX7 "OneTimer$Pot" ⟨"OneTimer$Pot", "boils", "()Z"⟩ yX5_boils wsX5_boils) := goodIn_app (goodIn_of _ (by decide +kernel)) ggX9_take_X5_boils
set_option maxRecDepth 20000 in
theorem ggX9_take_X5_comeOut : GoodIn wsX9_take wsX5_comeOut := goodIn_r _ [27, 28, 29, 17, 30, 31, 32, 33, 15, 34, 35, 36, 37, 38, 39, 40, 41, 42, 43, 44, 45, 46, 47, 48, 49, 50, 51, 52, 53, 54, 55, 56, 57, 58, 59, 60, 61, 62, 63, 64, 65, 66, 67, 68, 69, 70, 71, 72, 7, 73, 74, 75, 76, 77, 78, 102, 103, 104, 105, 106, 107, 108, 109, 110, 111, 112, 113, 114, 115, 116, 117, 118, 119, 120, 121, 122, 123, 124, 125, 126, 127, 128, 129, 130, 131, 132, 133, 134, 135, 136] (by decide +kernel) (by decide +kernel)
set_option maxRecDepth 20000 in
theorem gX9_take_X5_comeOut_u173X0 : GoodIn wsX9_take (va_wsU RX9 173 RX0 "OneTimer$Pot" ⟨"OneTimer$Pot", "comeOut", "(I)V"⟩ yX5_comeOut wsX5_comeOut) := goodIn_app (goodIn_of _ (by decide +kernel)) ggX9_take_X5_comeOut
set_option maxRecDepth 20000 in
theorem gX9_take_X5_comeOut_u173X2 : GoodIn wsX9_take (va_wsU RX9 173 RX2 "OneTimer$Pot" ⟨"OneTimer$Pot", "comeOut", "(I)V"⟩ yX5_comeOut wsX5_comeOut) := goodIn_app (goodIn_of _ (by decide +kernel)) ggX9_take_X5_comeOut
set_option maxRecDepth 20000 in
theorem gX9_take_X5_comeOut : GoodIn wsX9_take (wsV RX9 173 RX5 yX5_comeOut wsX5_comeOut) := goodIn_app (goodIn_of _ (by decide +kernel)) ggX9_take_X5_comeOut
set_option maxRecDepth 20000 in
theorem gX9_take_X5_comeOut_u173X6 : GoodIn wsX9_take (va_wsU RX9 173 RX6 "OneTimer$Pot" ⟨"OneTimer$Pot", "comeOut", "(I)V"⟩ yX5_comeOut wsX5_comeOut) := goodIn_app (goodIn_of _ (by decide +kernel)) ggX9_take_X5_comeOut
set_option maxRecDepth 20000 in
theorem gX9_take_X5_comeOut_u173X7 : GoodIn wsX9_take (va_wsU RX9 173 RX7 "OneTimer$Pot" ⟨"OneTimer$Pot", "comeOut", "(I)V"⟩ yX5_comeOut wsX5_comeOut) := goodIn_app (goodIn_of _ (by decide +kernel)) ggX9_take_X5_comeOut
theorem dX9_take_0 : decode cX9_take 0 = .ok (.aload_n 0, 1) := by decide +kernel
theorem dX9_take_1 : decode cX9_take 1 = .ok (.iload_n 1, 1) := by decide +kernel
theorem dX9_take_2 : decode cX9_take 2 = .ok (.invokevirtual 135, 3) := by decide +kernel
theorem dX9_take_5 : decode cX9_take 5 = .ok (.astore_n 2, 1) := by decide +kernel
theorem dX9_take_6 : decode cX9_take 6 = .ok (.aload_n 2, 1) := by decide +kernel
theorem dX9_take_7 : decode cX9_take 7 = .ok (.ifnonnull 6, 3) := by decide +kernel
theorem dX9_take_10 : decode cX9_take 10 = .ok (.bipush (-101), 2) := by decide +kernel
theorem dX9_take_12 : decode cX9_take 12 = .ok (.ireturn, 1) := by decide +kernel
theorem dX9_take_13 : decode cX9_take 13 = .ok (.aload_n 2, 1) := by decide +kernel
theorem dX9_take_14 : decode cX9_take 14 = .ok (.invokevirtual 151, 3) := by decide +kernel
theorem dX9_take_17 : decode cX9_take 17 = .ok (.ifCond .eq 11, 3) := by decide +kernel
theorem dX9_take_20 : decode cX9_take 20 = .ok (.aload_n 0, 1) := by decide +kernel
theorem dX9_take_21 : decode cX9_take 21 = .ok (.getfield 109, 3) := by decide +kernel
theorem dX9_take_24 : decode cX9_take 24 = .ok (.iconst 1, 1) := by decide +kernel
theorem dX9_take_25 : decode cX9_take 25 = .ok (.if_icmp .ge 6, 3) := by decide +kernel
theorem dX9_take_28 : decode cX9_take 28 = .ok (.bipush (-103), 2) := by decide +kernel
theorem dX9_take_30 : decode cX9_take 30 = .ok (.ireturn, 1) := by decide +kernel
theorem dX9_take_31 : decode cX9_take 31 = .ok (.aload_n 0, 1) := by decide +kernel
theorem dX9_take_32 : decode cX9_take 32 = .ok (.dup, 1) := by decide +kernel
theorem dX9_take_33 : decode cX9_take 33 = .ok (.getfield 109, 3) := by decide +kernel
theorem dX9_take_36 : decode cX9_take 36 = .ok (.iconst 1, 1) := by decide +kernel
theorem dX9_take_37 : decode cX9_take 37 = .ok (.isub, 1) := by decide +kernel
theorem dX9_take_38 : decode cX9_take 38 = .ok (.putfield 109, 3) := by decide +kernel
theorem dX9_take_41 : decode cX9_take 41 = .ok (.aload_n 2, 1) := by decide +kernel
theorem dX9_take_42 : decode cX9_take 42 = .ok (.aload_n 0, 1) := by decide +kernel
theorem dX9_take_43 : decode cX9_take 43 = .ok (.getfield 106, 3) := by decide +kernel
theorem dX9_take_46 : decode cX9_take 46 = .ok (.invokevirtual 173, 3) := by decide +kernel
theorem dX9_take_49 : decode cX9_take 49 = .ok (.aload_n 2, 1) := by decide +kernel
theorem dX9_take_50 : decode cX9_take 50 = .ok (.getfield 163, 3) := by decide +kernel
theorem dX9_take_53 : decode cX9_take 53 = .ok (.ireturn, 1) := by decide +kernel
set_option maxRecDepth 20000 in
theorem ggX9_plan_X9_hasKitchen : GoodIn wsX9_plan wsX9_hasKitchen := goodIn_r _ [12, 6, 139, 140, 141, 142, 143, 144, 145, 146, 147, 148, 149, 150, 151, 152, 153, 154, 155, 156] (by decide +kernel) (by decide +kernel)
set_option maxRecDepth 20000 in
theorem gX9_plan_X9_hasKitchen : GoodIn wsX9_plan (wsV RX9 170 RX9 yX9_hasKitchen wsX9_hasKitchen) := goodIn_app (goodIn_of _ (by decide +kernel)) ggX9_plan_X9_hasKitchen
set_option maxRecDepth 20000 in
theorem ggX9_plan_X4_begin : GoodIn wsX9_plan wsX4_begin := goodIn_r _ [17, 18, 19, 20, 21, 22, 157, 158, 159, 160, 161, 162, 163, 164, 165] (by decide +kernel) (by decide +kernel)
set_option maxRecDepth 20000 in
theorem gX9_plan_X4_begin : GoodIn wsX9_plan (wsV RX9 179 RX4 yX4_begin wsX4_begin) := goodIn_app (goodIn_of _ (by decide +kernel)) ggX9_plan_X4_begin
set_option maxRecDepth 20000 in
theorem ggX9_plan_X9_potAt : GoodIn wsX9_plan wsX9_potAt := goodIn_r _ [26, 6, 27, 139, 140, 141, 142, 143, 144, 145, 146, 147, 148, 149, 150, 151, 152, 153, 154, 155, 156] (by decide +kernel) (by decide +kernel)
set_option maxRecDepth 20000 in
theorem gX9_plan_X9_potAt : GoodIn wsX9_plan (wsV RX9 135 RX9 yX9_potAt wsX9_potAt) := goodIn_app (goodIn_of _ (by decide +kernel)) ggX9_plan_X9_potAt
set_option maxRecDepth 20000 in
theorem ggX9_plan_X5_boils : GoodIn wsX9_plan wsX5_boils := goodIn_r _ [33, 34, 166, 167, 168, 169, 170, 171, 172, 173, 174, 175, 176, 177, 178, 179, 180, 181, 182, 183, 184, 185, 186, 187, 188, 189, 190, 191, 192, 193, 194, 195, 196, 197, 198, 199, 200] (by decide +kernel) (by decide +kernel)
set_option maxRecDepth 20000 in
theorem gX9_plan_X5_boils_u151X0 : GoodIn wsX9_plan (va_wsU RX9 151 RX0 "OneTimer$Pot" ⟨"OneTimer$Pot", "boils", "()Z"⟩ yX5_boils wsX5_boils) := goodIn_app (goodIn_of _ (by decide +kernel)) ggX9_plan_X5_boils
set_option maxRecDepth 20000 in
theorem gX9_plan_X5_boils_u151X2 : GoodIn wsX9_plan (va_wsU RX9 151 RX2 "OneTimer$Pot" ⟨"OneTimer$Pot", "boils", "()Z"⟩ yX5_boils wsX5_boils) := goodIn_app (goodIn_of _ (by decide +kernel)) ggX9_plan_X5_boils
set_option maxRecDepth 20000 in
theorem gX9_plan_X5_boils : GoodIn wsX9_plan (wsV RX9 151 RX5 yX5_boils wsX5_boils) := goodIn_app (goodIn_of _ (by decide +kernel)) ggX9_plan_X5_boils
set_option maxRecDepth 20000 in
theorem gX9_plan_X5_boils_u151X6 : GoodIn wsX9_plan (va_wsU RX9 151 RX6 "OneTimer$Pot" ⟨"OneTimer$Pot", "boils", "()Z"⟩ yX5_boils wsX5_boils) := goodIn_app (goodIn_of _ (by decide +kernel)) ggX9_plan_X5_boils
set_option maxRecDepth 20000 in
theorem gX9_plan_X5_boils_u151X7 : GoodIn wsX9_plan (va_wsU RX9 151 RX7 "OneTimer$Pot" ⟨"OneTimer$Pot", "boils", "()Z"⟩ yX5_boils wsX5_boils) := goodIn_app (goodIn_of _ (by decide +kernel)) ggX9_plan_X5_boils
set_option maxRecDepth 20000 in
theorem ggX9_plan_X5_due : GoodIn wsX9_plan wsX5_due := goodIn_r _ [44, 34, 45, 166, 167, 168, 169, 170, 171, 172, 173, 174, 175, 176, 177, 178, 179, 180, 181, 182, 183, 184, 185, 186, 187, 188, 189, 190, 191, 192, 193, 194, 195, 196, 197, 198, 199, 200] (by decide +kernel) (by decide +kernel)
set_option maxRecDepth 20000 in
theorem gX9_plan_X5_due_u154X0 : GoodIn wsX9_plan (va_wsU RX9 154 RX0 "OneTimer$Pot" ⟨"OneTimer$Pot", "due", "()I"⟩ yX5_due wsX5_due) := goodIn_app (goodIn_of _ (by decide +kernel)) ggX9_plan_X5_due
set_option maxRecDepth 20000 in
theorem gX9_plan_X5_due_u154X2 : GoodIn wsX9_plan (va_wsU RX9 154 RX2 "OneTimer$Pot" ⟨"OneTimer$Pot", "due", "()I"⟩ yX5_due wsX5_due) := goodIn_app (goodIn_of _ (by decide +kernel)) ggX9_plan_X5_due
set_option maxRecDepth 20000 in
theorem gX9_plan_X5_due : GoodIn wsX9_plan (wsV RX9 154 RX5 yX5_due wsX5_due) := goodIn_app (goodIn_of _ (by decide +kernel)) ggX9_plan_X5_due
set_option maxRecDepth 20000 in
theorem gX9_plan_X5_due_u154X6 : GoodIn wsX9_plan (va_wsU RX9 154 RX6 "OneTimer$Pot" ⟨"OneTimer$Pot", "due", "()I"⟩ yX5_due wsX5_due) := goodIn_app (goodIn_of _ (by decide +kernel)) ggX9_plan_X5_due
set_option maxRecDepth 20000 in
theorem gX9_plan_X5_due_u154X7 : GoodIn wsX9_plan (va_wsU RX9 154 RX7 "OneTimer$Pot" ⟨"OneTimer$Pot", "due", "()I"⟩ yX5_due wsX5_due) := goodIn_app (goodIn_of _ (by decide +kernel)) ggX9_plan_X5_due
set_option maxRecDepth 20000 in
theorem ggX9_plan_X0_keeps : GoodIn wsX9_plan wsX0_keeps := goodIn_r _ [57, 58, 59, 60, 61, 62, 63] (by decide +kernel) (by decide +kernel)
set_option maxRecDepth 20000 in
theorem gX9_plan_X0_keeps_u145X0 : GoodIn wsX9_plan (va_wsO RX9 145 RX0 "OneTimer$Pot" ⟨"OneTimer$Pot", "keeps", "()I"⟩ yX0_keeps wsX0_keeps) := goodIn_app (goodIn_of _ (by decide +kernel)) ggX9_plan_X0_keeps
set_option maxRecDepth 20000 in
theorem ggX9_plan_X2_keeps : GoodIn wsX9_plan wsX2_keeps := goodIn_r _ [68] (by decide +kernel) (by decide +kernel)
set_option maxRecDepth 20000 in
theorem gX9_plan_X2_keeps_u145X2 : GoodIn wsX9_plan (va_wsO RX9 145 RX2 "OneTimer$Pot" ⟨"OneTimer$Pot", "keeps", "()I"⟩ yX2_keeps wsX2_keeps) := goodIn_app (goodIn_of _ (by decide +kernel)) ggX9_plan_X2_keeps
set_option maxRecDepth 20000 in
theorem ggX9_plan_X5_keeps : GoodIn wsX9_plan wsX5_keeps := goodIn_r _ [64] (by decide +kernel) (by decide +kernel)
set_option maxRecDepth 20000 in
theorem gX9_plan_X5_keeps : GoodIn wsX9_plan (wsV RX9 145 RX5 yX5_keeps wsX5_keeps) := goodIn_app (goodIn_of _ (by decide +kernel)) ggX9_plan_X5_keeps
set_option maxRecDepth 20000 in
theorem ggX9_plan_X6_keeps : GoodIn wsX9_plan wsX6_keeps := goodIn_r _ [63] (by decide +kernel) (by decide +kernel)
set_option maxRecDepth 20000 in
theorem gX9_plan_X6_keeps_u145X6 : GoodIn wsX9_plan (va_wsO RX9 145 RX6 "OneTimer$Pot" ⟨"OneTimer$Pot", "keeps", "()I"⟩ yX6_keeps wsX6_keeps) := goodIn_app (goodIn_of _ (by decide +kernel)) ggX9_plan_X6_keeps
set_option maxRecDepth 20000 in
theorem ggX9_plan_X7_keeps : GoodIn wsX9_plan wsX7_keeps := goodIn_r _ [76] (by decide +kernel) (by decide +kernel)
set_option maxRecDepth 20000 in
theorem gX9_plan_X7_keeps_u145X7 : GoodIn wsX9_plan (va_wsO RX9 145 RX7 "OneTimer$Pot" ⟨"OneTimer$Pot", "keeps", "()I"⟩ yX7_keeps wsX7_keeps) := goodIn_app (goodIn_of _ (by decide +kernel)) ggX9_plan_X7_keeps
set_option maxRecDepth 20000 in
theorem ggX9_plan_X4_add : GoodIn wsX9_plan wsX4_add := goodIn_r _ [80, 18, 81, 82, 19, 83, 84, 85, 86, 87, 88, 89, 157, 158, 159, 160, 161, 162, 163, 164, 165] (by decide +kernel) (by decide +kernel)
set_option maxRecDepth 20000 in
theorem gX9_plan_X4_add : GoodIn wsX9_plan (wsV RX9 183 RX4 yX4_add wsX4_add) := goodIn_app (goodIn_of _ (by decide +kernel)) ggX9_plan_X4_add
set_option maxRecDepth 20000 in
theorem ggX9_plan_X4_fill : GoodIn wsX9_plan wsX4_fill := goodIn_r _ [93, 19, 94, 95, 96, 16, 97, 98, 99, 22, 21, 100, 101, 102, 103, 18, 104, 105, 106, 107, 81, 82, 108, 109, 110, 111, 20, 87, 88, 85, 89, 112, 113, 114, 115, 116, 117, 118, 119, 120, 121, 122, 123, 124, 125, 157, 158, 159, 160, 161, 162, 163, 164, 165] (by decide +kernel) (by decide +kernel)
set_option maxRecDepth 20000 in
theorem gX9_plan_X4_fill : GoodIn wsX9_plan (wsV RX9 187 RX4 yX4_fill wsX4_fill) := goodIn_app (goodIn_of _ (by decide +kernel)) ggX9_plan_X4_fill
set_option maxRecDepth 20000 in
theorem ggX9_plan_X4_howFew : GoodIn wsX9_plan wsX4_howFew := goodIn_r _ [129, 99, 100, 101, 102, 16, 103, 18, 157, 158, 159, 160, 161, 162, 163, 164, 165] (by decide +kernel) (by decide +kernel)
set_option maxRecDepth 20000 in
theorem gX9_plan_X4_howFew : GoodIn wsX9_plan (wsV RX9 190 RX4 yX4_howFew wsX4_howFew) := goodIn_app (goodIn_of _ (by decide +kernel)) ggX9_plan_X4_howFew
set_option maxRecDepth 20000 in
theorem ggX9_plan_X4_first : GoodIn wsX9_plan wsX4_first := goodIn_r _ [133, 20, 19, 134, 127, 128, 16, 129, 99, 100, 101, 102, 103, 18, 135, 136, 137, 138, 22, 104, 105, 106, 107, 81, 82, 116, 117, 118, 119, 120, 121, 122, 123, 124, 125, 157, 158, 159, 160, 161, 162, 163, 164, 165] (by decide +kernel) (by decide +kernel)
set_option maxRecDepth 20000 in
theorem gX9_plan_X4_first : GoodIn wsX9_plan (wsV RX9 193 RX4 yX4_first wsX4_first) := goodIn_app (goodIn_of _ (by decide +kernel)) ggX9_plan_X4_first
theorem dX9_plan_0 : decode cX9_plan 0 = .ok (.iload_n 1, 1) := by decide +kernel
theorem dX9_plan_1 : decode cX9_plan 1 = .ok (.ifCond .lt 8, 3) := by decide +kernel
theorem dX9_plan_4 : decode cX9_plan 4 = .ok (.iload_n 1, 1) := by decide +kernel
theorem dX9_plan_5 : decode cX9_plan 5 = .ok (.iconst 1, 1) := by decide +kernel
theorem dX9_plan_6 : decode cX9_plan 6 = .ok (.if_icmp .le 6, 3) := by decide +kernel
theorem dX9_plan_9 : decode cX9_plan 9 = .ok (.bipush (-102), 2) := by decide +kernel
theorem dX9_plan_11 : decode cX9_plan 11 = .ok (.ireturn, 1) := by decide +kernel
theorem dX9_plan_12 : decode cX9_plan 12 = .ok (.aload_n 0, 1) := by decide +kernel
theorem dX9_plan_13 : decode cX9_plan 13 = .ok (.invokevirtual 170, 3) := by decide +kernel
theorem dX9_plan_16 : decode cX9_plan 16 = .ok (.ifCond .eq 12, 3) := by decide +kernel
theorem dX9_plan_19 : decode cX9_plan 19 = .ok (.aload_n 0, 1) := by decide +kernel
theorem dX9_plan_20 : decode cX9_plan 20 = .ok (.getfield 176, 3) := by decide +kernel
theorem dX9_plan_23 : decode cX9_plan 23 = .ok (.bipush 20, 2) := by decide +kernel
theorem dX9_plan_25 : decode cX9_plan 25 = .ok (.if_icmp .lt 6, 3) := by decide +kernel
theorem dX9_plan_28 : decode cX9_plan 28 = .ok (.bipush (-103), 2) := by decide +kernel
theorem dX9_plan_30 : decode cX9_plan 30 = .ok (.ireturn, 1) := by decide +kernel
theorem dX9_plan_31 : decode cX9_plan 31 = .ok (.aload_n 0, 1) := by decide +kernel
theorem dX9_plan_32 : decode cX9_plan 32 = .ok (.dup, 1) := by decide +kernel
theorem dX9_plan_33 : decode cX9_plan 33 = .ok (.getfield 176, 3) := by decide +kernel
theorem dX9_plan_36 : decode cX9_plan 36 = .ok (.iconst 1, 1) := by decide +kernel
theorem dX9_plan_37 : decode cX9_plan 37 = .ok (.iadd, 1) := by decide +kernel
theorem dX9_plan_38 : decode cX9_plan 38 = .ok (.putfield 176, 3) := by decide +kernel
theorem dX9_plan_41 : decode cX9_plan 41 = .ok (.aload_n 0, 1) := by decide +kernel
theorem dX9_plan_42 : decode cX9_plan 42 = .ok (.getfield 35, 3) := by decide +kernel
theorem dX9_plan_45 : decode cX9_plan 45 = .ok (.aload_n 0, 1) := by decide +kernel
theorem dX9_plan_46 : decode cX9_plan 46 = .ok (.getfield 68, 3) := by decide +kernel
theorem dX9_plan_49 : decode cX9_plan 49 = .ok (.aload_n 0, 1) := by decide +kernel
theorem dX9_plan_50 : decode cX9_plan 50 = .ok (.getfield 74, 3) := by decide +kernel
theorem dX9_plan_53 : decode cX9_plan 53 = .ok (.aload_n 0, 1) := by decide +kernel
theorem dX9_plan_54 : decode cX9_plan 54 = .ok (.getfield 109, 3) := by decide +kernel
theorem dX9_plan_57 : decode cX9_plan 57 = .ok (.invokevirtual 179, 3) := by decide +kernel
theorem dX9_plan_60 : decode cX9_plan 60 = .ok (.iconst 0, 1) := by decide +kernel
theorem dX9_plan_61 : decode cX9_plan 61 = .ok (.istore_n 2, 1) := by decide +kernel
theorem dX9_plan_62 : decode cX9_plan 62 = .ok (.iload_n 2, 1) := by decide +kernel
theorem dX9_plan_63 : decode cX9_plan 63 = .ok (.aload_n 0, 1) := by decide +kernel
theorem dX9_plan_64 : decode cX9_plan 64 = .ok (.getfield 83, 3) := by decide +kernel
theorem dX9_plan_67 : decode cX9_plan 67 = .ok (.if_icmp .ge 46, 3) := by decide +kernel
theorem dX9_plan_70 : decode cX9_plan 70 = .ok (.aload_n 0, 1) := by decide +kernel
theorem dX9_plan_71 : decode cX9_plan 71 = .ok (.iload_n 2, 1) := by decide +kernel
theorem dX9_plan_72 : decode cX9_plan 72 = .ok (.invokevirtual 135, 3) := by decide +kernel
theorem dX9_plan_75 : decode cX9_plan 75 = .ok (.astore_n 3, 1) := by decide +kernel
theorem dX9_plan_76 : decode cX9_plan 76 = .ok (.aload_n 3, 1) := by decide +kernel
theorem dX9_plan_77 : decode cX9_plan 77 = .ok (.ifnull 30, 3) := by decide +kernel
theorem dX9_plan_80 : decode cX9_plan 80 = .ok (.aload_n 3, 1) := by decide +kernel
theorem dX9_plan_81 : decode cX9_plan 81 = .ok (.invokevirtual 151, 3) := by decide +kernel
theorem dX9_plan_84 : decode cX9_plan 84 = .ok (.ifCond .eq 23, 3) := by decide +kernel
theorem dX9_plan_87 : decode cX9_plan 87 = .ok (.aload_n 0, 1) := by decide +kernel
theorem dX9_plan_88 : decode cX9_plan 88 = .ok (.getfield 35, 3) := by decide +kernel
theorem dX9_plan_91 : decode cX9_plan 91 = .ok (.aload_n 3, 1) := by decide +kernel
theorem dX9_plan_92 : decode cX9_plan 92 = .ok (.invokevirtual 154, 3) := by decide +kernel
theorem dX9_plan_95 : decode cX9_plan 95 = .ok (.aload_n 0, 1) := by decide +kernel
theorem dX9_plan_96 : decode cX9_plan 96 = .ok (.getfield 106, 3) := by decide +kernel
theorem dX9_plan_99 : decode cX9_plan 99 = .ok (.isub, 1) := by decide +kernel
theorem dX9_plan_100 : decode cX9_plan 100 = .ok (.aload_n 3, 1) := by decide +kernel
theorem dX9_plan_101 : decode cX9_plan 101 = .ok (.invokevirtual 145, 3) := by decide +kernel
theorem dX9_plan_104 : decode cX9_plan 104 = .ok (.invokevirtual 183, 3) := by decide +kernel
theorem dX9_plan_107 : decode cX9_plan 107 = .ok (.iinc 2 1, 3) := by decide +kernel
theorem dX9_plan_110 : decode cX9_plan 110 = .ok (.goto (-48), 3) := by decide +kernel
theorem dX9_plan_113 : decode cX9_plan 113 = .ok (.aload_n 0, 1) := by decide +kernel
theorem dX9_plan_114 : decode cX9_plan 114 = .ok (.getfield 35, 3) := by decide +kernel
theorem dX9_plan_117 : decode cX9_plan 117 = .ok (.invokevirtual 187, 3) := by decide +kernel
theorem dX9_plan_120 : decode cX9_plan 120 = .ok (.iload_n 1, 1) := by decide +kernel
theorem dX9_plan_121 : decode cX9_plan 121 = .ok (.ifCond .ne 13, 3) := by decide +kernel
theorem dX9_plan_124 : decode cX9_plan 124 = .ok (.aload_n 0, 1) := by decide +kernel
theorem dX9_plan_125 : decode cX9_plan 125 = .ok (.getfield 35, 3) := by decide +kernel
theorem dX9_plan_128 : decode cX9_plan 128 = .ok (.invokevirtual 190, 3) := by decide +kernel
theorem dX9_plan_131 : decode cX9_plan 131 = .ok (.goto 10, 3) := by decide +kernel
theorem dX9_plan_134 : decode cX9_plan 134 = .ok (.aload_n 0, 1) := by decide +kernel
theorem dX9_plan_135 : decode cX9_plan 135 = .ok (.getfield 35, 3) := by decide +kernel
theorem dX9_plan_138 : decode cX9_plan 138 = .ok (.invokevirtual 193, 3) := by decide +kernel
theorem dX9_plan_141 : decode cX9_plan 141 = .ok (.ireturn, 1) := by decide +kernel
set_option maxRecDepth 20000 in
theorem ggX9_sure_X9_potAt : GoodIn wsX9_sure wsX9_potAt := goodIn_r _ [7, 8, 9, 81, 82, 83, 84, 85, 86, 87, 88, 89, 90, 91, 92, 93, 94, 95, 96, 97, 98] (by decide +kernel) (by decide +kernel)
set_option maxRecDepth 20000 in
theorem gX9_sure_X9_potAt : GoodIn wsX9_sure (wsV RX9 135 RX9 yX9_potAt wsX9_potAt) := goodIn_app (goodIn_of _ (by decide +kernel)) ggX9_sure_X9_potAt
set_option maxRecDepth 20000 in
theorem ggX9_sure_X5_boils : GoodIn wsX9_sure wsX5_boils := goodIn_r _ [15, 16, 99, 100, 101, 102, 103, 104, 105, 106, 107, 108, 109, 110, 111, 112, 113, 114, 115, 116, 117, 118, 119, 120, 121, 122, 123, 124, 125, 126, 127, 128, 129, 130, 131, 132, 133] (by decide +kernel) (by decide +kernel)
set_option maxRecDepth 20000 in
theorem gX9_sure_X5_boils_u151X0 : GoodIn wsX9_sure (va_wsU RX9 151 RX0 "OneTimer$Pot" ⟨"OneTimer$Pot", "boils", "()Z"⟩ yX5_boils wsX5_boils) := goodIn_app (goodIn_of _ (by decide +kernel)) ggX9_sure_X5_boils
set_option maxRecDepth 20000 in
theorem gX9_sure_X5_boils_u151X2 : GoodIn wsX9_sure (va_wsU RX9 151 RX2 "OneTimer$Pot" ⟨"OneTimer$Pot", "boils", "()Z"⟩ yX5_boils wsX5_boils) := goodIn_app (goodIn_of _ (by decide +kernel)) ggX9_sure_X5_boils
set_option maxRecDepth 20000 in
theorem gX9_sure_X5_boils : GoodIn wsX9_sure (wsV RX9 151 RX5 yX5_boils wsX5_boils) := goodIn_app (goodIn_of _ (by decide +kernel)) ggX9_sure_X5_boils
set_option maxRecDepth 20000 in
theorem gX9_sure_X5_boils_u151X6 : GoodIn wsX9_sure (va_wsU RX9 151 RX6 "OneTimer$Pot" ⟨"OneTimer$Pot", "boils", "()Z"⟩ yX5_boils wsX5_boils) := goodIn_app (goodIn_of _ (by decide +kernel)) ggX9_sure_X5_boils
set_option maxRecDepth 20000 in
theorem gX9_sure_X5_boils_u151X7 : GoodIn wsX9_sure (va_wsU RX9 151 RX7 "OneTimer$Pot" ⟨"OneTimer$Pot", "boils", "()Z"⟩ yX5_boils wsX5_boils) := goodIn_app (goodIn_of _ (by decide +kernel)) ggX9_sure_X5_boils
set_option maxRecDepth 20000 in
theorem ggX9_sure_X5_sureAt : GoodIn wsX9_sure wsX5_sureAt := goodIn_r _ [26, 27, 28, 29, 30, 14, 31, 32, 33, 34, 35, 36, 16, 37, 38, 39, 40, 41, 42, 43, 44, 45, 46, 47, 48, 49, 50, 51, 52, 53, 54, 55, 56, 57, 58, 59, 60, 61, 62, 63, 64, 65, 66, 67, 68, 69, 6, 70, 71, 72, 73, 74, 75, 99, 100, 101, 102, 103, 104, 105, 106, 107, 108, 109, 110, 111, 112, 113, 114, 115, 116, 117, 118, 119, 120, 121, 122, 123, 124, 125, 126, 127, 128, 129, 130, 131, 132, 133] (by decide +kernel) (by decide +kernel)
set_option maxRecDepth 20000 in
theorem gX9_sure_X5_sureAt_u196X0 : GoodIn wsX9_sure (va_wsU RX9 196 RX0 "OneTimer$Pot" ⟨"OneTimer$Pot", "sureAt", "(I)I"⟩ yX5_sureAt wsX5_sureAt) := goodIn_app (goodIn_of _ (by decide +kernel)) ggX9_sure_X5_sureAt
set_option maxRecDepth 20000 in
theorem gX9_sure_X5_sureAt_u196X2 : GoodIn wsX9_sure (va_wsU RX9 196 RX2 "OneTimer$Pot" ⟨"OneTimer$Pot", "sureAt", "(I)I"⟩ yX5_sureAt wsX5_sureAt) := goodIn_app (goodIn_of _ (by decide +kernel)) ggX9_sure_X5_sureAt
set_option maxRecDepth 20000 in
theorem gX9_sure_X5_sureAt : GoodIn wsX9_sure (wsV RX9 196 RX5 yX5_sureAt wsX5_sureAt) := goodIn_app (goodIn_of _ (by decide +kernel)) ggX9_sure_X5_sureAt
set_option maxRecDepth 20000 in
theorem gX9_sure_X5_sureAt_u196X6 : GoodIn wsX9_sure (va_wsU RX9 196 RX6 "OneTimer$Pot" ⟨"OneTimer$Pot", "sureAt", "(I)I"⟩ yX5_sureAt wsX5_sureAt) := goodIn_app (goodIn_of _ (by decide +kernel)) ggX9_sure_X5_sureAt
set_option maxRecDepth 20000 in
theorem gX9_sure_X5_sureAt_u196X7 : GoodIn wsX9_sure (va_wsU RX9 196 RX7 "OneTimer$Pot" ⟨"OneTimer$Pot", "sureAt", "(I)I"⟩ yX5_sureAt wsX5_sureAt) := goodIn_app (goodIn_of _ (by decide +kernel)) ggX9_sure_X5_sureAt
theorem dX9_sure_0 : decode cX9_sure 0 = .ok (.aload_n 0, 1) := by decide +kernel
theorem dX9_sure_1 : decode cX9_sure 1 = .ok (.iload_n 1, 1) := by decide +kernel
theorem dX9_sure_2 : decode cX9_sure 2 = .ok (.invokevirtual 135, 3) := by decide +kernel
theorem dX9_sure_5 : decode cX9_sure 5 = .ok (.astore_n 3, 1) := by decide +kernel
theorem dX9_sure_6 : decode cX9_sure 6 = .ok (.aload_n 3, 1) := by decide +kernel
theorem dX9_sure_7 : decode cX9_sure 7 = .ok (.ifnonnull 6, 3) := by decide +kernel
theorem dX9_sure_10 : decode cX9_sure 10 = .ok (.bipush (-101), 2) := by decide +kernel
theorem dX9_sure_12 : decode cX9_sure 12 = .ok (.ireturn, 1) := by decide +kernel
theorem dX9_sure_13 : decode cX9_sure 13 = .ok (.iload_n 2, 1) := by decide +kernel
theorem dX9_sure_14 : decode cX9_sure 14 = .ok (.iconst 1, 1) := by decide +kernel
theorem dX9_sure_15 : decode cX9_sure 15 = .ok (.if_icmp .lt 11, 3) := by decide +kernel
theorem dX9_sure_18 : decode cX9_sure 18 = .ok (.iload_n 2, 1) := by decide +kernel
theorem dX9_sure_19 : decode cX9_sure 19 = .ok (.aload_n 0, 1) := by decide +kernel
theorem dX9_sure_20 : decode cX9_sure 20 = .ok (.getfield 68, 3) := by decide +kernel
theorem dX9_sure_23 : decode cX9_sure 23 = .ok (.if_icmp .le 6, 3) := by decide +kernel
theorem dX9_sure_26 : decode cX9_sure 26 = .ok (.bipush (-102), 2) := by decide +kernel
theorem dX9_sure_28 : decode cX9_sure 28 = .ok (.ireturn, 1) := by decide +kernel
theorem dX9_sure_29 : decode cX9_sure 29 = .ok (.aload_n 3, 1) := by decide +kernel
theorem dX9_sure_30 : decode cX9_sure 30 = .ok (.invokevirtual 151, 3) := by decide +kernel
theorem dX9_sure_33 : decode cX9_sure 33 = .ok (.ifCond .eq 16, 3) := by decide +kernel
theorem dX9_sure_36 : decode cX9_sure 36 = .ok (.aload_n 3, 1) := by decide +kernel
theorem dX9_sure_37 : decode cX9_sure 37 = .ok (.aload_n 0, 1) := by decide +kernel
theorem dX9_sure_38 : decode cX9_sure 38 = .ok (.getfield 106, 3) := by decide +kernel
theorem dX9_sure_41 : decode cX9_sure 41 = .ok (.iload_n 2, 1) := by decide +kernel
theorem dX9_sure_42 : decode cX9_sure 42 = .ok (.iadd, 1) := by decide +kernel
theorem dX9_sure_43 : decode cX9_sure 43 = .ok (.invokevirtual 196, 3) := by decide +kernel
theorem dX9_sure_46 : decode cX9_sure 46 = .ok (.goto 5, 3) := by decide +kernel
theorem dX9_sure_49 : decode cX9_sure 49 = .ok (.bipush (-103), 2) := by decide +kernel
theorem dX9_sure_51 : decode cX9_sure 51 = .ok (.ireturn, 1) := by decide +kernel
set_option maxRecDepth 20000 in
theorem ggX9_best_X9_potAt : GoodIn wsX9_best wsX9_potAt := goodIn_r _ [5, 6, 7, 85, 86, 87, 88, 89, 90, 91, 92, 93, 94, 95, 96, 97, 98, 99, 100, 101, 102] (by decide +kernel) (by decide +kernel)
set_option maxRecDepth 20000 in
theorem gX9_best_X9_potAt : GoodIn wsX9_best (wsV RX9 135 RX9 yX9_potAt wsX9_potAt) := goodIn_app (goodIn_of _ (by decide +kernel)) ggX9_best_X9_potAt
set_option maxRecDepth 20000 in
theorem ggX9_best_X5_boils : GoodIn wsX9_best wsX5_boils := goodIn_r _ [13, 14, 103, 104, 105, 106, 107, 108, 109, 110, 111, 112, 113, 114, 115, 116, 117, 118, 119, 120, 121, 122, 123, 124, 125, 126, 127, 128, 129, 130, 131, 132, 133, 134, 135, 136, 137] (by decide +kernel) (by decide +kernel)
set_option maxRecDepth 20000 in
theorem gX9_best_X5_boils_u151X0 : GoodIn wsX9_best (va_wsU RX9 151 RX0 "OneTimer$Pot" ⟨"OneTimer$Pot", "boils", "()Z"⟩ yX5_boils wsX5_boils) := goodIn_app (goodIn_of _ (by decide +kernel)) ggX9_best_X5_boils
set_option maxRecDepth 20000 in
theorem gX9_best_X5_boils_u151X2 : GoodIn wsX9_best (va_wsU RX9 151 RX2 "OneTimer$Pot" ⟨"OneTimer$Pot", "boils", "()Z"⟩ yX5_boils wsX5_boils) := goodIn_app (goodIn_of _ (by decide +kernel)) ggX9_best_X5_boils
set_option maxRecDepth 20000 in
theorem gX9_best_X5_boils : GoodIn wsX9_best (wsV RX9 151 RX5 yX5_boils wsX5_boils) := goodIn_app (goodIn_of _ (by decide +kernel)) ggX9_best_X5_boils
set_option maxRecDepth 20000 in
theorem gX9_best_X5_boils_u151X6 : GoodIn wsX9_best (va_wsU RX9 151 RX6 "OneTimer$Pot" ⟨"OneTimer$Pot", "boils", "()Z"⟩ yX5_boils wsX5_boils) := goodIn_app (goodIn_of _ (by decide +kernel)) ggX9_best_X5_boils
set_option maxRecDepth 20000 in
theorem gX9_best_X5_boils_u151X7 : GoodIn wsX9_best (va_wsU RX9 151 RX7 "OneTimer$Pot" ⟨"OneTimer$Pot", "boils", "()Z"⟩ yX5_boils wsX5_boils) := goodIn_app (goodIn_of _ (by decide +kernel)) ggX9_best_X5_boils
set_option maxRecDepth 20000 in
theorem ggX9_best_X9_bestWinding : GoodIn wsX9_best wsX9_bestWinding := goodIn_r _ [23, 24, 25, 26, 27, 28, 29, 12, 30, 31, 32, 33, 34, 35, 36, 37, 38, 39, 40, 14, 41, 42, 43, 44, 45, 46, 47, 48, 49, 50, 51, 52, 53, 54, 55, 56, 57, 58, 59, 60, 61, 62, 63, 64, 65, 66, 67, 68, 69, 70, 71, 72, 73, 4, 74, 75, 76, 77, 78, 79, 80, 81, 82, 83, 84, 85, 86, 87, 88, 89, 90, 91, 92, 93, 94, 95, 96, 97, 98, 99, 100, 101, 102, 103, 104, 105, 106, 107, 108, 109, 110, 111, 112, 113, 114, 115, 116, 117, 118, 119, 120, 121, 122, 123, 124, 125, 126, 127, 128, 129, 130, 131, 132, 133, 134, 135, 136, 137] (by decide +kernel) (by decide +kernel)
set_option maxRecDepth 20000 in
theorem gX9_best_X9_bestWinding : GoodIn wsX9_best (wsV RX9 199 RX9 yX9_bestWinding wsX9_bestWinding) := goodIn_app (goodIn_of _ (by decide +kernel)) ggX9_best_X9_bestWinding
theorem dX9_best_0 : decode cX9_best 0 = .ok (.aload_n 0, 1) := by decide +kernel
theorem dX9_best_1 : decode cX9_best 1 = .ok (.iload_n 1, 1) := by decide +kernel
theorem dX9_best_2 : decode cX9_best 2 = .ok (.invokevirtual 135, 3) := by decide +kernel
theorem dX9_best_5 : decode cX9_best 5 = .ok (.astore_n 2, 1) := by decide +kernel
theorem dX9_best_6 : decode cX9_best 6 = .ok (.aload_n 2, 1) := by decide +kernel
theorem dX9_best_7 : decode cX9_best 7 = .ok (.ifnonnull 6, 3) := by decide +kernel
theorem dX9_best_10 : decode cX9_best 10 = .ok (.bipush (-101), 2) := by decide +kernel
theorem dX9_best_12 : decode cX9_best 12 = .ok (.ireturn, 1) := by decide +kernel
theorem dX9_best_13 : decode cX9_best 13 = .ok (.aload_n 2, 1) := by decide +kernel
theorem dX9_best_14 : decode cX9_best 14 = .ok (.invokevirtual 151, 3) := by decide +kernel
theorem dX9_best_17 : decode cX9_best 17 = .ok (.ifCond .eq 11, 3) := by decide +kernel
theorem dX9_best_20 : decode cX9_best 20 = .ok (.aload_n 0, 1) := by decide +kernel
theorem dX9_best_21 : decode cX9_best 21 = .ok (.aload_n 2, 1) := by decide +kernel
theorem dX9_best_22 : decode cX9_best 22 = .ok (.invokevirtual 199, 3) := by decide +kernel
theorem dX9_best_25 : decode cX9_best 25 = .ok (.goto 5, 3) := by decide +kernel
theorem dX9_best_28 : decode cX9_best 28 = .ok (.bipush (-103), 2) := by decide +kernel
theorem dX9_best_30 : decode cX9_best 30 = .ok (.ireturn, 1) := by decide +kernel
set_option maxRecDepth 20000 in
theorem ggX9_bestWinding_X5_sureAt : GoodIn wsX9_bestWinding wsX5_sureAt := goodIn_r _ [8, 9, 10, 11, 12, 7, 13, 14, 15, 16, 17, 18, 19, 20, 21, 22, 23, 24, 25, 26, 27, 28, 29, 30, 31, 32, 33, 34, 35, 36, 37, 38, 39, 40, 41, 42, 43, 44, 45, 46, 47, 48, 49, 50, 51, 52, 53, 54, 55, 56, 57, 58, 59, 83, 84, 85, 86, 87, 88, 89, 90, 91, 92, 93, 94, 95, 96, 97, 98, 99, 100, 101, 102, 103, 104, 105, 106, 107, 108, 109, 110, 111, 112, 113, 114, 115, 116, 117] (by decide +kernel) (by decide +kernel)
set_option maxRecDepth 20000 in
theorem gX9_bestWinding_X5_sureAt_u196X0 : GoodIn wsX9_bestWinding (va_wsU RX9 196 RX0 "OneTimer$Pot" ⟨"OneTimer$Pot", "sureAt", "(I)I"⟩ yX5_sureAt wsX5_sureAt) := goodIn_app (goodIn_of _ (by decide +kernel)) ggX9_bestWinding_X5_sureAt
set_option maxRecDepth 20000 in
theorem gX9_bestWinding_X5_sureAt_u196X2 : GoodIn wsX9_bestWinding (va_wsU RX9 196 RX2 "OneTimer$Pot" ⟨"OneTimer$Pot", "sureAt", "(I)I"⟩ yX5_sureAt wsX5_sureAt) := goodIn_app (goodIn_of _ (by decide +kernel)) ggX9_bestWinding_X5_sureAt
set_option maxRecDepth 20000 in
theorem gX9_bestWinding_X5_sureAt : GoodIn wsX9_bestWinding (wsV RX9 196 RX5 yX5_sureAt wsX5_sureAt) := goodIn_app (goodIn_of _ (by decide +kernel)) ggX9_bestWinding_X5_sureAt
set_option maxRecDepth 20000 in
theorem gX9_bestWinding_X5_sureAt_u196X6 : GoodIn wsX9_bestWinding (va_wsU RX9 196 RX6 "OneTimer$Pot" ⟨"OneTimer$Pot", "sureAt", "(I)I"⟩ yX5_sureAt wsX5_sureAt) := goodIn_app (goodIn_of _ (by decide +kernel)) ggX9_bestWinding_X5_sureAt
set_option maxRecDepth 20000 in
theorem gX9_bestWinding_X5_sureAt_u196X7 : GoodIn wsX9_bestWinding (va_wsU RX9 196 RX7 "OneTimer$Pot" ⟨"OneTimer$Pot", "sureAt", "(I)I"⟩ yX5_sureAt wsX5_sureAt) := goodIn_app (goodIn_of _ (by decide +kernel)) ggX9_bestWinding_X5_sureAt
theorem dX9_bestWinding_0 : decode cX9_bestWinding 0 = .ok (.iconst 1, 1) := by decide +kernel
theorem dX9_bestWinding_1 : decode cX9_bestWinding 1 = .ok (.istore_n 2, 1) := by decide +kernel
theorem dX9_bestWinding_2 : decode cX9_bestWinding 2 = .ok (.aload_n 1, 1) := by decide +kernel
theorem dX9_bestWinding_3 : decode cX9_bestWinding 3 = .ok (.aload_n 0, 1) := by decide +kernel
theorem dX9_bestWinding_4 : decode cX9_bestWinding 4 = .ok (.getfield 106, 3) := by decide +kernel
theorem dX9_bestWinding_7 : decode cX9_bestWinding 7 = .ok (.iconst 1, 1) := by decide +kernel
theorem dX9_bestWinding_8 : decode cX9_bestWinding 8 = .ok (.iadd, 1) := by decide +kernel
theorem dX9_bestWinding_9 : decode cX9_bestWinding 9 = .ok (.invokevirtual 196, 3) := by decide +kernel
theorem dX9_bestWinding_12 : decode cX9_bestWinding 12 = .ok (.istore_n 3, 1) := by decide +kernel
theorem dX9_bestWinding_13 : decode cX9_bestWinding 13 = .ok (.iconst 2, 1) := by decide +kernel
theorem dX9_bestWinding_14 : decode cX9_bestWinding 14 = .ok (.istore 4, 2) := by decide +kernel
theorem dX9_bestWinding_16 : decode cX9_bestWinding 16 = .ok (.iload 4, 2) := by decide +kernel
theorem dX9_bestWinding_18 : decode cX9_bestWinding 18 = .ok (.aload_n 0, 1) := by decide +kernel
theorem dX9_bestWinding_19 : decode cX9_bestWinding 19 = .ok (.getfield 68, 3) := by decide +kernel
theorem dX9_bestWinding_22 : decode cX9_bestWinding 22 = .ok (.if_icmp .gt 34, 3) := by decide +kernel
theorem dX9_bestWinding_25 : decode cX9_bestWinding 25 = .ok (.aload_n 1, 1) := by decide +kernel
theorem dX9_bestWinding_26 : decode cX9_bestWinding 26 = .ok (.aload_n 0, 1) := by decide +kernel
theorem dX9_bestWinding_27 : decode cX9_bestWinding 27 = .ok (.getfield 106, 3) := by decide +kernel
theorem dX9_bestWinding_30 : decode cX9_bestWinding 30 = .ok (.iload 4, 2) := by decide +kernel
theorem dX9_bestWinding_32 : decode cX9_bestWinding 32 = .ok (.iadd, 1) := by decide +kernel
theorem dX9_bestWinding_33 : decode cX9_bestWinding 33 = .ok (.invokevirtual 196, 3) := by decide +kernel
theorem dX9_bestWinding_36 : decode cX9_bestWinding 36 = .ok (.istore 5, 2) := by decide +kernel
theorem dX9_bestWinding_38 : decode cX9_bestWinding 38 = .ok (.iload 5, 2) := by decide +kernel
theorem dX9_bestWinding_40 : decode cX9_bestWinding 40 = .ok (.iload_n 3, 1) := by decide +kernel
theorem dX9_bestWinding_41 : decode cX9_bestWinding 41 = .ok (.if_icmp .le 9, 3) := by decide +kernel
theorem dX9_bestWinding_44 : decode cX9_bestWinding 44 = .ok (.iload 5, 2) := by decide +kernel
theorem dX9_bestWinding_46 : decode cX9_bestWinding 46 = .ok (.istore_n 3, 1) := by decide +kernel
theorem dX9_bestWinding_47 : decode cX9_bestWinding 47 = .ok (.iload 4, 2) := by decide +kernel
theorem dX9_bestWinding_49 : decode cX9_bestWinding 49 = .ok (.istore_n 2, 1) := by decide +kernel
theorem dX9_bestWinding_50 : decode cX9_bestWinding 50 = .ok (.iinc 4 1, 3) := by decide +kernel
theorem dX9_bestWinding_53 : decode cX9_bestWinding 53 = .ok (.goto (-37), 3) := by decide +kernel
theorem dX9_bestWinding_56 : decode cX9_bestWinding 56 = .ok (.iload_n 2, 1) := by decide +kernel
theorem dX9_bestWinding_57 : decode cX9_bestWinding 57 = .ok (.ireturn, 1) := by decide +kernel
set_option maxRecDepth 20000 in
theorem ggX9_together_X9_potAt : GoodIn wsX9_together wsX9_potAt := goodIn_r _ [7, 8, 9, 45, 46, 47, 48, 49, 50, 51, 52, 53, 54, 55, 56, 57, 58, 59, 60, 61, 62] (by decide +kernel) (by decide +kernel)
set_option maxRecDepth 20000 in
theorem gX9_together_X9_potAt : GoodIn wsX9_together (wsV RX9 135 RX9 yX9_potAt wsX9_potAt) := goodIn_app (goodIn_of _ (by decide +kernel)) ggX9_together_X9_potAt
theorem dX9_together_0 : decode cX9_together 0 = .ok (.aload_n 0, 1) := by decide +kernel
theorem dX9_together_1 : decode cX9_together 1 = .ok (.iload_n 1, 1) := by decide +kernel
theorem dX9_together_2 : decode cX9_together 2 = .ok (.invokevirtual 135, 3) := by decide +kernel
theorem dX9_together_5 : decode cX9_together 5 = .ok (.astore_n 3, 1) := by decide +kernel
theorem dX9_together_6 : decode cX9_together 6 = .ok (.aload_n 3, 1) := by decide +kernel
theorem dX9_together_7 : decode cX9_together 7 = .ok (.ifnonnull 6, 3) := by decide +kernel
theorem dX9_together_10 : decode cX9_together 10 = .ok (.bipush (-101), 2) := by decide +kernel
theorem dX9_together_12 : decode cX9_together 12 = .ok (.ireturn, 1) := by decide +kernel
theorem dX9_together_13 : decode cX9_together 13 = .ok (.iload_n 2, 1) := by decide +kernel
theorem dX9_together_14 : decode cX9_together 14 = .ok (.ifCond .lt 10, 3) := by decide +kernel
theorem dX9_together_17 : decode cX9_together 17 = .ok (.iload_n 2, 1) := by decide +kernel
theorem dX9_together_18 : decode cX9_together 18 = .ok (.sipush 1200, 3) := by decide +kernel
theorem dX9_together_21 : decode cX9_together 21 = .ok (.if_icmp .le 6, 3) := by decide +kernel
theorem dX9_together_24 : decode cX9_together 24 = .ok (.bipush (-102), 2) := by decide +kernel
theorem dX9_together_26 : decode cX9_together 26 = .ok (.ireturn, 1) := by decide +kernel
theorem dX9_together_27 : decode cX9_together 27 = .ok (.iload_n 2, 1) := by decide +kernel
theorem dX9_together_28 : decode cX9_together 28 = .ok (.aload_n 3, 1) := by decide +kernel
theorem dX9_together_29 : decode cX9_together 29 = .ok (.getfield 142, 3) := by decide +kernel
theorem dX9_together_32 : decode cX9_together 32 = .ok (.isub, 1) := by decide +kernel
theorem dX9_together_33 : decode cX9_together 33 = .ok (.istore 4, 2) := by decide +kernel
theorem dX9_together_35 : decode cX9_together 35 = .ok (.iload 4, 2) := by decide +kernel
theorem dX9_together_37 : decode cX9_together 37 = .ok (.aload_n 0, 1) := by decide +kernel
theorem dX9_together_38 : decode cX9_together 38 = .ok (.getfield 106, 3) := by decide +kernel
theorem dX9_together_41 : decode cX9_together 41 = .ok (.if_icmp .lt 8, 3) := by decide +kernel
theorem dX9_together_44 : decode cX9_together 44 = .ok (.iload 4, 2) := by decide +kernel
theorem dX9_together_46 : decode cX9_together 46 = .ok (.goto 4, 3) := by decide +kernel
theorem dX9_together_49 : decode cX9_together 49 = .ok (.iconst (-1), 1) := by decide +kernel
theorem dX9_together_50 : decode cX9_together 50 = .ok (.ireturn, 1) := by decide +kernel
set_option maxRecDepth 20000 in
theorem ggX9_tell_X9_potAt : GoodIn wsX9_tell wsX9_potAt := goodIn_r _ [8, 9, 10, 69, 70, 71, 72, 73, 74, 75, 76, 77, 78, 79, 80, 81, 82, 83, 84, 85, 86] (by decide +kernel) (by decide +kernel)
set_option maxRecDepth 20000 in
theorem gX9_tell_X9_potAt : GoodIn wsX9_tell (wsV RX9 135 RX9 yX9_potAt wsX9_potAt) := goodIn_app (goodIn_of _ (by decide +kernel)) ggX9_tell_X9_potAt
set_option maxRecDepth 20000 in
theorem ggX9_tell_X5_boils : GoodIn wsX9_tell wsX5_boils := goodIn_r _ [16, 17, 91, 92, 93, 94, 95, 96, 97, 98, 99, 100, 101, 102, 103, 104, 105, 106, 107, 108, 109, 110, 111, 112, 113, 114, 115, 116, 117, 118, 119, 120, 121, 122, 123, 124, 125] (by decide +kernel) (by decide +kernel)
set_option maxRecDepth 20000 in
theorem gX9_tell_X5_boils_u151X0 : GoodIn wsX9_tell (va_wsU RX9 151 RX0 "OneTimer$Pot" ⟨"OneTimer$Pot", "boils", "()Z"⟩ yX5_boils wsX5_boils) := goodIn_app (goodIn_of _ (by decide +kernel)) ggX9_tell_X5_boils
set_option maxRecDepth 20000 in
theorem gX9_tell_X5_boils_u151X2 : GoodIn wsX9_tell (va_wsU RX9 151 RX2 "OneTimer$Pot" ⟨"OneTimer$Pot", "boils", "()Z"⟩ yX5_boils wsX5_boils) := goodIn_app (goodIn_of _ (by decide +kernel)) ggX9_tell_X5_boils
set_option maxRecDepth 20000 in
theorem gX9_tell_X5_boils : GoodIn wsX9_tell (wsV RX9 151 RX5 yX5_boils wsX5_boils) := goodIn_app (goodIn_of _ (by decide +kernel)) ggX9_tell_X5_boils
set_option maxRecDepth 20000 in
theorem gX9_tell_X5_boils_u151X6 : GoodIn wsX9_tell (va_wsU RX9 151 RX6 "OneTimer$Pot" ⟨"OneTimer$Pot", "boils", "()Z"⟩ yX5_boils wsX5_boils) := goodIn_app (goodIn_of _ (by decide +kernel)) ggX9_tell_X5_boils
set_option maxRecDepth 20000 in
theorem gX9_tell_X5_boils_u151X7 : GoodIn wsX9_tell (va_wsU RX9 151 RX7 "OneTimer$Pot" ⟨"OneTimer$Pot", "boils", "()Z"⟩ yX5_boils wsX5_boils) := goodIn_app (goodIn_of _ (by decide +kernel)) ggX9_tell_X5_boils
set_option maxRecDepth 20000 in
theorem ggX9_tell_X5_due : GoodIn wsX9_tell wsX5_due := goodIn_r _ [27, 17, 28, 91, 92, 93, 94, 95, 96, 97, 98, 99, 100, 101, 102, 103, 104, 105, 106, 107, 108, 109, 110, 111, 112, 113, 114, 115, 116, 117, 118, 119, 120, 121, 122, 123, 124, 125] (by decide +kernel) (by decide +kernel)
set_option maxRecDepth 20000 in
theorem gX9_tell_X5_due_u154X0 : GoodIn wsX9_tell (va_wsU RX9 154 RX0 "OneTimer$Pot" ⟨"OneTimer$Pot", "due", "()I"⟩ yX5_due wsX5_due) := goodIn_app (goodIn_of _ (by decide +kernel)) ggX9_tell_X5_due
set_option maxRecDepth 20000 in
theorem gX9_tell_X5_due_u154X2 : GoodIn wsX9_tell (va_wsU RX9 154 RX2 "OneTimer$Pot" ⟨"OneTimer$Pot", "due", "()I"⟩ yX5_due wsX5_due) := goodIn_app (goodIn_of _ (by decide +kernel)) ggX9_tell_X5_due
set_option maxRecDepth 20000 in
theorem gX9_tell_X5_due : GoodIn wsX9_tell (wsV RX9 154 RX5 yX5_due wsX5_due) := goodIn_app (goodIn_of _ (by decide +kernel)) ggX9_tell_X5_due
set_option maxRecDepth 20000 in
theorem gX9_tell_X5_due_u154X6 : GoodIn wsX9_tell (va_wsU RX9 154 RX6 "OneTimer$Pot" ⟨"OneTimer$Pot", "due", "()I"⟩ yX5_due wsX5_due) := goodIn_app (goodIn_of _ (by decide +kernel)) ggX9_tell_X5_due
set_option maxRecDepth 20000 in
theorem gX9_tell_X5_due_u154X7 : GoodIn wsX9_tell (va_wsU RX9 154 RX7 "OneTimer$Pot" ⟨"OneTimer$Pot", "due", "()I"⟩ yX5_due wsX5_due) := goodIn_app (goodIn_of _ (by decide +kernel)) ggX9_tell_X5_due
set_option maxRecDepth 20000 in
theorem ggX9_tell_X0_keeps : GoodIn wsX9_tell wsX0_keeps := goodIn_r _ [40, 41, 42, 43, 44, 45, 46] (by decide +kernel) (by decide +kernel)
set_option maxRecDepth 20000 in
theorem gX9_tell_X0_keeps_u145X0 : GoodIn wsX9_tell (va_wsO RX9 145 RX0 "OneTimer$Pot" ⟨"OneTimer$Pot", "keeps", "()I"⟩ yX0_keeps wsX0_keeps) := goodIn_app (goodIn_of _ (by decide +kernel)) ggX9_tell_X0_keeps
set_option maxRecDepth 20000 in
theorem ggX9_tell_X2_keeps : GoodIn wsX9_tell wsX2_keeps := goodIn_r _ [51] (by decide +kernel) (by decide +kernel)
set_option maxRecDepth 20000 in
theorem gX9_tell_X2_keeps_u145X2 : GoodIn wsX9_tell (va_wsO RX9 145 RX2 "OneTimer$Pot" ⟨"OneTimer$Pot", "keeps", "()I"⟩ yX2_keeps wsX2_keeps) := goodIn_app (goodIn_of _ (by decide +kernel)) ggX9_tell_X2_keeps
set_option maxRecDepth 20000 in
theorem ggX9_tell_X5_keeps : GoodIn wsX9_tell wsX5_keeps := goodIn_r _ [47] (by decide +kernel) (by decide +kernel)
set_option maxRecDepth 20000 in
theorem gX9_tell_X5_keeps : GoodIn wsX9_tell (wsV RX9 145 RX5 yX5_keeps wsX5_keeps) := goodIn_app (goodIn_of _ (by decide +kernel)) ggX9_tell_X5_keeps
set_option maxRecDepth 20000 in
theorem ggX9_tell_X6_keeps : GoodIn wsX9_tell wsX6_keeps := goodIn_r _ [46] (by decide +kernel) (by decide +kernel)
set_option maxRecDepth 20000 in
theorem gX9_tell_X6_keeps_u145X6 : GoodIn wsX9_tell (va_wsO RX9 145 RX6 "OneTimer$Pot" ⟨"OneTimer$Pot", "keeps", "()I"⟩ yX6_keeps wsX6_keeps) := goodIn_app (goodIn_of _ (by decide +kernel)) ggX9_tell_X6_keeps
set_option maxRecDepth 20000 in
theorem ggX9_tell_X7_keeps : GoodIn wsX9_tell wsX7_keeps := goodIn_r _ [59] (by decide +kernel) (by decide +kernel)
set_option maxRecDepth 20000 in
theorem gX9_tell_X7_keeps_u145X7 : GoodIn wsX9_tell (va_wsO RX9 145 RX7 "OneTimer$Pot" ⟨"OneTimer$Pot", "keeps", "()I"⟩ yX7_keeps wsX7_keeps) := goodIn_app (goodIn_of _ (by decide +kernel)) ggX9_tell_X7_keeps
set_option maxRecDepth 20000 in
theorem ggX9_tell_X8_add : GoodIn wsX9_tell wsX8_add := goodIn_r _ [64, 65, 66, 67, 68, 87, 88, 89, 90] (by decide +kernel) (by decide +kernel)
set_option maxRecDepth 20000 in
theorem gX9_tell_X8_add : GoodIn wsX9_tell (wsV RX9 203 RX8 yX8_add wsX8_add) := goodIn_app (goodIn_of _ (by decide +kernel)) ggX9_tell_X8_add
theorem dX9_tell_0 : decode cX9_tell 0 = .ok (.aload_n 0, 1) := by decide +kernel
end
section
theorem dX9_tell_1 : decode cX9_tell 1 = .ok (.iload_n 1, 1) := by decide +kernel
theorem dX9_tell_2 : decode cX9_tell 2 = .ok (.invokevirtual 135, 3) := by decide +kernel
theorem dX9_tell_5 : decode cX9_tell 5 = .ok (.astore_n 3, 1) := by decide +kernel
theorem dX9_tell_6 : decode cX9_tell 6 = .ok (.aload_n 3, 1) := by decide +kernel
theorem dX9_tell_7 : decode cX9_tell 7 = .ok (.ifnonnull 6, 3) := by decide +kernel
theorem dX9_tell_10 : decode cX9_tell 10 = .ok (.bipush (-101), 2) := by decide +kernel
theorem dX9_tell_12 : decode cX9_tell 12 = .ok (.ireturn, 1) := by decide +kernel
theorem dX9_tell_13 : decode cX9_tell 13 = .ok (.iload_n 2, 1) := by decide +kernel
theorem dX9_tell_14 : decode cX9_tell 14 = .ok (.bipush 50, 2) := by decide +kernel
theorem dX9_tell_16 : decode cX9_tell 16 = .ok (.if_icmp .lt 10, 3) := by decide +kernel
theorem dX9_tell_19 : decode cX9_tell 19 = .ok (.iload_n 2, 1) := by decide +kernel
theorem dX9_tell_20 : decode cX9_tell 20 = .ok (.sipush 199, 3) := by decide +kernel
theorem dX9_tell_23 : decode cX9_tell 23 = .ok (.if_icmp .le 6, 3) := by decide +kernel
theorem dX9_tell_26 : decode cX9_tell 26 = .ok (.bipush (-102), 2) := by decide +kernel
theorem dX9_tell_28 : decode cX9_tell 28 = .ok (.ireturn, 1) := by decide +kernel
theorem dX9_tell_29 : decode cX9_tell 29 = .ok (.aload_n 3, 1) := by decide +kernel
theorem dX9_tell_30 : decode cX9_tell 30 = .ok (.invokevirtual 151, 3) := by decide +kernel
theorem dX9_tell_33 : decode cX9_tell 33 = .ok (.ifCond .ne 6, 3) := by decide +kernel
theorem dX9_tell_36 : decode cX9_tell 36 = .ok (.bipush (-103), 2) := by decide +kernel
theorem dX9_tell_38 : decode cX9_tell 38 = .ok (.ireturn, 1) := by decide +kernel
theorem dX9_tell_39 : decode cX9_tell 39 = .ok (.aload_n 0, 1) := by decide +kernel
theorem dX9_tell_40 : decode cX9_tell 40 = .ok (.getfield 25, 3) := by decide +kernel
theorem dX9_tell_43 : decode cX9_tell 43 = .ok (.aload_n 3, 1) := by decide +kernel
theorem dX9_tell_44 : decode cX9_tell 44 = .ok (.invokevirtual 154, 3) := by decide +kernel
theorem dX9_tell_47 : decode cX9_tell 47 = .ok (.aload_n 0, 1) := by decide +kernel
theorem dX9_tell_48 : decode cX9_tell 48 = .ok (.getfield 106, 3) := by decide +kernel
theorem dX9_tell_51 : decode cX9_tell 51 = .ok (.isub, 1) := by decide +kernel
theorem dX9_tell_52 : decode cX9_tell 52 = .ok (.aload_n 3, 1) := by decide +kernel
theorem dX9_tell_53 : decode cX9_tell 53 = .ok (.invokevirtual 145, 3) := by decide +kernel
theorem dX9_tell_56 : decode cX9_tell 56 = .ok (.iload_n 2, 1) := by decide +kernel
theorem dX9_tell_57 : decode cX9_tell 57 = .ok (.invokevirtual 203, 3) := by decide +kernel
theorem dX9_tell_60 : decode cX9_tell 60 = .ok (.ifCond .eq 13, 3) := by decide +kernel
theorem dX9_tell_63 : decode cX9_tell 63 = .ok (.aload_n 0, 1) := by decide +kernel
theorem dX9_tell_64 : decode cX9_tell 64 = .ok (.getfield 25, 3) := by decide +kernel
theorem dX9_tell_67 : decode cX9_tell 67 = .ok (.getfield 115, 3) := by decide +kernel
theorem dX9_tell_70 : decode cX9_tell 70 = .ok (.goto 5, 3) := by decide +kernel
theorem dX9_tell_73 : decode cX9_tell 73 = .ok (.bipush (-104), 2) := by decide +kernel
theorem dX9_tell_75 : decode cX9_tell 75 = .ok (.ireturn, 1) := by decide +kernel
theorem dX9_forget_0 : decode cX9_forget 0 = .ok (.aload_n 0, 1) := by decide +kernel
theorem dX9_forget_1 : decode cX9_forget 1 = .ok (.getfield 25, 3) := by decide +kernel
theorem dX9_forget_4 : decode cX9_forget 4 = .ok (.getfield 115, 3) := by decide +kernel
theorem dX9_forget_7 : decode cX9_forget 7 = .ok (.istore_n 1, 1) := by decide +kernel
theorem dX9_forget_8 : decode cX9_forget 8 = .ok (.aload_n 0, 1) := by decide +kernel
theorem dX9_forget_9 : decode cX9_forget 9 = .ok (.getfield 25, 3) := by decide +kernel
theorem dX9_forget_12 : decode cX9_forget 12 = .ok (.iconst 0, 1) := by decide +kernel
theorem dX9_forget_13 : decode cX9_forget 13 = .ok (.putfield 115, 3) := by decide +kernel
theorem dX9_forget_16 : decode cX9_forget 16 = .ok (.iload_n 1, 1) := by decide +kernel
theorem dX9_forget_17 : decode cX9_forget 17 = .ok (.ireturn, 1) := by decide +kernel
set_option maxRecDepth 20000 in
theorem ggX9_wound_X9_hasKitchen : GoodIn wsX9_wound wsX9_hasKitchen := goodIn_r _ [5, 6, 28, 29, 30, 31, 32, 33, 34, 35, 36, 37, 38, 39, 40, 41, 42, 43, 44, 45] (by decide +kernel) (by decide +kernel)
set_option maxRecDepth 20000 in
theorem gX9_wound_X9_hasKitchen : GoodIn wsX9_wound (wsV RX9 170 RX9 yX9_hasKitchen wsX9_hasKitchen) := goodIn_app (goodIn_of _ (by decide +kernel)) ggX9_wound_X9_hasKitchen
set_option maxRecDepth 20000 in
theorem ggX9_wound_X9_windingsThatFit : GoodIn wsX9_wound wsX9_windingsThatFit := goodIn_r _ [10, 11, 12, 13, 14, 15, 16, 17, 18, 19, 20, 21, 22, 4, 23, 28, 29, 30, 31, 32, 33, 34, 35, 36, 37, 38, 39, 40, 41, 42, 43, 44, 45, 46, 47, 48, 49] (by decide +kernel) (by decide +kernel)
set_option maxRecDepth 20000 in
theorem gX9_wound_X9_windingsThatFit : GoodIn wsX9_wound (wsV RX9 206 RX9 yX9_windingsThatFit wsX9_windingsThatFit) := goodIn_app (goodIn_of _ (by decide +kernel)) ggX9_wound_X9_windingsThatFit
set_option maxRecDepth 20000 in
theorem ggX9_wound_X9_leastThatFits : GoodIn wsX9_wound wsX9_leastThatFits := goodIn_r _ [27, 11, 12, 13, 14, 15, 16, 17, 18, 19, 20, 21, 22, 4, 23, 28, 29, 30, 31, 32, 33, 34, 35, 36, 37, 38, 39, 40, 41, 42, 43, 44, 45, 46, 47, 48, 49] (by decide +kernel) (by decide +kernel)
set_option maxRecDepth 20000 in
theorem gX9_wound_X9_leastThatFits : GoodIn wsX9_wound (wsV RX9 209 RX9 yX9_leastThatFits wsX9_leastThatFits) := goodIn_app (goodIn_of _ (by decide +kernel)) ggX9_wound_X9_leastThatFits
theorem dX9_wound_0 : decode cX9_wound 0 = .ok (.iload_n 1, 1) := by decide +kernel
theorem dX9_wound_1 : decode cX9_wound 1 = .ok (.ifCond .lt 8, 3) := by decide +kernel
theorem dX9_wound_4 : decode cX9_wound 4 = .ok (.iload_n 1, 1) := by decide +kernel
theorem dX9_wound_5 : decode cX9_wound 5 = .ok (.iconst 1, 1) := by decide +kernel
theorem dX9_wound_6 : decode cX9_wound 6 = .ok (.if_icmp .le 6, 3) := by decide +kernel
theorem dX9_wound_9 : decode cX9_wound 9 = .ok (.bipush (-102), 2) := by decide +kernel
theorem dX9_wound_11 : decode cX9_wound 11 = .ok (.ireturn, 1) := by decide +kernel
theorem dX9_wound_12 : decode cX9_wound 12 = .ok (.aload_n 0, 1) := by decide +kernel
theorem dX9_wound_13 : decode cX9_wound 13 = .ok (.invokevirtual 170, 3) := by decide +kernel
theorem dX9_wound_16 : decode cX9_wound 16 = .ok (.ifCond .ne 6, 3) := by decide +kernel
theorem dX9_wound_19 : decode cX9_wound 19 = .ok (.bipush (-103), 2) := by decide +kernel
theorem dX9_wound_21 : decode cX9_wound 21 = .ok (.ireturn, 1) := by decide +kernel
theorem dX9_wound_22 : decode cX9_wound 22 = .ok (.iload_n 1, 1) := by decide +kernel
theorem dX9_wound_23 : decode cX9_wound 23 = .ok (.ifCond .ne 10, 3) := by decide +kernel
theorem dX9_wound_26 : decode cX9_wound 26 = .ok (.aload_n 0, 1) := by decide +kernel
theorem dX9_wound_27 : decode cX9_wound 27 = .ok (.invokevirtual 206, 3) := by decide +kernel
theorem dX9_wound_30 : decode cX9_wound 30 = .ok (.goto 7, 3) := by decide +kernel
theorem dX9_wound_33 : decode cX9_wound 33 = .ok (.aload_n 0, 1) := by decide +kernel
theorem dX9_wound_34 : decode cX9_wound 34 = .ok (.invokevirtual 209, 3) := by decide +kernel
theorem dX9_wound_37 : decode cX9_wound 37 = .ok (.ireturn, 1) := by decide +kernel
set_option maxRecDepth 20000 in
theorem ggX9_windingsThatFit_X8_fits : GoodIn wsX9_windingsThatFit wsX8_fits := goodIn_r _ [7, 8, 9, 10, 11, 12, 13, 14, 33, 34, 35, 36] (by decide +kernel) (by decide +kernel)
set_option maxRecDepth 20000 in
theorem gX9_windingsThatFit_X8_fits : GoodIn wsX9_windingsThatFit (wsV RX9 212 RX8 yX8_fits wsX8_fits) := goodIn_app (goodIn_of _ (by decide +kernel)) ggX9_windingsThatFit_X8_fits
theorem dX9_windingsThatFit_0 : decode cX9_windingsThatFit 0 = .ok (.iconst 0, 1) := by decide +kernel
theorem dX9_windingsThatFit_1 : decode cX9_windingsThatFit 1 = .ok (.istore_n 1, 1) := by decide +kernel
theorem dX9_windingsThatFit_2 : decode cX9_windingsThatFit 2 = .ok (.iconst 1, 1) := by decide +kernel
theorem dX9_windingsThatFit_3 : decode cX9_windingsThatFit 3 = .ok (.istore_n 2, 1) := by decide +kernel
theorem dX9_windingsThatFit_4 : decode cX9_windingsThatFit 4 = .ok (.iload_n 2, 1) := by decide +kernel
theorem dX9_windingsThatFit_5 : decode cX9_windingsThatFit 5 = .ok (.aload_n 0, 1) := by decide +kernel
theorem dX9_windingsThatFit_6 : decode cX9_windingsThatFit 6 = .ok (.getfield 68, 3) := by decide +kernel
theorem dX9_windingsThatFit_9 : decode cX9_windingsThatFit 9 = .ok (.if_icmp .gt 23, 3) := by decide +kernel
theorem dX9_windingsThatFit_12 : decode cX9_windingsThatFit 12 = .ok (.aload_n 0, 1) := by decide +kernel
theorem dX9_windingsThatFit_13 : decode cX9_windingsThatFit 13 = .ok (.getfield 25, 3) := by decide +kernel
theorem dX9_windingsThatFit_16 : decode cX9_windingsThatFit 16 = .ok (.iload_n 2, 1) := by decide +kernel
theorem dX9_windingsThatFit_17 : decode cX9_windingsThatFit 17 = .ok (.invokevirtual 212, 3) := by decide +kernel
theorem dX9_windingsThatFit_20 : decode cX9_windingsThatFit 20 = .ok (.ifCond .eq 6, 3) := by decide +kernel
theorem dX9_windingsThatFit_23 : decode cX9_windingsThatFit 23 = .ok (.iinc 1 1, 3) := by decide +kernel
theorem dX9_windingsThatFit_26 : decode cX9_windingsThatFit 26 = .ok (.iinc 2 1, 3) := by decide +kernel
theorem dX9_windingsThatFit_29 : decode cX9_windingsThatFit 29 = .ok (.goto (-25), 3) := by decide +kernel
theorem dX9_windingsThatFit_32 : decode cX9_windingsThatFit 32 = .ok (.iload_n 1, 1) := by decide +kernel
theorem dX9_windingsThatFit_33 : decode cX9_windingsThatFit 33 = .ok (.ireturn, 1) := by decide +kernel
set_option maxRecDepth 20000 in
theorem ggX9_leastThatFits_X8_fits : GoodIn wsX9_leastThatFits wsX8_fits := goodIn_r _ [7, 8, 9, 10, 11, 12, 13, 14, 33, 34, 35, 36] (by decide +kernel) (by decide +kernel)
set_option maxRecDepth 20000 in
theorem gX9_leastThatFits_X8_fits : GoodIn wsX9_leastThatFits (wsV RX9 212 RX8 yX8_fits wsX8_fits) := goodIn_app (goodIn_of _ (by decide +kernel)) ggX9_leastThatFits_X8_fits
theorem dX9_leastThatFits_0 : decode cX9_leastThatFits 0 = .ok (.iconst 1, 1) := by decide +kernel
theorem dX9_leastThatFits_1 : decode cX9_leastThatFits 1 = .ok (.istore_n 1, 1) := by decide +kernel
theorem dX9_leastThatFits_2 : decode cX9_leastThatFits 2 = .ok (.iload_n 1, 1) := by decide +kernel
theorem dX9_leastThatFits_3 : decode cX9_leastThatFits 3 = .ok (.aload_n 0, 1) := by decide +kernel
theorem dX9_leastThatFits_4 : decode cX9_leastThatFits 4 = .ok (.getfield 68, 3) := by decide +kernel
theorem dX9_leastThatFits_7 : decode cX9_leastThatFits 7 = .ok (.if_icmp .gt 22, 3) := by decide +kernel
theorem dX9_leastThatFits_10 : decode cX9_leastThatFits 10 = .ok (.aload_n 0, 1) := by decide +kernel
theorem dX9_leastThatFits_11 : decode cX9_leastThatFits 11 = .ok (.getfield 25, 3) := by decide +kernel
theorem dX9_leastThatFits_14 : decode cX9_leastThatFits 14 = .ok (.iload_n 1, 1) := by decide +kernel
theorem dX9_leastThatFits_15 : decode cX9_leastThatFits 15 = .ok (.invokevirtual 212, 3) := by decide +kernel
theorem dX9_leastThatFits_18 : decode cX9_leastThatFits 18 = .ok (.ifCond .eq 5, 3) := by decide +kernel
theorem dX9_leastThatFits_21 : decode cX9_leastThatFits 21 = .ok (.iload_n 1, 1) := by decide +kernel
theorem dX9_leastThatFits_22 : decode cX9_leastThatFits 22 = .ok (.ireturn, 1) := by decide +kernel
theorem dX9_leastThatFits_23 : decode cX9_leastThatFits 23 = .ok (.iinc 1 1, 3) := by decide +kernel
theorem dX9_leastThatFits_26 : decode cX9_leastThatFits 26 = .ok (.goto (-24), 3) := by decide +kernel
theorem dX9_leastThatFits_29 : decode cX9_leastThatFits 29 = .ok (.iconst (-1), 1) := by decide +kernel
theorem dX9_leastThatFits_30 : decode cX9_leastThatFits 30 = .ok (.ireturn, 1) := by decide +kernel
set_option maxRecDepth 20000 in
theorem ggX9_evenings_X9_hasKitchen : GoodIn wsX9_evenings wsX9_hasKitchen := goodIn_r _ [10, 4, 56, 57, 58, 59, 60, 61, 62, 63, 64, 65, 66, 67, 68, 69, 70, 71, 72, 73] (by decide +kernel) (by decide +kernel)
set_option maxRecDepth 20000 in
theorem gX9_evenings_X9_hasKitchen : GoodIn wsX9_evenings (wsV RX9 170 RX9 yX9_hasKitchen wsX9_hasKitchen) := goodIn_app (goodIn_of _ (by decide +kernel)) ggX9_evenings_X9_hasKitchen
set_option maxRecDepth 20000 in
theorem ggX9_evenings_X1_next : GoodIn wsX9_evenings wsX1_next := goodIn_r _ [15, 16, 17, 18, 19, 20, 74] (by decide +kernel) (by decide +kernel)
set_option maxRecDepth 20000 in
theorem gX9_evenings_X1_next : GoodIn wsX9_evenings (wsV RX9 218 RX1 yX1_next wsX1_next) := goodIn_app (goodIn_of _ (by decide +kernel)) ggX9_evenings_X1_next
set_option maxRecDepth 20000 in
theorem ggX9_evenings_X9_potAt : GoodIn wsX9_evenings wsX9_potAt := goodIn_r _ [24, 4, 25, 56, 57, 58, 59, 60, 61, 62, 63, 64, 65, 66, 67, 68, 69, 70, 71, 72, 73] (by decide +kernel) (by decide +kernel)
set_option maxRecDepth 20000 in
theorem gX9_evenings_X9_potAt : GoodIn wsX9_evenings (wsV RX9 135 RX9 yX9_potAt wsX9_potAt) := goodIn_app (goodIn_of _ (by decide +kernel)) ggX9_evenings_X9_potAt
set_option maxRecDepth 20000 in
theorem ggX9_evenings_X0_keeps : GoodIn wsX9_evenings wsX0_keeps := goodIn_r _ [32, 33, 34, 35, 36, 37, 38] (by decide +kernel) (by decide +kernel)
set_option maxRecDepth 20000 in
theorem gX9_evenings_X0_keeps_u145X0 : GoodIn wsX9_evenings (va_wsO RX9 145 RX0 "OneTimer$Pot" ⟨"OneTimer$Pot", "keeps", "()I"⟩ yX0_keeps wsX0_keeps) := goodIn_app (goodIn_of _ (by decide +kernel)) ggX9_evenings_X0_keeps
set_option maxRecDepth 20000 in
theorem ggX9_evenings_X2_keeps : GoodIn wsX9_evenings wsX2_keeps := goodIn_r _ [43] (by decide +kernel) (by decide +kernel)
set_option maxRecDepth 20000 in
theorem gX9_evenings_X2_keeps_u145X2 : GoodIn wsX9_evenings (va_wsO RX9 145 RX2 "OneTimer$Pot" ⟨"OneTimer$Pot", "keeps", "()I"⟩ yX2_keeps wsX2_keeps) := goodIn_app (goodIn_of _ (by decide +kernel)) ggX9_evenings_X2_keeps
set_option maxRecDepth 20000 in
theorem ggX9_evenings_X5_keeps : GoodIn wsX9_evenings wsX5_keeps := goodIn_r _ [39] (by decide +kernel) (by decide +kernel)
set_option maxRecDepth 20000 in
theorem gX9_evenings_X5_keeps : GoodIn wsX9_evenings (wsV RX9 145 RX5 yX5_keeps wsX5_keeps) := goodIn_app (goodIn_of _ (by decide +kernel)) ggX9_evenings_X5_keeps
set_option maxRecDepth 20000 in
theorem ggX9_evenings_X6_keeps : GoodIn wsX9_evenings wsX6_keeps := goodIn_r _ [38] (by decide +kernel) (by decide +kernel)
set_option maxRecDepth 20000 in
theorem gX9_evenings_X6_keeps_u145X6 : GoodIn wsX9_evenings (va_wsO RX9 145 RX6 "OneTimer$Pot" ⟨"OneTimer$Pot", "keeps", "()I"⟩ yX6_keeps wsX6_keeps) := goodIn_app (goodIn_of _ (by decide +kernel)) ggX9_evenings_X6_keeps
set_option maxRecDepth 20000 in
theorem ggX9_evenings_X7_keeps : GoodIn wsX9_evenings wsX7_keeps := goodIn_r _ [52] (by decide +kernel) (by decide +kernel)
set_option maxRecDepth 20000 in
theorem gX9_evenings_X7_keeps_u145X7 : GoodIn wsX9_evenings (va_wsO RX9 145 RX7 "OneTimer$Pot" ⟨"OneTimer$Pot", "keeps", "()I"⟩ yX7_keeps wsX7_keeps) := goodIn_app (goodIn_of _ (by decide +kernel)) ggX9_evenings_X7_keeps
set_option maxRecDepth 20000 in
theorem ggX9_evenings_X9_outBy : GoodIn wsX9_evenings wsX9_outBy := goodIn_r _ [55] (by decide +kernel) (by decide +kernel)
set_option maxRecDepth 20000 in
theorem gX9_evenings_X9_outBy : GoodIn wsX9_evenings (va_wsS RX9 221 yX9_outBy wsX9_outBy) := goodIn_app (goodIn_of _ (by decide +kernel)) ggX9_evenings_X9_outBy
theorem dX9_evenings_0 : decode cX9_evenings 0 = .ok (.iload_n 1, 1) := by decide +kernel
theorem dX9_evenings_1 : decode cX9_evenings 1 = .ok (.iconst 1, 1) := by decide +kernel
theorem dX9_evenings_2 : decode cX9_evenings 2 = .ok (.if_icmp .lt 22, 3) := by decide +kernel
theorem dX9_evenings_5 : decode cX9_evenings 5 = .ok (.iload_n 1, 1) := by decide +kernel
theorem dX9_evenings_6 : decode cX9_evenings 6 = .ok (.bipush 30, 2) := by decide +kernel
theorem dX9_evenings_8 : decode cX9_evenings 8 = .ok (.if_icmp .gt 16, 3) := by decide +kernel
theorem dX9_evenings_11 : decode cX9_evenings 11 = .ok (.iload_n 2, 1) := by decide +kernel
theorem dX9_evenings_12 : decode cX9_evenings 12 = .ok (.ifCond .lt 12, 3) := by decide +kernel
theorem dX9_evenings_15 : decode cX9_evenings 15 = .ok (.iload_n 3, 1) := by decide +kernel
theorem dX9_evenings_16 : decode cX9_evenings 16 = .ok (.ifCond .lt 8, 3) := by decide +kernel
theorem dX9_evenings_19 : decode cX9_evenings 19 = .ok (.iload_n 3, 1) := by decide +kernel
theorem dX9_evenings_20 : decode cX9_evenings 20 = .ok (.iconst 2, 1) := by decide +kernel
theorem dX9_evenings_21 : decode cX9_evenings 21 = .ok (.if_icmp .le 6, 3) := by decide +kernel
theorem dX9_evenings_24 : decode cX9_evenings 24 = .ok (.bipush (-102), 2) := by decide +kernel
theorem dX9_evenings_26 : decode cX9_evenings 26 = .ok (.ireturn, 1) := by decide +kernel
theorem dX9_evenings_27 : decode cX9_evenings 27 = .ok (.aload_n 0, 1) := by decide +kernel
theorem dX9_evenings_28 : decode cX9_evenings 28 = .ok (.invokevirtual 170, 3) := by decide +kernel
theorem dX9_evenings_31 : decode cX9_evenings 31 = .ok (.ifCond .ne 6, 3) := by decide +kernel
theorem dX9_evenings_34 : decode cX9_evenings 34 = .ok (.bipush (-103), 2) := by decide +kernel
theorem dX9_evenings_36 : decode cX9_evenings 36 = .ok (.ireturn, 1) := by decide +kernel
theorem dX9_evenings_37 : decode cX9_evenings 37 = .ok (.aload_n 0, 1) := by decide +kernel
theorem dX9_evenings_38 : decode cX9_evenings 38 = .ok (.getfield 42, 3) := by decide +kernel
theorem dX9_evenings_41 : decode cX9_evenings 41 = .ok (.iload_n 2, 1) := by decide +kernel
theorem dX9_evenings_42 : decode cX9_evenings 42 = .ok (.putfield 215, 3) := by decide +kernel
theorem dX9_evenings_45 : decode cX9_evenings 45 = .ok (.iconst 0, 1) := by decide +kernel
theorem dX9_evenings_46 : decode cX9_evenings 46 = .ok (.istore 4, 2) := by decide +kernel
theorem dX9_evenings_48 : decode cX9_evenings 48 = .ok (.iconst 0, 1) := by decide +kernel
theorem dX9_evenings_49 : decode cX9_evenings 49 = .ok (.istore 5, 2) := by decide +kernel
theorem dX9_evenings_51 : decode cX9_evenings 51 = .ok (.iconst 0, 1) := by decide +kernel
theorem dX9_evenings_52 : decode cX9_evenings 52 = .ok (.istore 6, 2) := by decide +kernel
theorem dX9_evenings_54 : decode cX9_evenings 54 = .ok (.iconst 0, 1) := by decide +kernel
theorem dX9_evenings_55 : decode cX9_evenings 55 = .ok (.istore 7, 2) := by decide +kernel
theorem dX9_evenings_57 : decode cX9_evenings 57 = .ok (.iconst 0, 1) := by decide +kernel
theorem dX9_evenings_58 : decode cX9_evenings 58 = .ok (.istore 8, 2) := by decide +kernel
theorem dX9_evenings_60 : decode cX9_evenings 60 = .ok (.iload 8, 2) := by decide +kernel
theorem dX9_evenings_62 : decode cX9_evenings 62 = .ok (.iload_n 1, 1) := by decide +kernel
theorem dX9_evenings_63 : decode cX9_evenings 63 = .ok (.if_icmp .ge 124, 3) := by decide +kernel
theorem dX9_evenings_66 : decode cX9_evenings 66 = .ok (.iload 6, 2) := by decide +kernel
theorem dX9_evenings_68 : decode cX9_evenings 68 = .ok (.iconst 1, 1) := by decide +kernel
theorem dX9_evenings_69 : decode cX9_evenings 69 = .ok (.aload_n 0, 1) := by decide +kernel
theorem dX9_evenings_70 : decode cX9_evenings 70 = .ok (.getfield 42, 3) := by decide +kernel
theorem dX9_evenings_73 : decode cX9_evenings 73 = .ok (.aload_n 0, 1) := by decide +kernel
theorem dX9_evenings_74 : decode cX9_evenings 74 = .ok (.getfield 68, 3) := by decide +kernel
theorem dX9_evenings_77 : decode cX9_evenings 77 = .ok (.invokevirtual 218, 3) := by decide +kernel
theorem dX9_evenings_80 : decode cX9_evenings 80 = .ok (.iadd, 1) := by decide +kernel
theorem dX9_evenings_81 : decode cX9_evenings 81 = .ok (.iadd, 1) := by decide +kernel
theorem dX9_evenings_82 : decode cX9_evenings 82 = .ok (.istore 6, 2) := by decide +kernel
theorem dX9_evenings_84 : decode cX9_evenings 84 = .ok (.aload_n 0, 1) := by decide +kernel
theorem dX9_evenings_85 : decode cX9_evenings 85 = .ok (.getfield 42, 3) := by decide +kernel
theorem dX9_evenings_88 : decode cX9_evenings 88 = .ok (.aload_n 0, 1) := by decide +kernel
theorem dX9_evenings_89 : decode cX9_evenings 89 = .ok (.getfield 83, 3) := by decide +kernel
theorem dX9_evenings_92 : decode cX9_evenings 92 = .ok (.invokevirtual 218, 3) := by decide +kernel
theorem dX9_evenings_95 : decode cX9_evenings 95 = .ok (.istore 9, 2) := by decide +kernel
theorem dX9_evenings_97 : decode cX9_evenings 97 = .ok (.aload_n 0, 1) := by decide +kernel
theorem dX9_evenings_98 : decode cX9_evenings 98 = .ok (.iload 9, 2) := by decide +kernel
theorem dX9_evenings_100 : decode cX9_evenings 100 = .ok (.invokevirtual 135, 3) := by decide +kernel
theorem dX9_evenings_103 : decode cX9_evenings 103 = .ok (.astore 10, 2) := by decide +kernel
theorem dX9_evenings_105 : decode cX9_evenings 105 = .ok (.aload 10, 2) := by decide +kernel
theorem dX9_evenings_107 : decode cX9_evenings 107 = .ok (.ifnull 74, 3) := by decide +kernel
theorem dX9_evenings_110 : decode cX9_evenings 110 = .ok (.iload 7, 2) := by decide +kernel
theorem dX9_evenings_112 : decode cX9_evenings 112 = .ok (.iconst 1, 1) := by decide +kernel
theorem dX9_evenings_113 : decode cX9_evenings 113 = .ok (.iload 9, 2) := by decide +kernel
theorem dX9_evenings_115 : decode cX9_evenings 115 = .ok (.ishl, 1) := by decide +kernel
theorem dX9_evenings_116 : decode cX9_evenings 116 = .ok (.iand, 1) := by decide +kernel
theorem dX9_evenings_117 : decode cX9_evenings 117 = .ok (.ifCond .ne 64, 3) := by decide +kernel
theorem dX9_evenings_120 : decode cX9_evenings 120 = .ok (.iload 7, 2) := by decide +kernel
theorem dX9_evenings_122 : decode cX9_evenings 122 = .ok (.iconst 1, 1) := by decide +kernel
theorem dX9_evenings_123 : decode cX9_evenings 123 = .ok (.iload 9, 2) := by decide +kernel
theorem dX9_evenings_125 : decode cX9_evenings 125 = .ok (.ishl, 1) := by decide +kernel
theorem dX9_evenings_126 : decode cX9_evenings 126 = .ok (.ior, 1) := by decide +kernel
theorem dX9_evenings_127 : decode cX9_evenings 127 = .ok (.istore 7, 2) := by decide +kernel
theorem dX9_evenings_129 : decode cX9_evenings 129 = .ok (.iload 6, 2) := by decide +kernel
theorem dX9_evenings_131 : decode cX9_evenings 131 = .ok (.aload 10, 2) := by decide +kernel
theorem dX9_evenings_133 : decode cX9_evenings 133 = .ok (.getfield 142, 3) := by decide +kernel
theorem dX9_evenings_136 : decode cX9_evenings 136 = .ok (.isub, 1) := by decide +kernel
theorem dX9_evenings_137 : decode cX9_evenings 137 = .ok (.aload 10, 2) := by decide +kernel
theorem dX9_evenings_139 : decode cX9_evenings 139 = .ok (.invokevirtual 145, 3) := by decide +kernel
theorem dX9_evenings_142 : decode cX9_evenings 142 = .ok (.invokestatic 221, 3) := by decide +kernel
theorem dX9_evenings_145 : decode cX9_evenings 145 = .ok (.istore 11, 2) := by decide +kernel
theorem dX9_evenings_147 : decode cX9_evenings 147 = .ok (.iload 4, 2) := by decide +kernel
theorem dX9_evenings_149 : decode cX9_evenings 149 = .ok (.iload 11, 2) := by decide +kernel
theorem dX9_evenings_151 : decode cX9_evenings 151 = .ok (.bipush 100, 2) := by decide +kernel
theorem dX9_evenings_153 : decode cX9_evenings 153 = .ok (.if_icmp .ne 7, 3) := by decide +kernel
theorem dX9_evenings_156 : decode cX9_evenings 156 = .ok (.iconst 1, 1) := by decide +kernel
theorem dX9_evenings_157 : decode cX9_evenings 157 = .ok (.goto 4, 3) := by decide +kernel
theorem dX9_evenings_160 : decode cX9_evenings 160 = .ok (.iconst 0, 1) := by decide +kernel
theorem dX9_evenings_161 : decode cX9_evenings 161 = .ok (.iadd, 1) := by decide +kernel
theorem dX9_evenings_162 : decode cX9_evenings 162 = .ok (.istore 4, 2) := by decide +kernel
theorem dX9_evenings_164 : decode cX9_evenings 164 = .ok (.iload 5, 2) := by decide +kernel
theorem dX9_evenings_166 : decode cX9_evenings 166 = .ok (.iload 11, 2) := by decide +kernel
theorem dX9_evenings_168 : decode cX9_evenings 168 = .ok (.bipush 100, 2) := by decide +kernel
theorem dX9_evenings_170 : decode cX9_evenings 170 = .ok (.if_icmp .le 7, 3) := by decide +kernel
theorem dX9_evenings_173 : decode cX9_evenings 173 = .ok (.iconst 1, 1) := by decide +kernel
theorem dX9_evenings_174 : decode cX9_evenings 174 = .ok (.goto 4, 3) := by decide +kernel
theorem dX9_evenings_177 : decode cX9_evenings 177 = .ok (.iconst 0, 1) := by decide +kernel
theorem dX9_evenings_178 : decode cX9_evenings 178 = .ok (.iadd, 1) := by decide +kernel
theorem dX9_evenings_179 : decode cX9_evenings 179 = .ok (.istore 5, 2) := by decide +kernel
theorem dX9_evenings_181 : decode cX9_evenings 181 = .ok (.iinc 8 1, 3) := by decide +kernel
theorem dX9_evenings_184 : decode cX9_evenings 184 = .ok (.goto (-124), 3) := by decide +kernel
theorem dX9_evenings_187 : decode cX9_evenings 187 = .ok (.iload_n 3, 1) := by decide +kernel
theorem dX9_evenings_188 : decode cX9_evenings 188 = .ok (.ifCond .ne 8, 3) := by decide +kernel
theorem dX9_evenings_191 : decode cX9_evenings 191 = .ok (.iload 4, 2) := by decide +kernel
theorem dX9_evenings_193 : decode cX9_evenings 193 = .ok (.goto 20, 3) := by decide +kernel
theorem dX9_evenings_196 : decode cX9_evenings 196 = .ok (.iload_n 3, 1) := by decide +kernel
theorem dX9_evenings_197 : decode cX9_evenings 197 = .ok (.iconst 1, 1) := by decide +kernel
theorem dX9_evenings_198 : decode cX9_evenings 198 = .ok (.if_icmp .ne 8, 3) := by decide +kernel
theorem dX9_evenings_201 : decode cX9_evenings 201 = .ok (.iload 5, 2) := by decide +kernel
theorem dX9_evenings_203 : decode cX9_evenings 203 = .ok (.goto 10, 3) := by decide +kernel
theorem dX9_evenings_206 : decode cX9_evenings 206 = .ok (.aload_n 0, 1) := by decide +kernel
theorem dX9_evenings_207 : decode cX9_evenings 207 = .ok (.getfield 42, 3) := by decide +kernel
theorem dX9_evenings_210 : decode cX9_evenings 210 = .ok (.getfield 215, 3) := by decide +kernel
theorem dX9_evenings_213 : decode cX9_evenings 213 = .ok (.ireturn, 1) := by decide +kernel
set_option maxRecDepth 20000 in
theorem ggX9_image_X9_hasKitchen : GoodIn wsX9_image wsX9_hasKitchen := goodIn_r _ [15, 10, 47, 48, 49, 50, 51, 52, 53, 54, 55, 56, 57, 58, 59, 60, 61, 62, 63, 64] (by decide +kernel) (by decide +kernel)
set_option maxRecDepth 20000 in
theorem gX9_image_X9_hasKitchen : GoodIn wsX9_image (wsV RX9 170 RX9 yX9_hasKitchen wsX9_hasKitchen) := goodIn_app (goodIn_of _ (by decide +kernel)) ggX9_image_X9_hasKitchen
set_option maxRecDepth 20000 in
theorem ggX9_image_X8_copyFrom : GoodIn wsX9_image wsX8_copyFrom := goodIn_r _ [20, 21, 22, 23, 24, 65, 66, 67, 68] (by decide +kernel) (by decide +kernel)
set_option maxRecDepth 20000 in
theorem gX9_image_X8_copyFrom : GoodIn wsX9_image (wsV RX9 233 RX8 yX8_copyFrom wsX8_copyFrom) := goodIn_app (goodIn_of _ (by decide +kernel)) ggX9_image_X8_copyFrom
set_option maxRecDepth 20000 in
theorem ggX9_image_X9_potAt : GoodIn wsX9_image wsX9_potAt := goodIn_r _ [28, 10, 29, 47, 48, 49, 50, 51, 52, 53, 54, 55, 56, 57, 58, 59, 60, 61, 62, 63, 64] (by decide +kernel) (by decide +kernel)
set_option maxRecDepth 20000 in
theorem gX9_image_X9_potAt : GoodIn wsX9_image (wsV RX9 135 RX9 yX9_potAt wsX9_potAt) := goodIn_app (goodIn_of _ (by decide +kernel)) ggX9_image_X9_potAt
set_option maxRecDepth 20000 in
theorem ggX9_image_X5_keepImage : GoodIn wsX9_image wsX5_keepImage := goodIn_r _ [35, 36, 37, 38, 39, 40, 41, 69, 70, 71, 72, 73, 74, 75, 76, 77, 78, 79, 80, 81, 82, 83, 84, 85, 86, 87, 88, 89, 90, 91, 92, 93, 94, 95, 96, 97, 98, 99, 100, 101, 102, 103] (by decide +kernel) (by decide +kernel)
set_option maxRecDepth 20000 in
theorem gX9_image_X5_keepImage_u237X0 : GoodIn wsX9_image (va_wsU RX9 237 RX0 "OneTimer$Pot" ⟨"OneTimer$Pot", "keepImage", "()V"⟩ yX5_keepImage wsX5_keepImage) := goodIn_app (goodIn_of _ (by decide +kernel)) ggX9_image_X5_keepImage
set_option maxRecDepth 20000 in
theorem gX9_image_X5_keepImage_u237X2 : GoodIn wsX9_image (va_wsU RX9 237 RX2 "OneTimer$Pot" ⟨"OneTimer$Pot", "keepImage", "()V"⟩ yX5_keepImage wsX5_keepImage) := goodIn_app (goodIn_of _ (by decide +kernel)) ggX9_image_X5_keepImage
set_option maxRecDepth 20000 in
theorem gX9_image_X5_keepImage : GoodIn wsX9_image (wsV RX9 237 RX5 yX5_keepImage wsX5_keepImage) := goodIn_app (goodIn_of _ (by decide +kernel)) ggX9_image_X5_keepImage
set_option maxRecDepth 20000 in
theorem gX9_image_X5_keepImage_u237X6 : GoodIn wsX9_image (va_wsU RX9 237 RX6 "OneTimer$Pot" ⟨"OneTimer$Pot", "keepImage", "()V"⟩ yX5_keepImage wsX5_keepImage) := goodIn_app (goodIn_of _ (by decide +kernel)) ggX9_image_X5_keepImage
set_option maxRecDepth 20000 in
theorem gX9_image_X5_keepImage_u237X7 : GoodIn wsX9_image (va_wsU RX9 237 RX7 "OneTimer$Pot" ⟨"OneTimer$Pot", "keepImage", "()V"⟩ yX5_keepImage wsX5_keepImage) := goodIn_app (goodIn_of _ (by decide +kernel)) ggX9_image_X5_keepImage
theorem dX9_image_0 : decode cX9_image 0 = .ok (.aload_n 0, 1) := by decide +kernel
theorem dX9_image_1 : decode cX9_image 1 = .ok (.invokevirtual 170, 3) := by decide +kernel
theorem dX9_image_4 : decode cX9_image 4 = .ok (.ifCond .ne 6, 3) := by decide +kernel
theorem dX9_image_7 : decode cX9_image 7 = .ok (.bipush (-103), 2) := by decide +kernel
theorem dX9_image_9 : decode cX9_image 9 = .ok (.ireturn, 1) := by decide +kernel
theorem dX9_image_10 : decode cX9_image 10 = .ok (.aload_n 0, 1) := by decide +kernel
theorem dX9_image_11 : decode cX9_image 11 = .ok (.iconst 1, 1) := by decide +kernel
theorem dX9_image_12 : decode cX9_image 12 = .ok (.putfield 116, 3) := by decide +kernel
theorem dX9_image_15 : decode cX9_image 15 = .ok (.aload_n 0, 1) := by decide +kernel
theorem dX9_image_16 : decode cX9_image 16 = .ok (.aload_n 0, 1) := by decide +kernel
theorem dX9_image_17 : decode cX9_image 17 = .ok (.getfield 106, 3) := by decide +kernel
theorem dX9_image_20 : decode cX9_image 20 = .ok (.putfield 224, 3) := by decide +kernel
theorem dX9_image_23 : decode cX9_image 23 = .ok (.aload_n 0, 1) := by decide +kernel
theorem dX9_image_24 : decode cX9_image 24 = .ok (.aload_n 0, 1) := by decide +kernel
theorem dX9_image_25 : decode cX9_image 25 = .ok (.getfield 109, 3) := by decide +kernel
theorem dX9_image_28 : decode cX9_image 28 = .ok (.putfield 227, 3) := by decide +kernel
theorem dX9_image_31 : decode cX9_image 31 = .ok (.aload_n 0, 1) := by decide +kernel
theorem dX9_image_32 : decode cX9_image 32 = .ok (.aload_n 0, 1) := by decide +kernel
theorem dX9_image_33 : decode cX9_image 33 = .ok (.getfield 112, 3) := by decide +kernel
theorem dX9_image_36 : decode cX9_image 36 = .ok (.putfield 230, 3) := by decide +kernel
theorem dX9_image_39 : decode cX9_image 39 = .ok (.aload_n 0, 1) := by decide +kernel
theorem dX9_image_40 : decode cX9_image 40 = .ok (.getfield 29, 3) := by decide +kernel
theorem dX9_image_43 : decode cX9_image 43 = .ok (.aload_n 0, 1) := by decide +kernel
theorem dX9_image_44 : decode cX9_image 44 = .ok (.getfield 25, 3) := by decide +kernel
theorem dX9_image_47 : decode cX9_image 47 = .ok (.invokevirtual 233, 3) := by decide +kernel
theorem dX9_image_50 : decode cX9_image 50 = .ok (.iconst 0, 1) := by decide +kernel
theorem dX9_image_51 : decode cX9_image 51 = .ok (.istore_n 1, 1) := by decide +kernel
theorem dX9_image_52 : decode cX9_image 52 = .ok (.iload_n 1, 1) := by decide +kernel
theorem dX9_image_53 : decode cX9_image 53 = .ok (.aload_n 0, 1) := by decide +kernel
theorem dX9_image_54 : decode cX9_image 54 = .ok (.getfield 83, 3) := by decide +kernel
theorem dX9_image_57 : decode cX9_image 57 = .ok (.if_icmp .ge 23, 3) := by decide +kernel
theorem dX9_image_60 : decode cX9_image 60 = .ok (.aload_n 0, 1) := by decide +kernel
theorem dX9_image_61 : decode cX9_image 61 = .ok (.iload_n 1, 1) := by decide +kernel
theorem dX9_image_62 : decode cX9_image 62 = .ok (.invokevirtual 135, 3) := by decide +kernel
theorem dX9_image_65 : decode cX9_image 65 = .ok (.astore_n 2, 1) := by decide +kernel
theorem dX9_image_66 : decode cX9_image 66 = .ok (.aload_n 2, 1) := by decide +kernel
theorem dX9_image_67 : decode cX9_image 67 = .ok (.ifnull 7, 3) := by decide +kernel
theorem dX9_image_70 : decode cX9_image 70 = .ok (.aload_n 2, 1) := by decide +kernel
theorem dX9_image_71 : decode cX9_image 71 = .ok (.invokevirtual 237, 3) := by decide +kernel
theorem dX9_image_74 : decode cX9_image 74 = .ok (.iinc 1 1, 3) := by decide +kernel
theorem dX9_image_77 : decode cX9_image 77 = .ok (.goto (-25), 3) := by decide +kernel
theorem dX9_image_80 : decode cX9_image 80 = .ok (.aload_n 0, 1) := by decide +kernel
theorem dX9_image_81 : decode cX9_image 81 = .ok (.getfield 106, 3) := by decide +kernel
theorem dX9_image_84 : decode cX9_image 84 = .ok (.ireturn, 1) := by decide +kernel
set_option maxRecDepth 20000 in
theorem ggX9_restore_X8_copyFrom : GoodIn wsX9_restore wsX8_copyFrom := goodIn_r _ [15, 16, 17, 18, 19, 61, 62, 63, 64] (by decide +kernel) (by decide +kernel)
set_option maxRecDepth 20000 in
theorem gX9_restore_X8_copyFrom : GoodIn wsX9_restore (wsV RX9 233 RX8 yX8_copyFrom wsX8_copyFrom) := goodIn_app (goodIn_of _ (by decide +kernel)) ggX9_restore_X8_copyFrom
set_option maxRecDepth 20000 in
theorem ggX9_restore_X9_potAt : GoodIn wsX9_restore wsX9_potAt := goodIn_r _ [24, 10, 25, 43, 44, 45, 46, 47, 48, 49, 50, 51, 52, 53, 54, 55, 56, 57, 58, 59, 60] (by decide +kernel) (by decide +kernel)
set_option maxRecDepth 20000 in
theorem gX9_restore_X9_potAt : GoodIn wsX9_restore (wsV RX9 135 RX9 yX9_potAt wsX9_potAt) := goodIn_app (goodIn_of _ (by decide +kernel)) ggX9_restore_X9_potAt
set_option maxRecDepth 20000 in
theorem ggX9_restore_X5_goBack : GoodIn wsX9_restore wsX5_goBack := goodIn_r _ [31, 32, 33, 34, 35, 36, 37, 65, 66, 67, 68, 69, 70, 71, 72, 73, 74, 75, 76, 77, 78, 79, 80, 81, 82, 83, 84, 85, 86, 87, 88, 89, 90, 91, 92, 93, 94, 95, 96, 97, 98, 99] (by decide +kernel) (by decide +kernel)
set_option maxRecDepth 20000 in
theorem gX9_restore_X5_goBack_u240X0 : GoodIn wsX9_restore (va_wsU RX9 240 RX0 "OneTimer$Pot" ⟨"OneTimer$Pot", "goBack", "()V"⟩ yX5_goBack wsX5_goBack) := goodIn_app (goodIn_of _ (by decide +kernel)) ggX9_restore_X5_goBack
set_option maxRecDepth 20000 in
theorem gX9_restore_X5_goBack_u240X2 : GoodIn wsX9_restore (va_wsU RX9 240 RX2 "OneTimer$Pot" ⟨"OneTimer$Pot", "goBack", "()V"⟩ yX5_goBack wsX5_goBack) := goodIn_app (goodIn_of _ (by decide +kernel)) ggX9_restore_X5_goBack
set_option maxRecDepth 20000 in
theorem gX9_restore_X5_goBack : GoodIn wsX9_restore (wsV RX9 240 RX5 yX5_goBack wsX5_goBack) := goodIn_app (goodIn_of _ (by decide +kernel)) ggX9_restore_X5_goBack
set_option maxRecDepth 20000 in
theorem gX9_restore_X5_goBack_u240X6 : GoodIn wsX9_restore (va_wsU RX9 240 RX6 "OneTimer$Pot" ⟨"OneTimer$Pot", "goBack", "()V"⟩ yX5_goBack wsX5_goBack) := goodIn_app (goodIn_of _ (by decide +kernel)) ggX9_restore_X5_goBack
set_option maxRecDepth 20000 in
theorem gX9_restore_X5_goBack_u240X7 : GoodIn wsX9_restore (va_wsU RX9 240 RX7 "OneTimer$Pot" ⟨"OneTimer$Pot", "goBack", "()V"⟩ yX5_goBack wsX5_goBack) := goodIn_app (goodIn_of _ (by decide +kernel)) ggX9_restore_X5_goBack
theorem dX9_restore_0 : decode cX9_restore 0 = .ok (.aload_n 0, 1) := by decide +kernel
theorem dX9_restore_1 : decode cX9_restore 1 = .ok (.getfield 116, 3) := by decide +kernel
theorem dX9_restore_4 : decode cX9_restore 4 = .ok (.ifCond .ne 6, 3) := by decide +kernel
theorem dX9_restore_7 : decode cX9_restore 7 = .ok (.bipush (-103), 2) := by decide +kernel
theorem dX9_restore_9 : decode cX9_restore 9 = .ok (.ireturn, 1) := by decide +kernel
theorem dX9_restore_10 : decode cX9_restore 10 = .ok (.aload_n 0, 1) := by decide +kernel
theorem dX9_restore_11 : decode cX9_restore 11 = .ok (.aload_n 0, 1) := by decide +kernel
theorem dX9_restore_12 : decode cX9_restore 12 = .ok (.getfield 224, 3) := by decide +kernel
theorem dX9_restore_15 : decode cX9_restore 15 = .ok (.putfield 106, 3) := by decide +kernel
theorem dX9_restore_18 : decode cX9_restore 18 = .ok (.aload_n 0, 1) := by decide +kernel
theorem dX9_restore_19 : decode cX9_restore 19 = .ok (.aload_n 0, 1) := by decide +kernel
theorem dX9_restore_20 : decode cX9_restore 20 = .ok (.getfield 227, 3) := by decide +kernel
theorem dX9_restore_23 : decode cX9_restore 23 = .ok (.putfield 109, 3) := by decide +kernel
theorem dX9_restore_26 : decode cX9_restore 26 = .ok (.aload_n 0, 1) := by decide +kernel
theorem dX9_restore_27 : decode cX9_restore 27 = .ok (.aload_n 0, 1) := by decide +kernel
theorem dX9_restore_28 : decode cX9_restore 28 = .ok (.getfield 230, 3) := by decide +kernel
theorem dX9_restore_31 : decode cX9_restore 31 = .ok (.putfield 112, 3) := by decide +kernel
theorem dX9_restore_34 : decode cX9_restore 34 = .ok (.aload_n 0, 1) := by decide +kernel
theorem dX9_restore_35 : decode cX9_restore 35 = .ok (.getfield 25, 3) := by decide +kernel
theorem dX9_restore_38 : decode cX9_restore 38 = .ok (.aload_n 0, 1) := by decide +kernel
theorem dX9_restore_39 : decode cX9_restore 39 = .ok (.getfield 29, 3) := by decide +kernel
theorem dX9_restore_42 : decode cX9_restore 42 = .ok (.invokevirtual 233, 3) := by decide +kernel
theorem dX9_restore_45 : decode cX9_restore 45 = .ok (.iconst 0, 1) := by decide +kernel
theorem dX9_restore_46 : decode cX9_restore 46 = .ok (.istore_n 1, 1) := by decide +kernel
theorem dX9_restore_47 : decode cX9_restore 47 = .ok (.iload_n 1, 1) := by decide +kernel
theorem dX9_restore_48 : decode cX9_restore 48 = .ok (.aload_n 0, 1) := by decide +kernel
theorem dX9_restore_49 : decode cX9_restore 49 = .ok (.getfield 83, 3) := by decide +kernel
theorem dX9_restore_52 : decode cX9_restore 52 = .ok (.if_icmp .ge 23, 3) := by decide +kernel
theorem dX9_restore_55 : decode cX9_restore 55 = .ok (.aload_n 0, 1) := by decide +kernel
theorem dX9_restore_56 : decode cX9_restore 56 = .ok (.iload_n 1, 1) := by decide +kernel
theorem dX9_restore_57 : decode cX9_restore 57 = .ok (.invokevirtual 135, 3) := by decide +kernel
theorem dX9_restore_60 : decode cX9_restore 60 = .ok (.astore_n 2, 1) := by decide +kernel
theorem dX9_restore_61 : decode cX9_restore 61 = .ok (.aload_n 2, 1) := by decide +kernel
theorem dX9_restore_62 : decode cX9_restore 62 = .ok (.ifnull 7, 3) := by decide +kernel
theorem dX9_restore_65 : decode cX9_restore 65 = .ok (.aload_n 2, 1) := by decide +kernel
theorem dX9_restore_66 : decode cX9_restore 66 = .ok (.invokevirtual 240, 3) := by decide +kernel
theorem dX9_restore_69 : decode cX9_restore 69 = .ok (.iinc 1 1, 3) := by decide +kernel
theorem dX9_restore_72 : decode cX9_restore 72 = .ok (.goto (-25), 3) := by decide +kernel
theorem dX9_restore_75 : decode cX9_restore 75 = .ok (.aload_n 0, 1) := by decide +kernel
theorem dX9_restore_76 : decode cX9_restore 76 = .ok (.getfield 106, 3) := by decide +kernel
theorem dX9_restore_79 : decode cX9_restore 79 = .ok (.ireturn, 1) := by decide +kernel
set_option maxRecDepth 20000 in
theorem ggX9_count_X9_potsThatBoil : GoodIn wsX9_count wsX9_potsThatBoil := goodIn_r _ [17, 1, 18, 19, 20, 16, 21, 22, 23, 24, 25, 26, 27, 28, 29, 30, 31, 32, 33, 34, 35, 36, 37, 38, 39, 40, 41, 42, 43, 44, 45, 46, 47, 48, 49, 50, 51, 52, 59, 60, 61, 62, 63, 64, 65, 66, 67, 68, 69, 70, 71, 72, 73, 74, 75, 76, 77, 78, 79, 80, 81, 82, 83, 84, 85, 86, 87, 88, 89, 90, 91, 92, 93] (by decide +kernel) (by decide +kernel)
set_option maxRecDepth 20000 in
theorem gX9_count_X9_potsThatBoil : GoodIn wsX9_count (wsV RX9 243 RX9 yX9_potsThatBoil wsX9_potsThatBoil) := goodIn_app (goodIn_of _ (by decide +kernel)) ggX9_count_X9_potsThatBoil
theorem dX9_count_0 : decode cX9_count 0 = .ok (.iload_n 1, 1) := by decide +kernel
theorem dX9_count_1 : decode cX9_count 1 = .ok (.tableswitch 120 0 10 #[59, 64, 69, 74, 79, 84, 89, 94, 102, 110, 115], 59) := by decide +kernel
theorem dX9_count_60 : decode cX9_count 60 = .ok (.aload_n 0, 1) := by decide +kernel
theorem dX9_count_61 : decode cX9_count 61 = .ok (.getfield 83, 3) := by decide +kernel
theorem dX9_count_64 : decode cX9_count 64 = .ok (.ireturn, 1) := by decide +kernel
theorem dX9_count_65 : decode cX9_count 65 = .ok (.aload_n 0, 1) := by decide +kernel
theorem dX9_count_66 : decode cX9_count 66 = .ok (.getfield 68, 3) := by decide +kernel
theorem dX9_count_69 : decode cX9_count 69 = .ok (.ireturn, 1) := by decide +kernel
theorem dX9_count_70 : decode cX9_count 70 = .ok (.aload_n 0, 1) := by decide +kernel
theorem dX9_count_71 : decode cX9_count 71 = .ok (.getfield 74, 3) := by decide +kernel
theorem dX9_count_74 : decode cX9_count 74 = .ok (.ireturn, 1) := by decide +kernel
theorem dX9_count_75 : decode cX9_count 75 = .ok (.aload_n 0, 1) := by decide +kernel
theorem dX9_count_76 : decode cX9_count 76 = .ok (.getfield 106, 3) := by decide +kernel
theorem dX9_count_79 : decode cX9_count 79 = .ok (.ireturn, 1) := by decide +kernel
theorem dX9_count_80 : decode cX9_count 80 = .ok (.aload_n 0, 1) := by decide +kernel
theorem dX9_count_81 : decode cX9_count 81 = .ok (.invokevirtual 243, 3) := by decide +kernel
theorem dX9_count_84 : decode cX9_count 84 = .ok (.ireturn, 1) := by decide +kernel
theorem dX9_count_85 : decode cX9_count 85 = .ok (.aload_n 0, 1) := by decide +kernel
theorem dX9_count_86 : decode cX9_count 86 = .ok (.getfield 109, 3) := by decide +kernel
theorem dX9_count_89 : decode cX9_count 89 = .ok (.ireturn, 1) := by decide +kernel
theorem dX9_count_90 : decode cX9_count 90 = .ok (.aload_n 0, 1) := by decide +kernel
theorem dX9_count_91 : decode cX9_count 91 = .ok (.getfield 112, 3) := by decide +kernel
theorem dX9_count_94 : decode cX9_count 94 = .ok (.ireturn, 1) := by decide +kernel
theorem dX9_count_95 : decode cX9_count 95 = .ok (.aload_n 0, 1) := by decide +kernel
theorem dX9_count_96 : decode cX9_count 96 = .ok (.getfield 25, 3) := by decide +kernel
theorem dX9_count_99 : decode cX9_count 99 = .ok (.getfield 115, 3) := by decide +kernel
theorem dX9_count_102 : decode cX9_count 102 = .ok (.ireturn, 1) := by decide +kernel
theorem dX9_count_103 : decode cX9_count 103 = .ok (.aload_n 0, 1) := by decide +kernel
theorem dX9_count_104 : decode cX9_count 104 = .ok (.getfield 10, 3) := by decide +kernel
theorem dX9_count_107 : decode cX9_count 107 = .ok (.getfield 50, 3) := by decide +kernel
theorem dX9_count_110 : decode cX9_count 110 = .ok (.ireturn, 1) := by decide +kernel
theorem dX9_count_111 : decode cX9_count 111 = .ok (.aload_n 0, 1) := by decide +kernel
theorem dX9_count_112 : decode cX9_count 112 = .ok (.getfield 80, 3) := by decide +kernel
theorem dX9_count_115 : decode cX9_count 115 = .ok (.ireturn, 1) := by decide +kernel
theorem dX9_count_116 : decode cX9_count 116 = .ok (.aload_n 0, 1) := by decide +kernel
theorem dX9_count_117 : decode cX9_count 117 = .ok (.getfield 176, 3) := by decide +kernel
theorem dX9_count_120 : decode cX9_count 120 = .ok (.ireturn, 1) := by decide +kernel
theorem dX9_count_121 : decode cX9_count 121 = .ok (.bipush (-102), 2) := by decide +kernel
theorem dX9_count_123 : decode cX9_count 123 = .ok (.ireturn, 1) := by decide +kernel
set_option maxRecDepth 20000 in
theorem ggX9_potsThatBoil_X9_potAt : GoodIn wsX9_potsThatBoil wsX9_potAt := goodIn_r _ [6, 1, 7, 20, 21, 22, 23, 24, 25, 26, 27, 28, 29, 30, 31, 32, 33, 34, 35, 36, 37] (by decide +kernel) (by decide +kernel)
set_option maxRecDepth 20000 in
theorem gX9_potsThatBoil_X9_potAt : GoodIn wsX9_potsThatBoil (wsV RX9 135 RX9 yX9_potAt wsX9_potAt) := goodIn_app (goodIn_of _ (by decide +kernel)) ggX9_potsThatBoil_X9_potAt
set_option maxRecDepth 20000 in
theorem ggX9_potsThatBoil_X5_boils : GoodIn wsX9_potsThatBoil wsX5_boils := goodIn_r _ [13, 14, 38, 39, 40, 41, 42, 43, 44, 45, 46, 47, 48, 49, 50, 51, 52, 53, 54, 55, 56, 57, 58, 59, 60, 61, 62, 63, 64, 65, 66, 67, 68, 69, 70, 71, 72] (by decide +kernel) (by decide +kernel)
set_option maxRecDepth 20000 in
theorem gX9_potsThatBoil_X5_boils_u151X0 : GoodIn wsX9_potsThatBoil (va_wsU RX9 151 RX0 "OneTimer$Pot" ⟨"OneTimer$Pot", "boils", "()Z"⟩ yX5_boils wsX5_boils) := goodIn_app (goodIn_of _ (by decide +kernel)) ggX9_potsThatBoil_X5_boils
set_option maxRecDepth 20000 in
theorem gX9_potsThatBoil_X5_boils_u151X2 : GoodIn wsX9_potsThatBoil (va_wsU RX9 151 RX2 "OneTimer$Pot" ⟨"OneTimer$Pot", "boils", "()Z"⟩ yX5_boils wsX5_boils) := goodIn_app (goodIn_of _ (by decide +kernel)) ggX9_potsThatBoil_X5_boils
set_option maxRecDepth 20000 in
theorem gX9_potsThatBoil_X5_boils : GoodIn wsX9_potsThatBoil (wsV RX9 151 RX5 yX5_boils wsX5_boils) := goodIn_app (goodIn_of _ (by decide +kernel)) ggX9_potsThatBoil_X5_boils
set_option maxRecDepth 20000 in
theorem gX9_potsThatBoil_X5_boils_u151X6 : GoodIn wsX9_potsThatBoil (va_wsU RX9 151 RX6 "OneTimer$Pot" ⟨"OneTimer$Pot", "boils", "()Z"⟩ yX5_boils wsX5_boils) := goodIn_app (goodIn_of _ (by decide +kernel)) ggX9_potsThatBoil_X5_boils
set_option maxRecDepth 20000 in
theorem gX9_potsThatBoil_X5_boils_u151X7 : GoodIn wsX9_potsThatBoil (va_wsU RX9 151 RX7 "OneTimer$Pot" ⟨"OneTimer$Pot", "boils", "()Z"⟩ yX5_boils wsX5_boils) := goodIn_app (goodIn_of _ (by decide +kernel)) ggX9_potsThatBoil_X5_boils
theorem dX9_potsThatBoil_0 : decode cX9_potsThatBoil 0 = .ok (.iconst 0, 1) := by decide +kernel
theorem dX9_potsThatBoil_1 : decode cX9_potsThatBoil 1 = .ok (.istore_n 1, 1) := by decide +kernel
theorem dX9_potsThatBoil_2 : decode cX9_potsThatBoil 2 = .ok (.iconst 0, 1) := by decide +kernel
theorem dX9_potsThatBoil_3 : decode cX9_potsThatBoil 3 = .ok (.istore_n 2, 1) := by decide +kernel
theorem dX9_potsThatBoil_4 : decode cX9_potsThatBoil 4 = .ok (.iload_n 2, 1) := by decide +kernel
theorem dX9_potsThatBoil_5 : decode cX9_potsThatBoil 5 = .ok (.aload_n 0, 1) := by decide +kernel
theorem dX9_potsThatBoil_6 : decode cX9_potsThatBoil 6 = .ok (.getfield 83, 3) := by decide +kernel
theorem dX9_potsThatBoil_9 : decode cX9_potsThatBoil 9 = .ok (.if_icmp .ge 29, 3) := by decide +kernel
theorem dX9_potsThatBoil_12 : decode cX9_potsThatBoil 12 = .ok (.aload_n 0, 1) := by decide +kernel
theorem dX9_potsThatBoil_13 : decode cX9_potsThatBoil 13 = .ok (.iload_n 2, 1) := by decide +kernel
theorem dX9_potsThatBoil_14 : decode cX9_potsThatBoil 14 = .ok (.invokevirtual 135, 3) := by decide +kernel
theorem dX9_potsThatBoil_17 : decode cX9_potsThatBoil 17 = .ok (.astore_n 3, 1) := by decide +kernel
theorem dX9_potsThatBoil_18 : decode cX9_potsThatBoil 18 = .ok (.aload_n 3, 1) := by decide +kernel
theorem dX9_potsThatBoil_19 : decode cX9_potsThatBoil 19 = .ok (.ifnull 13, 3) := by decide +kernel
theorem dX9_potsThatBoil_22 : decode cX9_potsThatBoil 22 = .ok (.aload_n 3, 1) := by decide +kernel
theorem dX9_potsThatBoil_23 : decode cX9_potsThatBoil 23 = .ok (.invokevirtual 151, 3) := by decide +kernel
theorem dX9_potsThatBoil_26 : decode cX9_potsThatBoil 26 = .ok (.ifCond .eq 6, 3) := by decide +kernel
theorem dX9_potsThatBoil_29 : decode cX9_potsThatBoil 29 = .ok (.iinc 1 1, 3) := by decide +kernel
theorem dX9_potsThatBoil_32 : decode cX9_potsThatBoil 32 = .ok (.iinc 2 1, 3) := by decide +kernel
theorem dX9_potsThatBoil_35 : decode cX9_potsThatBoil 35 = .ok (.goto (-31), 3) := by decide +kernel
theorem dX9_potsThatBoil_38 : decode cX9_potsThatBoil 38 = .ok (.iload_n 1, 1) := by decide +kernel
theorem dX9_potsThatBoil_39 : decode cX9_potsThatBoil 39 = .ok (.ireturn, 1) := by decide +kernel
set_option maxRecDepth 20000 in
theorem ggX9_digest_X9_digestOfPot : GoodIn wsX9_digest wsX9_digestOfPot := goodIn_r _ [10, 3, 11, 12, 13, 9, 14, 15, 16, 17, 18, 19, 20, 21, 22, 23, 2, 24, 25, 26, 27, 28, 29, 30, 31, 32, 33, 34, 35, 36, 37, 38, 39, 40, 41, 42, 43, 44, 45, 46, 47, 48, 49, 50, 51, 52, 53, 54, 55, 56, 57, 58, 59, 60, 61, 62, 63, 64, 65, 66, 67, 68, 69, 70, 71, 72, 73, 74, 75, 76, 77, 78, 79, 80, 81, 82, 83, 84, 85, 86, 87, 88, 89, 90, 91, 92, 93, 94, 95, 96, 97, 98, 99, 100, 101, 102, 103, 104, 105, 106, 107, 108, 109, 110, 111, 112, 113, 114, 115, 116, 117, 118, 119, 120, 121, 122, 123, 124, 125, 126, 127, 128, 129, 197, 198, 199, 200, 201, 202, 203, 204, 205, 206, 207, 208, 209, 210, 211, 212, 213, 214, 215, 216, 217, 218, 219, 220, 221, 222, 223, 224, 225, 226, 227, 228, 229, 230, 231, 177, 178, 179, 180, 181, 182, 183, 184, 185, 186, 187, 188, 189, 190, 191, 192, 193, 194] (by decide +kernel) (by decide +kernel)
set_option maxRecDepth 20000 in
theorem gX9_digest_X9_digestOfPot : GoodIn wsX9_digest (wsV RX9 248 RX9 yX9_digestOfPot wsX9_digestOfPot) := goodIn_app (goodIn_of _ (by decide +kernel)) ggX9_digest_X9_digestOfPot
set_option maxRecDepth 20000 in
theorem ggX9_digest_X9_hasKitchen : GoodIn wsX9_digest wsX9_hasKitchen := goodIn_r _ [133, 2, 177, 178, 179, 180, 181, 182, 183, 184, 185, 186, 187, 188, 189, 190, 191, 192, 193, 194] (by decide +kernel) (by decide +kernel)
set_option maxRecDepth 20000 in
theorem gX9_digest_X9_hasKitchen : GoodIn wsX9_digest (wsV RX9 170 RX9 yX9_hasKitchen wsX9_hasKitchen) := goodIn_app (goodIn_of _ (by decide +kernel)) ggX9_digest_X9_hasKitchen
set_option maxRecDepth 20000 in
theorem ggX9_digest_X9_wound : GoodIn wsX9_digest wsX9_wound := goodIn_r _ [137, 130, 131, 132, 9, 133, 2, 138, 139, 140, 141, 113, 142, 143, 144, 145, 146, 147, 148, 149, 150, 151, 102, 103, 152, 153, 154, 155, 177, 178, 179, 180, 181, 182, 183, 184, 185, 186, 187, 188, 189, 190, 191, 192, 193, 194, 232, 233, 234, 235] (by decide +kernel) (by decide +kernel)
set_option maxRecDepth 20000 in
theorem gX9_digest_X9_wound : GoodIn wsX9_digest (wsV RX9 254 RX9 yX9_wound wsX9_wound) := goodIn_app (goodIn_of _ (by decide +kernel)) ggX9_digest_X9_wound
set_option maxRecDepth 20000 in
theorem ggX9_digest_X3_codeAt : GoodIn wsX9_digest wsX3_codeAt := goodIn_r _ [160, 161, 162, 195, 196] (by decide +kernel) (by decide +kernel)
set_option maxRecDepth 20000 in
theorem gX9_digest_X3_codeAt : GoodIn wsX9_digest (wsV RX9 257 RX3 yX3_codeAt wsX3_codeAt) := goodIn_app (goodIn_of _ (by decide +kernel)) ggX9_digest_X3_codeAt
set_option maxRecDepth 20000 in
theorem ggX9_digest_X9_count : GoodIn wsX9_digest wsX9_count := goodIn_r _ [166, 2, 113, 167, 17, 168, 169, 142, 170, 4, 5, 171, 172, 173, 174, 175, 9, 176, 20, 21, 22, 23, 24, 71, 72, 73, 74, 40, 75, 76, 77, 78, 79, 80, 81, 177, 178, 179, 180, 181, 182, 183, 184, 185, 186, 187, 188, 189, 190, 191, 192, 193, 194, 232, 233, 234, 235, 195, 196, 197, 198, 199, 200, 201, 202, 203, 204, 205, 206, 207, 208, 209, 210, 211, 212, 213, 214, 215, 216, 217, 218, 219, 220, 221, 222, 223, 224, 225, 226, 227, 228, 229, 230, 231] (by decide +kernel) (by decide +kernel)
set_option maxRecDepth 20000 in
theorem gX9_digest_X9_count : GoodIn wsX9_digest (wsV RX9 260 RX9 yX9_count wsX9_count) := goodIn_app (goodIn_of _ (by decide +kernel)) ggX9_digest_X9_count
theorem dX9_digest_0 : decode cX9_digest 0 = .ok (.ldc2_w 246, 3) := by decide +kernel
theorem dX9_digest_3 : decode cX9_digest 3 = .ok (.lstore_n 1, 1) := by decide +kernel
theorem dX9_digest_4 : decode cX9_digest 4 = .ok (.iconst 0, 1) := by decide +kernel
theorem dX9_digest_5 : decode cX9_digest 5 = .ok (.istore_n 3, 1) := by decide +kernel
theorem dX9_digest_6 : decode cX9_digest 6 = .ok (.iload_n 3, 1) := by decide +kernel
theorem dX9_digest_7 : decode cX9_digest 7 = .ok (.aload_n 0, 1) := by decide +kernel
theorem dX9_digest_8 : decode cX9_digest 8 = .ok (.getfield 83, 3) := by decide +kernel
theorem dX9_digest_11 : decode cX9_digest 11 = .ok (.if_icmp .ge 16, 3) := by decide +kernel
theorem dX9_digest_14 : decode cX9_digest 14 = .ok (.aload_n 0, 1) := by decide +kernel
theorem dX9_digest_15 : decode cX9_digest 15 = .ok (.lload_n 1, 1) := by decide +kernel
theorem dX9_digest_16 : decode cX9_digest 16 = .ok (.iload_n 3, 1) := by decide +kernel
theorem dX9_digest_17 : decode cX9_digest 17 = .ok (.invokevirtual 248, 3) := by decide +kernel
theorem dX9_digest_20 : decode cX9_digest 20 = .ok (.lstore_n 1, 1) := by decide +kernel
theorem dX9_digest_21 : decode cX9_digest 21 = .ok (.iinc 3 1, 3) := by decide +kernel
theorem dX9_digest_24 : decode cX9_digest 24 = .ok (.goto (-18), 3) := by decide +kernel
theorem dX9_digest_27 : decode cX9_digest 27 = .ok (.aload_n 0, 1) := by decide +kernel
theorem dX9_digest_28 : decode cX9_digest 28 = .ok (.invokevirtual 170, 3) := by decide +kernel
theorem dX9_digest_31 : decode cX9_digest 31 = .ok (.ifCond .eq 29, 3) := by decide +kernel
theorem dX9_digest_34 : decode cX9_digest 34 = .ok (.ldc2_w 252, 3) := by decide +kernel
theorem dX9_digest_37 : decode cX9_digest 37 = .ok (.lload_n 1, 1) := by decide +kernel
theorem dX9_digest_38 : decode cX9_digest 38 = .ok (.lmul, 1) := by decide +kernel
theorem dX9_digest_39 : decode cX9_digest 39 = .ok (.aload_n 0, 1) := by decide +kernel
theorem dX9_digest_40 : decode cX9_digest 40 = .ok (.iconst 0, 1) := by decide +kernel
theorem dX9_digest_41 : decode cX9_digest 41 = .ok (.invokevirtual 254, 3) := by decide +kernel
theorem dX9_digest_44 : decode cX9_digest 44 = .ok (.i2l, 1) := by decide +kernel
theorem dX9_digest_45 : decode cX9_digest 45 = .ok (.ladd, 1) := by decide +kernel
theorem dX9_digest_46 : decode cX9_digest 46 = .ok (.lstore_n 1, 1) := by decide +kernel
theorem dX9_digest_47 : decode cX9_digest 47 = .ok (.ldc2_w 252, 3) := by decide +kernel
theorem dX9_digest_50 : decode cX9_digest 50 = .ok (.lload_n 1, 1) := by decide +kernel
theorem dX9_digest_51 : decode cX9_digest 51 = .ok (.lmul, 1) := by decide +kernel
theorem dX9_digest_52 : decode cX9_digest 52 = .ok (.aload_n 0, 1) := by decide +kernel
theorem dX9_digest_53 : decode cX9_digest 53 = .ok (.iconst 1, 1) := by decide +kernel
theorem dX9_digest_54 : decode cX9_digest 54 = .ok (.invokevirtual 254, 3) := by decide +kernel
theorem dX9_digest_57 : decode cX9_digest 57 = .ok (.i2l, 1) := by decide +kernel
theorem dX9_digest_58 : decode cX9_digest 58 = .ok (.ladd, 1) := by decide +kernel
theorem dX9_digest_59 : decode cX9_digest 59 = .ok (.lstore_n 1, 1) := by decide +kernel
theorem dX9_digest_60 : decode cX9_digest 60 = .ok (.iconst 0, 1) := by decide +kernel
theorem dX9_digest_61 : decode cX9_digest 61 = .ok (.istore_n 3, 1) := by decide +kernel
theorem dX9_digest_62 : decode cX9_digest 62 = .ok (.iload_n 3, 1) := by decide +kernel
theorem dX9_digest_63 : decode cX9_digest 63 = .ok (.aload_n 0, 1) := by decide +kernel
theorem dX9_digest_64 : decode cX9_digest 64 = .ok (.getfield 10, 3) := by decide +kernel
theorem dX9_digest_67 : decode cX9_digest 67 = .ok (.getfield 50, 3) := by decide +kernel
theorem dX9_digest_70 : decode cX9_digest 70 = .ok (.if_icmp .ge 25, 3) := by decide +kernel
theorem dX9_digest_73 : decode cX9_digest 73 = .ok (.ldc2_w 252, 3) := by decide +kernel
theorem dX9_digest_76 : decode cX9_digest 76 = .ok (.lload_n 1, 1) := by decide +kernel
theorem dX9_digest_77 : decode cX9_digest 77 = .ok (.lmul, 1) := by decide +kernel
theorem dX9_digest_78 : decode cX9_digest 78 = .ok (.aload_n 0, 1) := by decide +kernel
theorem dX9_digest_79 : decode cX9_digest 79 = .ok (.getfield 10, 3) := by decide +kernel
theorem dX9_digest_82 : decode cX9_digest 82 = .ok (.iload_n 3, 1) := by decide +kernel
theorem dX9_digest_83 : decode cX9_digest 83 = .ok (.invokevirtual 257, 3) := by decide +kernel
theorem dX9_digest_86 : decode cX9_digest 86 = .ok (.i2l, 1) := by decide +kernel
theorem dX9_digest_87 : decode cX9_digest 87 = .ok (.ladd, 1) := by decide +kernel
theorem dX9_digest_88 : decode cX9_digest 88 = .ok (.lstore_n 1, 1) := by decide +kernel
theorem dX9_digest_89 : decode cX9_digest 89 = .ok (.iinc 3 1, 3) := by decide +kernel
theorem dX9_digest_92 : decode cX9_digest 92 = .ok (.goto (-30), 3) := by decide +kernel
theorem dX9_digest_95 : decode cX9_digest 95 = .ok (.iconst 0, 1) := by decide +kernel
theorem dX9_digest_96 : decode cX9_digest 96 = .ok (.istore_n 3, 1) := by decide +kernel
theorem dX9_digest_97 : decode cX9_digest 97 = .ok (.iload_n 3, 1) := by decide +kernel
theorem dX9_digest_98 : decode cX9_digest 98 = .ok (.bipush 10, 2) := by decide +kernel
theorem dX9_digest_100 : decode cX9_digest 100 = .ok (.if_icmp .gt 22, 3) := by decide +kernel
theorem dX9_digest_103 : decode cX9_digest 103 = .ok (.ldc2_w 252, 3) := by decide +kernel
theorem dX9_digest_106 : decode cX9_digest 106 = .ok (.lload_n 1, 1) := by decide +kernel
theorem dX9_digest_107 : decode cX9_digest 107 = .ok (.lmul, 1) := by decide +kernel
theorem dX9_digest_108 : decode cX9_digest 108 = .ok (.aload_n 0, 1) := by decide +kernel
theorem dX9_digest_109 : decode cX9_digest 109 = .ok (.iload_n 3, 1) := by decide +kernel
theorem dX9_digest_110 : decode cX9_digest 110 = .ok (.invokevirtual 260, 3) := by decide +kernel
theorem dX9_digest_113 : decode cX9_digest 113 = .ok (.i2l, 1) := by decide +kernel
theorem dX9_digest_114 : decode cX9_digest 114 = .ok (.ladd, 1) := by decide +kernel
theorem dX9_digest_115 : decode cX9_digest 115 = .ok (.lstore_n 1, 1) := by decide +kernel
theorem dX9_digest_116 : decode cX9_digest 116 = .ok (.iinc 3 1, 3) := by decide +kernel
theorem dX9_digest_119 : decode cX9_digest 119 = .ok (.goto (-22), 3) := by decide +kernel
theorem dX9_digest_122 : decode cX9_digest 122 = .ok (.lload_n 1, 1) := by decide +kernel
theorem dX9_digest_123 : decode cX9_digest 123 = .ok (.lreturn, 1) := by decide +kernel
set_option maxRecDepth 20000 in
theorem ggX9_digestOfPot_X9_about : GoodIn wsX9_digestOfPot wsX9_about := goodIn_r _ [6, 7, 8, 9, 10, 11, 12, 13, 14, 5, 15, 16, 17, 18, 19, 20, 21, 22, 23, 24, 25, 26, 27, 28, 29, 30, 31, 32, 33, 34, 35, 36, 37, 38, 39, 40, 41, 42, 43, 44, 45, 46, 47, 48, 49, 50, 51, 52, 53, 54, 55, 56, 57, 58, 59, 60, 61, 62, 63, 64, 65, 66, 67, 68, 69, 70, 71, 72, 73, 74, 75, 76, 77, 78, 79, 80, 81, 82, 83, 84, 85, 86, 87, 88, 89, 90, 91, 92, 93, 94, 95, 96, 97, 98, 99, 100, 101, 123, 124, 125, 126, 127, 128, 129, 130, 131, 132, 133, 134, 135, 136, 137, 138, 139, 140, 141, 142, 143, 144, 145, 146, 147, 148, 149, 150, 151, 152, 153, 154, 155, 156, 157, 158, 159, 160, 161, 162, 163, 164, 165, 166, 167, 168, 169, 170, 171, 172, 173, 174, 175] (by decide +kernel) (by decide +kernel)
set_option maxRecDepth 20000 in
theorem gX9_digestOfPot_X9_about : GoodIn wsX9_digestOfPot (wsV RX9 263 RX9 yX9_about wsX9_about) := goodIn_app (goodIn_of _ (by decide +kernel)) ggX9_digestOfPot_X9_about
set_option maxRecDepth 20000 in
theorem ggX9_digestOfPot_X9_potAt : GoodIn wsX9_digestOfPot wsX9_potAt := goodIn_r _ [15, 16, 17, 158, 159, 160, 161, 162, 163, 164, 165, 166, 167, 168, 169, 170, 171, 172, 173, 174, 175] (by decide +kernel) (by decide +kernel)
set_option maxRecDepth 20000 in
theorem gX9_digestOfPot_X9_potAt : GoodIn wsX9_digestOfPot (wsV RX9 135 RX9 yX9_potAt wsX9_potAt) := goodIn_app (goodIn_of _ (by decide +kernel)) ggX9_digestOfPot_X9_potAt
set_option maxRecDepth 20000 in
theorem ggX9_digestOfPot_X5_boils : GoodIn wsX9_digestOfPot wsX5_boils := goodIn_r _ [68, 69, 123, 124, 125, 126, 127, 128, 129, 130, 131, 132, 133, 134, 135, 136, 137, 138, 139, 140, 141, 142, 143, 144, 145, 146, 147, 148, 149, 150, 151, 152, 153, 154, 155, 156, 157] (by decide +kernel) (by decide +kernel)
set_option maxRecDepth 20000 in
theorem gX9_digestOfPot_X5_boils_u151X0 : GoodIn wsX9_digestOfPot (va_wsU RX9 151 RX0 "OneTimer$Pot" ⟨"OneTimer$Pot", "boils", "()Z"⟩ yX5_boils wsX5_boils) := goodIn_app (goodIn_of _ (by decide +kernel)) ggX9_digestOfPot_X5_boils
set_option maxRecDepth 20000 in
theorem gX9_digestOfPot_X5_boils_u151X2 : GoodIn wsX9_digestOfPot (va_wsU RX9 151 RX2 "OneTimer$Pot" ⟨"OneTimer$Pot", "boils", "()Z"⟩ yX5_boils wsX5_boils) := goodIn_app (goodIn_of _ (by decide +kernel)) ggX9_digestOfPot_X5_boils
set_option maxRecDepth 20000 in
theorem gX9_digestOfPot_X5_boils : GoodIn wsX9_digestOfPot (wsV RX9 151 RX5 yX5_boils wsX5_boils) := goodIn_app (goodIn_of _ (by decide +kernel)) ggX9_digestOfPot_X5_boils
set_option maxRecDepth 20000 in
theorem gX9_digestOfPot_X5_boils_u151X6 : GoodIn wsX9_digestOfPot (va_wsU RX9 151 RX6 "OneTimer$Pot" ⟨"OneTimer$Pot", "boils", "()Z"⟩ yX5_boils wsX5_boils) := goodIn_app (goodIn_of _ (by decide +kernel)) ggX9_digestOfPot_X5_boils
set_option maxRecDepth 20000 in
theorem gX9_digestOfPot_X5_boils_u151X7 : GoodIn wsX9_digestOfPot (va_wsU RX9 151 RX7 "OneTimer$Pot" ⟨"OneTimer$Pot", "boils", "()Z"⟩ yX5_boils wsX5_boils) := goodIn_app (goodIn_of _ (by decide +kernel)) ggX9_digestOfPot_X5_boils
set_option maxRecDepth 20000 in
theorem ggX9_digestOfPot_X9_bestWinding : GoodIn wsX9_digestOfPot wsX9_bestWinding := goodIn_r _ [105, 9, 106, 107, 108, 109, 110, 33, 111, 112, 87, 88, 89, 90, 91, 76, 77, 78, 79, 69, 80, 81, 92, 83, 84, 85, 93, 43, 44, 45, 46, 23, 47, 48, 49, 50, 51, 36, 52, 53, 54, 55, 28, 56, 94, 58, 59, 60, 61, 62, 40, 63, 95, 5, 96, 97, 113, 99, 100, 101, 114, 115, 116, 117, 118, 158, 159, 160, 161, 162, 163, 164, 165, 166, 167, 168, 169, 170, 171, 172, 173, 174, 175, 123, 124, 125, 126, 127, 128, 129, 130, 131, 132, 133, 134, 135, 136, 137, 138, 139, 140, 141, 142, 143, 144, 145, 146, 147, 148, 149, 150, 151, 152, 153, 154, 155, 156, 157] (by decide +kernel) (by decide +kernel)
set_option maxRecDepth 20000 in
theorem gX9_digestOfPot_X9_bestWinding : GoodIn wsX9_digestOfPot (wsV RX9 199 RX9 yX9_bestWinding wsX9_bestWinding) := goodIn_app (goodIn_of _ (by decide +kernel)) ggX9_digestOfPot_X9_bestWinding
set_option maxRecDepth 20000 in
theorem ggX9_digestOfPot_X9_together : GoodIn wsX9_digestOfPot wsX9_together := goodIn_r _ [122, 7, 9, 12, 13, 14, 5, 15, 16, 17, 123, 124, 125, 126, 127, 128, 129, 130, 131, 132, 133, 134, 135, 136, 137, 138, 139, 140, 141, 142, 143, 144, 145, 146, 147, 148, 149, 150, 151, 152, 153, 154, 155, 156, 157, 158, 159, 160, 161, 162, 163, 164, 165, 166, 167, 168, 169, 170, 171, 172, 173, 174, 175] (by decide +kernel) (by decide +kernel)
set_option maxRecDepth 20000 in
theorem gX9_digestOfPot_X9_together : GoodIn wsX9_digestOfPot (wsV RX9 266 RX9 yX9_together wsX9_together) := goodIn_app (goodIn_of _ (by decide +kernel)) ggX9_digestOfPot_X9_together
theorem dX9_digestOfPot_0 : decode cX9_digestOfPot 0 = .ok (.lload_n 1, 1) := by decide +kernel
theorem dX9_digestOfPot_1 : decode cX9_digestOfPot 1 = .ok (.lstore 4, 2) := by decide +kernel
theorem dX9_digestOfPot_3 : decode cX9_digestOfPot 3 = .ok (.iconst 0, 1) := by decide +kernel
theorem dX9_digestOfPot_4 : decode cX9_digestOfPot 4 = .ok (.istore 6, 2) := by decide +kernel
theorem dX9_digestOfPot_6 : decode cX9_digestOfPot 6 = .ok (.iload 6, 2) := by decide +kernel
theorem dX9_digestOfPot_8 : decode cX9_digestOfPot 8 = .ok (.bipush 7, 2) := by decide +kernel
theorem dX9_digestOfPot_10 : decode cX9_digestOfPot 10 = .ok (.if_icmp .gt 26, 3) := by decide +kernel
theorem dX9_digestOfPot_13 : decode cX9_digestOfPot 13 = .ok (.ldc2_w 252, 3) := by decide +kernel
theorem dX9_digestOfPot_16 : decode cX9_digestOfPot 16 = .ok (.lload 4, 2) := by decide +kernel
theorem dX9_digestOfPot_18 : decode cX9_digestOfPot 18 = .ok (.lmul, 1) := by decide +kernel
theorem dX9_digestOfPot_19 : decode cX9_digestOfPot 19 = .ok (.aload_n 0, 1) := by decide +kernel
theorem dX9_digestOfPot_20 : decode cX9_digestOfPot 20 = .ok (.iload_n 3, 1) := by decide +kernel
theorem dX9_digestOfPot_21 : decode cX9_digestOfPot 21 = .ok (.iload 6, 2) := by decide +kernel
theorem dX9_digestOfPot_23 : decode cX9_digestOfPot 23 = .ok (.invokevirtual 263, 3) := by decide +kernel
theorem dX9_digestOfPot_26 : decode cX9_digestOfPot 26 = .ok (.i2l, 1) := by decide +kernel
theorem dX9_digestOfPot_27 : decode cX9_digestOfPot 27 = .ok (.ladd, 1) := by decide +kernel
theorem dX9_digestOfPot_28 : decode cX9_digestOfPot 28 = .ok (.lstore 4, 2) := by decide +kernel
theorem dX9_digestOfPot_30 : decode cX9_digestOfPot 30 = .ok (.iinc 6 1, 3) := by decide +kernel
theorem dX9_digestOfPot_33 : decode cX9_digestOfPot 33 = .ok (.goto (-27), 3) := by decide +kernel
theorem dX9_digestOfPot_36 : decode cX9_digestOfPot 36 = .ok (.aload_n 0, 1) := by decide +kernel
theorem dX9_digestOfPot_37 : decode cX9_digestOfPot 37 = .ok (.iload_n 3, 1) := by decide +kernel
theorem dX9_digestOfPot_38 : decode cX9_digestOfPot 38 = .ok (.invokevirtual 135, 3) := by decide +kernel
theorem dX9_digestOfPot_41 : decode cX9_digestOfPot 41 = .ok (.astore 6, 2) := by decide +kernel
theorem dX9_digestOfPot_43 : decode cX9_digestOfPot 43 = .ok (.ldc2_w 252, 3) := by decide +kernel
theorem dX9_digestOfPot_46 : decode cX9_digestOfPot 46 = .ok (.lload 4, 2) := by decide +kernel
theorem dX9_digestOfPot_48 : decode cX9_digestOfPot 48 = .ok (.lmul, 1) := by decide +kernel
theorem dX9_digestOfPot_49 : decode cX9_digestOfPot 49 = .ok (.aload 6, 2) := by decide +kernel
theorem dX9_digestOfPot_51 : decode cX9_digestOfPot 51 = .ok (.ifnull 20, 3) := by decide +kernel
theorem dX9_digestOfPot_54 : decode cX9_digestOfPot 54 = .ok (.aload 6, 2) := by decide +kernel
theorem dX9_digestOfPot_56 : decode cX9_digestOfPot 56 = .ok (.invokevirtual 151, 3) := by decide +kernel
theorem dX9_digestOfPot_59 : decode cX9_digestOfPot 59 = .ok (.ifCond .eq 12, 3) := by decide +kernel
theorem dX9_digestOfPot_62 : decode cX9_digestOfPot 62 = .ok (.aload_n 0, 1) := by decide +kernel
theorem dX9_digestOfPot_63 : decode cX9_digestOfPot 63 = .ok (.aload 6, 2) := by decide +kernel
theorem dX9_digestOfPot_65 : decode cX9_digestOfPot 65 = .ok (.invokevirtual 199, 3) := by decide +kernel
theorem dX9_digestOfPot_68 : decode cX9_digestOfPot 68 = .ok (.goto 4, 3) := by decide +kernel
theorem dX9_digestOfPot_71 : decode cX9_digestOfPot 71 = .ok (.iconst 0, 1) := by decide +kernel
theorem dX9_digestOfPot_72 : decode cX9_digestOfPot 72 = .ok (.i2l, 1) := by decide +kernel
theorem dX9_digestOfPot_73 : decode cX9_digestOfPot 73 = .ok (.ladd, 1) := by decide +kernel
theorem dX9_digestOfPot_74 : decode cX9_digestOfPot 74 = .ok (.lstore 4, 2) := by decide +kernel
theorem dX9_digestOfPot_76 : decode cX9_digestOfPot 76 = .ok (.ldc2_w 252, 3) := by decide +kernel
theorem dX9_digestOfPot_79 : decode cX9_digestOfPot 79 = .ok (.lload 4, 2) := by decide +kernel
theorem dX9_digestOfPot_81 : decode cX9_digestOfPot 81 = .ok (.lmul, 1) := by decide +kernel
theorem dX9_digestOfPot_82 : decode cX9_digestOfPot 82 = .ok (.aload_n 0, 1) := by decide +kernel
theorem dX9_digestOfPot_83 : decode cX9_digestOfPot 83 = .ok (.iload_n 3, 1) := by decide +kernel
theorem dX9_digestOfPot_84 : decode cX9_digestOfPot 84 = .ok (.bipush 60, 2) := by decide +kernel
theorem dX9_digestOfPot_86 : decode cX9_digestOfPot 86 = .ok (.invokevirtual 266, 3) := by decide +kernel
theorem dX9_digestOfPot_89 : decode cX9_digestOfPot 89 = .ok (.i2l, 1) := by decide +kernel
theorem dX9_digestOfPot_90 : decode cX9_digestOfPot 90 = .ok (.ladd, 1) := by decide +kernel
theorem dX9_digestOfPot_91 : decode cX9_digestOfPot 91 = .ok (.lreturn, 1) := by decide +kernel
theorem dX9_outBy_0 : decode cX9_outBy 0 = .ok (.iload_n 0, 1) := by decide +kernel
theorem dX9_outBy_1 : decode cX9_outBy 1 = .ok (.ifCond .ge 8, 3) := by decide +kernel
theorem dX9_outBy_4 : decode cX9_outBy 4 = .ok (.bipush 100, 2) := by decide +kernel
theorem dX9_outBy_6 : decode cX9_outBy 6 = .ok (.iload_n 0, 1) := by decide +kernel
theorem dX9_outBy_7 : decode cX9_outBy 7 = .ok (.iadd, 1) := by decide +kernel
theorem dX9_outBy_8 : decode cX9_outBy 8 = .ok (.ireturn, 1) := by decide +kernel
theorem dX9_outBy_9 : decode cX9_outBy 9 = .ok (.iload_n 0, 1) := by decide +kernel
theorem dX9_outBy_10 : decode cX9_outBy 10 = .ok (.iload_n 1, 1) := by decide +kernel
theorem dX9_outBy_11 : decode cX9_outBy 11 = .ok (.if_icmp .gt 8, 3) := by decide +kernel
theorem dX9_outBy_14 : decode cX9_outBy 14 = .ok (.bipush 100, 2) := by decide +kernel
theorem dX9_outBy_16 : decode cX9_outBy 16 = .ok (.goto 9, 3) := by decide +kernel
theorem dX9_outBy_19 : decode cX9_outBy 19 = .ok (.bipush 100, 2) := by decide +kernel
theorem dX9_outBy_21 : decode cX9_outBy 21 = .ok (.iload_n 0, 1) := by decide +kernel
theorem dX9_outBy_22 : decode cX9_outBy 22 = .ok (.iadd, 1) := by decide +kernel
theorem dX9_outBy_23 : decode cX9_outBy 23 = .ok (.iload_n 1, 1) := by decide +kernel
theorem dX9_outBy_24 : decode cX9_outBy 24 = .ok (.isub, 1) := by decide +kernel
theorem dX9_outBy_25 : decode cX9_outBy 25 = .ok (.ireturn, 1) := by decide +kernel
theorem dX10_init_0 : decode cX10_init 0 = .ok (.aload_n 0, 1) := by decide +kernel
theorem dX10_init_1 : decode cX10_init 1 = .ok (.invokespecial 1, 3) := by decide +kernel
theorem dX10_init_4 : decode cX10_init 4 = .ok (.aload_n 0, 1) := by decide +kernel
theorem dX10_init_5 : decode cX10_init 5 = .ok (.iconst 4, 1) := by decide +kernel
theorem dX10_init_6 : decode cX10_init 6 = .ok (.newarray .int, 2) := by decide +kernel
theorem dX10_init_8 : decode cX10_init 8 = .ok (.putfield 7, 3) := by decide +kernel
theorem dX10_init_11 : decode cX10_init 11 = .ok (.aload_n 0, 1) := by decide +kernel
theorem dX10_init_12 : decode cX10_init 12 = .ok (.iconst 4, 1) := by decide +kernel
theorem dX10_init_13 : decode cX10_init 13 = .ok (.newarray .int, 2) := by decide +kernel
theorem dX10_init_15 : decode cX10_init 15 = .ok (.putfield 13, 3) := by decide +kernel
theorem dX10_init_18 : decode cX10_init 18 = .ok (.aload_n 0, 1) := by decide +kernel
theorem dX10_init_19 : decode cX10_init 19 = .ok (.iconst 4, 1) := by decide +kernel
theorem dX10_init_20 : decode cX10_init 20 = .ok (.newarray .int, 2) := by decide +kernel
theorem dX10_init_22 : decode cX10_init 22 = .ok (.putfield 16, 3) := by decide +kernel
theorem dX10_init_25 : decode cX10_init 25 = .ok (.aload_n 0, 1) := by decide +kernel
theorem dX10_init_26 : decode cX10_init 26 = .ok (.iconst 4, 1) := by decide +kernel
theorem dX10_init_27 : decode cX10_init 27 = .ok (.newarray .int, 2) := by decide +kernel
theorem dX10_init_29 : decode cX10_init 29 = .ok (.putfield 19, 3) := by decide +kernel
theorem dX10_init_32 : decode cX10_init 32 = .ok (.aload_n 0, 1) := by decide +kernel
theorem dX10_init_33 : decode cX10_init 33 = .ok (.iconst 4, 1) := by decide +kernel
theorem dX10_init_34 : decode cX10_init 34 = .ok (.newarray .int, 2) := by decide +kernel
theorem dX10_init_36 : decode cX10_init 36 = .ok (.putfield 22, 3) := by decide +kernel
theorem dX10_init_39 : decode cX10_init 39 = .ok (.aload_n 0, 1) := by decide +kernel
theorem dX10_init_40 : decode cX10_init 40 = .ok (.bipush 6, 2) := by decide +kernel
theorem dX10_init_42 : decode cX10_init 42 = .ok (.newarray .int, 2) := by decide +kernel
theorem dX10_init_44 : decode cX10_init 44 = .ok (.putfield 25, 3) := by decide +kernel
theorem dX10_init_47 : decode cX10_init 47 = .ok (.aload_n 0, 1) := by decide +kernel
theorem dX10_init_48 : decode cX10_init 48 = .ok (.bipush 6, 2) := by decide +kernel
theorem dX10_init_50 : decode cX10_init 50 = .ok (.newarray .int, 2) := by decide +kernel
theorem dX10_init_52 : decode cX10_init 52 = .ok (.putfield 28, 3) := by decide +kernel
theorem dX10_init_55 : decode cX10_init 55 = .ok (.aload_n 0, 1) := by decide +kernel
theorem dX10_init_56 : decode cX10_init 56 = .ok (.bipush 6, 2) := by decide +kernel
end
section
theorem dX10_init_58 : decode cX10_init 58 = .ok (.newarray .int, 2) := by decide +kernel
theorem dX10_init_60 : decode cX10_init 60 = .ok (.putfield 31, 3) := by decide +kernel
theorem dX10_init_63 : decode cX10_init 63 = .ok (.aload_n 0, 1) := by decide +kernel
theorem dX10_init_64 : decode cX10_init 64 = .ok (.bipush 6, 2) := by decide +kernel
theorem dX10_init_66 : decode cX10_init 66 = .ok (.newarray .int, 2) := by decide +kernel
theorem dX10_init_68 : decode cX10_init 68 = .ok (.putfield 34, 3) := by decide +kernel
theorem dX10_init_71 : decode cX10_init 71 = .ok (.aload_n 0, 1) := by decide +kernel
theorem dX10_init_72 : decode cX10_init 72 = .ok (.bipush 21, 2) := by decide +kernel
theorem dX10_init_74 : decode cX10_init 74 = .ok (.newarray .byte, 2) := by decide +kernel
theorem dX10_init_76 : decode cX10_init 76 = .ok (.putfield 37, 3) := by decide +kernel
theorem dX10_init_79 : decode cX10_init 79 = .ok (.aload_n 0, 1) := by decide +kernel
theorem dX10_init_80 : decode cX10_init 80 = .ok (.sipush 1936, 3) := by decide +kernel
theorem dX10_init_83 : decode cX10_init 83 = .ok (.newarray .int, 2) := by decide +kernel
theorem dX10_init_85 : decode cX10_init 85 = .ok (.putfield 41, 3) := by decide +kernel
theorem dX10_init_88 : decode cX10_init 88 = .ok (.aload_n 0, 1) := by decide +kernel
theorem dX10_init_89 : decode cX10_init 89 = .ok (.sipush 1936, 3) := by decide +kernel
theorem dX10_init_92 : decode cX10_init 92 = .ok (.newarray .int, 2) := by decide +kernel
theorem dX10_init_94 : decode cX10_init 94 = .ok (.putfield 44, 3) := by decide +kernel
theorem dX10_init_97 : decode cX10_init 97 = .ok (.aload_n 0, 1) := by decide +kernel
theorem dX10_init_98 : decode cX10_init 98 = .ok (.iconst 4, 1) := by decide +kernel
theorem dX10_init_99 : decode cX10_init 99 = .ok (.newarray .int, 2) := by decide +kernel
theorem dX10_init_101 : decode cX10_init 101 = .ok (.putfield 47, 3) := by decide +kernel
theorem dX10_init_104 : decode cX10_init 104 = .ok (.aload_n 0, 1) := by decide +kernel
theorem dX10_init_105 : decode cX10_init 105 = .ok (.iconst 4, 1) := by decide +kernel
theorem dX10_init_106 : decode cX10_init 106 = .ok (.newarray .int, 2) := by decide +kernel
theorem dX10_init_108 : decode cX10_init 108 = .ok (.putfield 50, 3) := by decide +kernel
theorem dX10_init_111 : decode cX10_init 111 = .ok (.aload_n 0, 1) := by decide +kernel
theorem dX10_init_112 : decode cX10_init 112 = .ok (.iconst 4, 1) := by decide +kernel
theorem dX10_init_113 : decode cX10_init 113 = .ok (.newarray .int, 2) := by decide +kernel
theorem dX10_init_115 : decode cX10_init 115 = .ok (.putfield 53, 3) := by decide +kernel
theorem dX10_init_118 : decode cX10_init 118 = .ok (.aload_n 0, 1) := by decide +kernel
theorem dX10_init_119 : decode cX10_init 119 = .ok (.bipush 6, 2) := by decide +kernel
theorem dX10_init_121 : decode cX10_init 121 = .ok (.newarray .int, 2) := by decide +kernel
theorem dX10_init_123 : decode cX10_init 123 = .ok (.putfield 56, 3) := by decide +kernel
theorem dX10_init_126 : decode cX10_init 126 = .ok (.aload_n 0, 1) := by decide +kernel
theorem dX10_init_127 : decode cX10_init 127 = .ok (.bipush 6, 2) := by decide +kernel
theorem dX10_init_129 : decode cX10_init 129 = .ok (.newarray .int, 2) := by decide +kernel
theorem dX10_init_131 : decode cX10_init 131 = .ok (.putfield 59, 3) := by decide +kernel
theorem dX10_init_134 : decode cX10_init 134 = .ok (.aload_n 0, 1) := by decide +kernel
theorem dX10_init_135 : decode cX10_init 135 = .ok (.bipush 6, 2) := by decide +kernel
theorem dX10_init_137 : decode cX10_init 137 = .ok (.newarray .int, 2) := by decide +kernel
theorem dX10_init_139 : decode cX10_init 139 = .ok (.putfield 62, 3) := by decide +kernel
theorem dX10_init_142 : decode cX10_init 142 = .ok (.aload_n 0, 1) := by decide +kernel
theorem dX10_init_143 : decode cX10_init 143 = .ok (.bipush 6, 2) := by decide +kernel
theorem dX10_init_145 : decode cX10_init 145 = .ok (.newarray .int, 2) := by decide +kernel
theorem dX10_init_147 : decode cX10_init 147 = .ok (.putfield 65, 3) := by decide +kernel
theorem dX10_init_150 : decode cX10_init 150 = .ok (.return_, 1) := by decide +kernel
theorem dX10_within_0 : decode cX10_within 0 = .ok (.iload_n 0, 1) := by decide +kernel
theorem dX10_within_1 : decode cX10_within 1 = .ok (.iload_n 1, 1) := by decide +kernel
theorem dX10_within_2 : decode cX10_within 2 = .ok (.if_icmp .lt 12, 3) := by decide +kernel
theorem dX10_within_5 : decode cX10_within 5 = .ok (.iload_n 0, 1) := by decide +kernel
theorem dX10_within_6 : decode cX10_within 6 = .ok (.iload_n 2, 1) := by decide +kernel
theorem dX10_within_7 : decode cX10_within 7 = .ok (.if_icmp .gt 7, 3) := by decide +kernel
theorem dX10_within_10 : decode cX10_within 10 = .ok (.iconst 1, 1) := by decide +kernel
theorem dX10_within_11 : decode cX10_within 11 = .ok (.goto 4, 3) := by decide +kernel
theorem dX10_within_14 : decode cX10_within 14 = .ok (.iconst 0, 1) := by decide +kernel
theorem dX10_within_15 : decode cX10_within 15 = .ok (.ireturn, 1) := by decide +kernel
set_option maxRecDepth 20000 in
theorem ggX10_letter_X10_within : GoodIn wsX10_letter wsX10_within := goodIn_r _ [6] (by decide +kernel) (by decide +kernel)
set_option maxRecDepth 20000 in
theorem gX10_letter_X10_within : GoodIn wsX10_letter (va_wsS RX10 68 yX10_within wsX10_within) := goodIn_app (goodIn_of _ (by decide +kernel)) ggX10_letter_X10_within
theorem dX10_letter_0 : decode cX10_letter 0 = .ok (.iload_n 1, 1) := by decide +kernel
theorem dX10_letter_1 : decode cX10_letter 1 = .ok (.bipush 32, 2) := by decide +kernel
theorem dX10_letter_3 : decode cX10_letter 3 = .ok (.bipush 126, 2) := by decide +kernel
theorem dX10_letter_5 : decode cX10_letter 5 = .ok (.invokestatic 68, 3) := by decide +kernel
theorem dX10_letter_8 : decode cX10_letter 8 = .ok (.ifCond .ne 6, 3) := by decide +kernel
theorem dX10_letter_11 : decode cX10_letter 11 = .ok (.bipush (-102), 2) := by decide +kernel
theorem dX10_letter_13 : decode cX10_letter 13 = .ok (.ireturn, 1) := by decide +kernel
theorem dX10_letter_14 : decode cX10_letter 14 = .ok (.aload_n 0, 1) := by decide +kernel
theorem dX10_letter_15 : decode cX10_letter 15 = .ok (.getfield 72, 3) := by decide +kernel
theorem dX10_letter_18 : decode cX10_letter 18 = .ok (.bipush 21, 2) := by decide +kernel
theorem dX10_letter_20 : decode cX10_letter 20 = .ok (.if_icmp .ne 6, 3) := by decide +kernel
theorem dX10_letter_23 : decode cX10_letter 23 = .ok (.bipush (-104), 2) := by decide +kernel
theorem dX10_letter_25 : decode cX10_letter 25 = .ok (.ireturn, 1) := by decide +kernel
theorem dX10_letter_26 : decode cX10_letter 26 = .ok (.aload_n 0, 1) := by decide +kernel
theorem dX10_letter_27 : decode cX10_letter 27 = .ok (.getfield 37, 3) := by decide +kernel
theorem dX10_letter_30 : decode cX10_letter 30 = .ok (.aload_n 0, 1) := by decide +kernel
theorem dX10_letter_31 : decode cX10_letter 31 = .ok (.getfield 72, 3) := by decide +kernel
theorem dX10_letter_34 : decode cX10_letter 34 = .ok (.iload_n 1, 1) := by decide +kernel
theorem dX10_letter_35 : decode cX10_letter 35 = .ok (.i2b, 1) := by decide +kernel
theorem dX10_letter_36 : decode cX10_letter 36 = .ok (.bastore, 1) := by decide +kernel
theorem dX10_letter_37 : decode cX10_letter 37 = .ok (.aload_n 0, 1) := by decide +kernel
theorem dX10_letter_38 : decode cX10_letter 38 = .ok (.dup, 1) := by decide +kernel
theorem dX10_letter_39 : decode cX10_letter 39 = .ok (.getfield 72, 3) := by decide +kernel
theorem dX10_letter_42 : decode cX10_letter 42 = .ok (.iconst 1, 1) := by decide +kernel
theorem dX10_letter_43 : decode cX10_letter 43 = .ok (.iadd, 1) := by decide +kernel
theorem dX10_letter_44 : decode cX10_letter 44 = .ok (.putfield 72, 3) := by decide +kernel
theorem dX10_letter_47 : decode cX10_letter 47 = .ok (.aload_n 0, 1) := by decide +kernel
theorem dX10_letter_48 : decode cX10_letter 48 = .ok (.getfield 72, 3) := by decide +kernel
theorem dX10_letter_51 : decode cX10_letter 51 = .ok (.ireturn, 1) := by decide +kernel
theorem dX10_blank_0 : decode cX10_blank 0 = .ok (.aload_n 0, 1) := by decide +kernel
theorem dX10_blank_1 : decode cX10_blank 1 = .ok (.getfield 72, 3) := by decide +kernel
theorem dX10_blank_4 : decode cX10_blank 4 = .ok (.istore_n 1, 1) := by decide +kernel
theorem dX10_blank_5 : decode cX10_blank 5 = .ok (.aload_n 0, 1) := by decide +kernel
theorem dX10_blank_6 : decode cX10_blank 6 = .ok (.iconst 0, 1) := by decide +kernel
theorem dX10_blank_7 : decode cX10_blank 7 = .ok (.putfield 72, 3) := by decide +kernel
theorem dX10_blank_10 : decode cX10_blank 10 = .ok (.iload_n 1, 1) := by decide +kernel
theorem dX10_blank_11 : decode cX10_blank 11 = .ok (.ireturn, 1) := by decide +kernel
theorem dX10_kindBy_0 : decode cX10_kindBy 0 = .ok (.iload_n 0, 1) := by decide +kernel
theorem dX10_kindBy_1 : decode cX10_kindBy 1 = .ok (.lookupswitch 61 #[(98, 59), (101, 53), (112, 51), (114, 55), (115, 57)], 51) := by decide +kernel
theorem dX10_kindBy_52 : decode cX10_kindBy 52 = .ok (.iconst 0, 1) := by decide +kernel
theorem dX10_kindBy_53 : decode cX10_kindBy 53 = .ok (.ireturn, 1) := by decide +kernel
theorem dX10_kindBy_54 : decode cX10_kindBy 54 = .ok (.iconst 1, 1) := by decide +kernel
theorem dX10_kindBy_55 : decode cX10_kindBy 55 = .ok (.ireturn, 1) := by decide +kernel
theorem dX10_kindBy_56 : decode cX10_kindBy 56 = .ok (.iconst 2, 1) := by decide +kernel
theorem dX10_kindBy_57 : decode cX10_kindBy 57 = .ok (.ireturn, 1) := by decide +kernel
theorem dX10_kindBy_58 : decode cX10_kindBy 58 = .ok (.iconst 3, 1) := by decide +kernel
theorem dX10_kindBy_59 : decode cX10_kindBy 59 = .ok (.ireturn, 1) := by decide +kernel
theorem dX10_kindBy_60 : decode cX10_kindBy 60 = .ok (.iconst 4, 1) := by decide +kernel
theorem dX10_kindBy_61 : decode cX10_kindBy 61 = .ok (.ireturn, 1) := by decide +kernel
theorem dX10_kindBy_62 : decode cX10_kindBy 62 = .ok (.iconst (-1), 1) := by decide +kernel
theorem dX10_kindBy_63 : decode cX10_kindBy 63 = .ok (.ireturn, 1) := by decide +kernel
set_option maxRecDepth 20000 in
theorem ggX10_figure_X10_within : GoodIn wsX10_figure wsX10_within := goodIn_r _ [6] (by decide +kernel) (by decide +kernel)
set_option maxRecDepth 20000 in
theorem gX10_figure_X10_within : GoodIn wsX10_figure (va_wsS RX10 68 yX10_within wsX10_within) := goodIn_app (goodIn_of _ (by decide +kernel)) ggX10_figure_X10_within
theorem dX10_figure_0 : decode cX10_figure 0 = .ok (.iload_n 1, 1) := by decide +kernel
theorem dX10_figure_1 : decode cX10_figure 1 = .ok (.aload_n 0, 1) := by decide +kernel
theorem dX10_figure_2 : decode cX10_figure 2 = .ok (.getfield 72, 3) := by decide +kernel
theorem dX10_figure_5 : decode cX10_figure 5 = .ok (.if_icmp .ge 33, 3) := by decide +kernel
theorem dX10_figure_8 : decode cX10_figure 8 = .ok (.aload_n 0, 1) := by decide +kernel
theorem dX10_figure_9 : decode cX10_figure 9 = .ok (.getfield 37, 3) := by decide +kernel
theorem dX10_figure_12 : decode cX10_figure 12 = .ok (.iload_n 1, 1) := by decide +kernel
theorem dX10_figure_13 : decode cX10_figure 13 = .ok (.baload, 1) := by decide +kernel
theorem dX10_figure_14 : decode cX10_figure 14 = .ok (.bipush 48, 2) := by decide +kernel
theorem dX10_figure_16 : decode cX10_figure 16 = .ok (.isub, 1) := by decide +kernel
theorem dX10_figure_17 : decode cX10_figure 17 = .ok (.iconst 0, 1) := by decide +kernel
theorem dX10_figure_18 : decode cX10_figure 18 = .ok (.bipush 9, 2) := by decide +kernel
theorem dX10_figure_20 : decode cX10_figure 20 = .ok (.invokestatic 68, 3) := by decide +kernel
theorem dX10_figure_23 : decode cX10_figure 23 = .ok (.ifCond .eq 15, 3) := by decide +kernel
theorem dX10_figure_26 : decode cX10_figure 26 = .ok (.aload_n 0, 1) := by decide +kernel
theorem dX10_figure_27 : decode cX10_figure 27 = .ok (.getfield 37, 3) := by decide +kernel
theorem dX10_figure_30 : decode cX10_figure 30 = .ok (.iload_n 1, 1) := by decide +kernel
theorem dX10_figure_31 : decode cX10_figure 31 = .ok (.baload, 1) := by decide +kernel
theorem dX10_figure_32 : decode cX10_figure 32 = .ok (.bipush 48, 2) := by decide +kernel
theorem dX10_figure_34 : decode cX10_figure 34 = .ok (.isub, 1) := by decide +kernel
theorem dX10_figure_35 : decode cX10_figure 35 = .ok (.goto 4, 3) := by decide +kernel
theorem dX10_figure_38 : decode cX10_figure 38 = .ok (.iconst (-1), 1) := by decide +kernel
theorem dX10_figure_39 : decode cX10_figure 39 = .ok (.ireturn, 1) := by decide +kernel
set_option maxRecDepth 20000 in
theorem ggX10_readTwo_X10_figure : GoodIn wsX10_readTwo wsX10_figure := goodIn_r _ [5, 6, 7, 8, 9, 4, 10, 11, 12, 13, 14, 15, 16, 17, 18, 19, 20, 21, 22, 23, 24, 25, 26, 27, 28, 29, 30, 31, 32, 33, 34, 35, 36, 37, 38, 39, 40, 41, 42, 43, 44, 45, 46, 47, 48, 49] (by decide +kernel) (by decide +kernel)
set_option maxRecDepth 20000 in
theorem gX10_readTwo_X10_figure : GoodIn wsX10_readTwo (wsV RX10 76 RX10 yX10_figure wsX10_figure) := goodIn_app (goodIn_of _ (by decide +kernel)) ggX10_readTwo_X10_figure
theorem dX10_readTwo_0 : decode cX10_readTwo 0 = .ok (.aload_n 0, 1) := by decide +kernel
theorem dX10_readTwo_1 : decode cX10_readTwo 1 = .ok (.iload_n 1, 1) := by decide +kernel
theorem dX10_readTwo_2 : decode cX10_readTwo 2 = .ok (.invokevirtual 76, 3) := by decide +kernel
theorem dX10_readTwo_5 : decode cX10_readTwo 5 = .ok (.istore_n 3, 1) := by decide +kernel
theorem dX10_readTwo_6 : decode cX10_readTwo 6 = .ok (.iload_n 3, 1) := by decide +kernel
theorem dX10_readTwo_7 : decode cX10_readTwo 7 = .ok (.iconst (-1), 1) := by decide +kernel
theorem dX10_readTwo_8 : decode cX10_readTwo 8 = .ok (.if_icmp .eq 11, 3) := by decide +kernel
theorem dX10_readTwo_11 : decode cX10_readTwo 11 = .ok (.iload_n 3, 1) := by decide +kernel
theorem dX10_readTwo_12 : decode cX10_readTwo 12 = .ok (.iload_n 2, 1) := by decide +kernel
theorem dX10_readTwo_13 : decode cX10_readTwo 13 = .ok (.bipush 10, 2) := by decide +kernel
theorem dX10_readTwo_15 : decode cX10_readTwo 15 = .ok (.idiv, 1) := by decide +kernel
theorem dX10_readTwo_16 : decode cX10_readTwo 16 = .ok (.if_icmp .le 5, 3) := by decide +kernel
theorem dX10_readTwo_19 : decode cX10_readTwo 19 = .ok (.iload_n 1, 1) := by decide +kernel
theorem dX10_readTwo_20 : decode cX10_readTwo 20 = .ok (.ireturn, 1) := by decide +kernel
theorem dX10_readTwo_21 : decode cX10_readTwo 21 = .ok (.aload_n 0, 1) := by decide +kernel
theorem dX10_readTwo_22 : decode cX10_readTwo 22 = .ok (.iload_n 1, 1) := by decide +kernel
theorem dX10_readTwo_23 : decode cX10_readTwo 23 = .ok (.iconst 1, 1) := by decide +kernel
theorem dX10_readTwo_24 : decode cX10_readTwo 24 = .ok (.iadd, 1) := by decide +kernel
theorem dX10_readTwo_25 : decode cX10_readTwo 25 = .ok (.invokevirtual 76, 3) := by decide +kernel
theorem dX10_readTwo_28 : decode cX10_readTwo 28 = .ok (.istore 4, 2) := by decide +kernel
theorem dX10_readTwo_30 : decode cX10_readTwo 30 = .ok (.iload 4, 2) := by decide +kernel
theorem dX10_readTwo_32 : decode cX10_readTwo 32 = .ok (.iconst (-1), 1) := by decide +kernel
theorem dX10_readTwo_33 : decode cX10_readTwo 33 = .ok (.if_icmp .eq 29, 3) := by decide +kernel
theorem dX10_readTwo_36 : decode cX10_readTwo 36 = .ok (.bipush 10, 2) := by decide +kernel
theorem dX10_readTwo_38 : decode cX10_readTwo 38 = .ok (.iload_n 3, 1) := by decide +kernel
theorem dX10_readTwo_39 : decode cX10_readTwo 39 = .ok (.imul, 1) := by decide +kernel
theorem dX10_readTwo_40 : decode cX10_readTwo 40 = .ok (.iload 4, 2) := by decide +kernel
theorem dX10_readTwo_42 : decode cX10_readTwo 42 = .ok (.iadd, 1) := by decide +kernel
theorem dX10_readTwo_43 : decode cX10_readTwo 43 = .ok (.iconst 1, 1) := by decide +kernel
theorem dX10_readTwo_44 : decode cX10_readTwo 44 = .ok (.if_icmp .lt 18, 3) := by decide +kernel
theorem dX10_readTwo_47 : decode cX10_readTwo 47 = .ok (.bipush 10, 2) := by decide +kernel
theorem dX10_readTwo_49 : decode cX10_readTwo 49 = .ok (.iload_n 3, 1) := by decide +kernel
theorem dX10_readTwo_50 : decode cX10_readTwo 50 = .ok (.imul, 1) := by decide +kernel
theorem dX10_readTwo_51 : decode cX10_readTwo 51 = .ok (.iload 4, 2) := by decide +kernel
theorem dX10_readTwo_53 : decode cX10_readTwo 53 = .ok (.iadd, 1) := by decide +kernel
theorem dX10_readTwo_54 : decode cX10_readTwo 54 = .ok (.iload_n 2, 1) := by decide +kernel
theorem dX10_readTwo_55 : decode cX10_readTwo 55 = .ok (.if_icmp .gt 7, 3) := by decide +kernel
theorem dX10_readTwo_58 : decode cX10_readTwo 58 = .ok (.iconst 1, 1) := by decide +kernel
theorem dX10_readTwo_59 : decode cX10_readTwo 59 = .ok (.goto 4, 3) := by decide +kernel
theorem dX10_readTwo_62 : decode cX10_readTwo 62 = .ok (.iconst 0, 1) := by decide +kernel
theorem dX10_readTwo_63 : decode cX10_readTwo 63 = .ok (.istore 5, 2) := by decide +kernel
theorem dX10_readTwo_65 : decode cX10_readTwo 65 = .ok (.iload 5, 2) := by decide +kernel
theorem dX10_readTwo_67 : decode cX10_readTwo 67 = .ok (.ifCond .eq 9, 3) := by decide +kernel
theorem dX10_readTwo_70 : decode cX10_readTwo 70 = .ok (.iload_n 1, 1) := by decide +kernel
theorem dX10_readTwo_71 : decode cX10_readTwo 71 = .ok (.iconst 2, 1) := by decide +kernel
theorem dX10_readTwo_72 : decode cX10_readTwo 72 = .ok (.iadd, 1) := by decide +kernel
theorem dX10_readTwo_73 : decode cX10_readTwo 73 = .ok (.goto 6, 3) := by decide +kernel
theorem dX10_readTwo_76 : decode cX10_readTwo 76 = .ok (.iload_n 1, 1) := by decide +kernel
theorem dX10_readTwo_77 : decode cX10_readTwo 77 = .ok (.iconst 1, 1) := by decide +kernel
theorem dX10_readTwo_78 : decode cX10_readTwo 78 = .ok (.iadd, 1) := by decide +kernel
theorem dX10_readTwo_79 : decode cX10_readTwo 79 = .ok (.ireturn, 1) := by decide +kernel
theorem dX10_two_0 : decode cX10_two 0 = .ok (.bipush 10, 2) := by decide +kernel
theorem dX10_two_2 : decode cX10_two 2 = .ok (.aload_n 0, 1) := by decide +kernel
theorem dX10_two_3 : decode cX10_two 3 = .ok (.getfield 37, 3) := by decide +kernel
theorem dX10_two_6 : decode cX10_two 6 = .ok (.iload_n 1, 1) := by decide +kernel
theorem dX10_two_7 : decode cX10_two 7 = .ok (.baload, 1) := by decide +kernel
theorem dX10_two_8 : decode cX10_two 8 = .ok (.bipush 48, 2) := by decide +kernel
theorem dX10_two_10 : decode cX10_two 10 = .ok (.isub, 1) := by decide +kernel
theorem dX10_two_11 : decode cX10_two 11 = .ok (.imul, 1) := by decide +kernel
theorem dX10_two_12 : decode cX10_two 12 = .ok (.aload_n 0, 1) := by decide +kernel
theorem dX10_two_13 : decode cX10_two 13 = .ok (.getfield 37, 3) := by decide +kernel
theorem dX10_two_16 : decode cX10_two 16 = .ok (.iload_n 1, 1) := by decide +kernel
theorem dX10_two_17 : decode cX10_two 17 = .ok (.iconst 1, 1) := by decide +kernel
theorem dX10_two_18 : decode cX10_two 18 = .ok (.iadd, 1) := by decide +kernel
theorem dX10_two_19 : decode cX10_two 19 = .ok (.baload, 1) := by decide +kernel
theorem dX10_two_20 : decode cX10_two 20 = .ok (.iadd, 1) := by decide +kernel
theorem dX10_two_21 : decode cX10_two 21 = .ok (.bipush 48, 2) := by decide +kernel
theorem dX10_two_23 : decode cX10_two 23 = .ok (.isub, 1) := by decide +kernel
theorem dX10_two_24 : decode cX10_two 24 = .ok (.ireturn, 1) := by decide +kernel
set_option maxRecDepth 20000 in
theorem ggX10_readRest_X10_readTwo : GoodIn wsX10_readRest wsX10_readTwo := goodIn_r _ [7, 8, 9, 10, 6, 11, 1, 12, 13, 14, 15, 16, 17, 18, 19, 20, 21, 22, 23, 24, 25, 26, 27, 28, 29, 30, 31, 32, 33, 34, 35, 36, 37, 38, 39, 40, 41, 42, 43, 44, 45, 46, 47, 48, 49, 50, 51, 52, 53, 54] (by decide +kernel) (by decide +kernel)
set_option maxRecDepth 20000 in
theorem gX10_readRest_X10_readTwo : GoodIn wsX10_readRest (wsV RX10 80 RX10 yX10_readTwo wsX10_readTwo) := goodIn_app (goodIn_of _ (by decide +kernel)) ggX10_readRest_X10_readTwo
set_option maxRecDepth 20000 in
theorem ggX10_readRest_X10_figure : GoodIn wsX10_readRest wsX10_figure := goodIn_r _ [11, 1, 12, 13, 14, 6, 15, 16, 17, 18, 19, 20, 21, 22, 23, 24, 25, 26, 27, 28, 29, 30, 31, 32, 33, 34, 35, 36, 37, 38, 39, 40, 41, 42, 43, 44, 45, 46, 47, 48, 49, 50, 51, 52, 53, 54] (by decide +kernel) (by decide +kernel)
set_option maxRecDepth 20000 in
theorem gX10_readRest_X10_figure : GoodIn wsX10_readRest (wsV RX10 76 RX10 yX10_figure wsX10_figure) := goodIn_app (goodIn_of _ (by decide +kernel)) ggX10_readRest_X10_figure
theorem dX10_readRest_0 : decode cX10_readRest 0 = .ok (.aload_n 0, 1) := by decide +kernel
theorem dX10_readRest_1 : decode cX10_readRest 1 = .ok (.iload_n 1, 1) := by decide +kernel
theorem dX10_readRest_2 : decode cX10_readRest 2 = .ok (.bipush 60, 2) := by decide +kernel
theorem dX10_readRest_4 : decode cX10_readRest 4 = .ok (.invokevirtual 80, 3) := by decide +kernel
theorem dX10_readRest_7 : decode cX10_readRest 7 = .ok (.istore_n 2, 1) := by decide +kernel
theorem dX10_readRest_8 : decode cX10_readRest 8 = .ok (.iload_n 2, 1) := by decide +kernel
theorem dX10_readRest_9 : decode cX10_readRest 9 = .ok (.iload_n 1, 1) := by decide +kernel
theorem dX10_readRest_10 : decode cX10_readRest 10 = .ok (.iconst 2, 1) := by decide +kernel
theorem dX10_readRest_11 : decode cX10_readRest 11 = .ok (.iadd, 1) := by decide +kernel
theorem dX10_readRest_12 : decode cX10_readRest 12 = .ok (.if_icmp .eq 5, 3) := by decide +kernel
theorem dX10_readRest_15 : decode cX10_readRest 15 = .ok (.iload_n 2, 1) := by decide +kernel
theorem dX10_readRest_16 : decode cX10_readRest 16 = .ok (.ireturn, 1) := by decide +kernel
theorem dX10_readRest_17 : decode cX10_readRest 17 = .ok (.aload_n 0, 1) := by decide +kernel
theorem dX10_readRest_18 : decode cX10_readRest 18 = .ok (.iload_n 2, 1) := by decide +kernel
theorem dX10_readRest_19 : decode cX10_readRest 19 = .ok (.invokevirtual 76, 3) := by decide +kernel
theorem dX10_readRest_22 : decode cX10_readRest 22 = .ok (.iconst 1, 1) := by decide +kernel
theorem dX10_readRest_23 : decode cX10_readRest 23 = .ok (.if_icmp .lt 12, 3) := by decide +kernel
theorem dX10_readRest_26 : decode cX10_readRest 26 = .ok (.aload_n 0, 1) := by decide +kernel
theorem dX10_readRest_27 : decode cX10_readRest 27 = .ok (.iload_n 2, 1) := by decide +kernel
theorem dX10_readRest_28 : decode cX10_readRest 28 = .ok (.invokevirtual 76, 3) := by decide +kernel
theorem dX10_readRest_31 : decode cX10_readRest 31 = .ok (.iconst 4, 1) := by decide +kernel
theorem dX10_readRest_32 : decode cX10_readRest 32 = .ok (.if_icmp .le 5, 3) := by decide +kernel
theorem dX10_readRest_35 : decode cX10_readRest 35 = .ok (.iload_n 2, 1) := by decide +kernel
theorem dX10_readRest_36 : decode cX10_readRest 36 = .ok (.ireturn, 1) := by decide +kernel
theorem dX10_readRest_37 : decode cX10_readRest 37 = .ok (.aload_n 0, 1) := by decide +kernel
theorem dX10_readRest_38 : decode cX10_readRest 38 = .ok (.iload_n 2, 1) := by decide +kernel
theorem dX10_readRest_39 : decode cX10_readRest 39 = .ok (.iconst 1, 1) := by decide +kernel
theorem dX10_readRest_40 : decode cX10_readRest 40 = .ok (.iadd, 1) := by decide +kernel
theorem dX10_readRest_41 : decode cX10_readRest 41 = .ok (.aload_n 0, 1) := by decide +kernel
theorem dX10_readRest_42 : decode cX10_readRest 42 = .ok (.getfield 72, 3) := by decide +kernel
theorem dX10_readRest_45 : decode cX10_readRest 45 = .ok (.if_icmp .ne 7, 3) := by decide +kernel
theorem dX10_readRest_48 : decode cX10_readRest 48 = .ok (.iconst 1, 1) := by decide +kernel
theorem dX10_readRest_49 : decode cX10_readRest 49 = .ok (.goto 4, 3) := by decide +kernel
theorem dX10_readRest_52 : decode cX10_readRest 52 = .ok (.iconst 0, 1) := by decide +kernel
theorem dX10_readRest_53 : decode cX10_readRest 53 = .ok (.putfield 84, 3) := by decide +kernel
theorem dX10_readRest_56 : decode cX10_readRest 56 = .ok (.iload_n 2, 1) := by decide +kernel
theorem dX10_readRest_57 : decode cX10_readRest 57 = .ok (.iconst 1, 1) := by decide +kernel
theorem dX10_readRest_58 : decode cX10_readRest 58 = .ok (.iadd, 1) := by decide +kernel
theorem dX10_readRest_59 : decode cX10_readRest 59 = .ok (.ireturn, 1) := by decide +kernel
set_option maxRecDepth 20000 in
theorem ggX10_read_X10_kindBy : GoodIn wsX10_read wsX10_kindBy := goodIn_r _ [8] (by decide +kernel) (by decide +kernel)
set_option maxRecDepth 20000 in
theorem gX10_read_X10_kindBy : GoodIn wsX10_read (va_wsS RX10 91 yX10_kindBy wsX10_kindBy) := goodIn_app (goodIn_of _ (by decide +kernel)) ggX10_read_X10_kindBy
set_option maxRecDepth 20000 in
theorem ggX10_read_X10_readTwo : GoodIn wsX10_read wsX10_readTwo := goodIn_r _ [12, 13, 14, 15, 7, 16, 3, 4, 17, 18, 19, 24, 25, 26, 27, 28, 29, 30, 31, 32, 33, 34, 35, 36, 37, 38, 39, 40, 41, 42, 43, 44, 45, 46, 47, 48, 49, 50, 51, 52, 53, 54, 55, 56, 57, 58, 59, 60, 61, 62] (by decide +kernel) (by decide +kernel)
set_option maxRecDepth 20000 in
theorem gX10_read_X10_readTwo : GoodIn wsX10_read (wsV RX10 80 RX10 yX10_readTwo wsX10_readTwo) := goodIn_app (goodIn_of _ (by decide +kernel)) ggX10_read_X10_readTwo
set_option maxRecDepth 20000 in
theorem ggX10_read_X10_readRest : GoodIn wsX10_read wsX10_readRest := goodIn_r _ [23, 3, 1, 9, 10, 11, 7, 12, 13, 14, 15, 16, 4, 17, 18, 19, 24, 25, 26, 27, 28, 29, 30, 31, 32, 33, 34, 35, 36, 37, 38, 39, 40, 41, 42, 43, 44, 45, 46, 47, 48, 49, 50, 51, 52, 53, 54, 55, 56, 57, 58, 59, 60, 61, 62] (by decide +kernel) (by decide +kernel)
set_option maxRecDepth 20000 in
theorem gX10_read_X10_readRest : GoodIn wsX10_read (wsV RX10 94 RX10 yX10_readRest wsX10_readRest) := goodIn_app (goodIn_of _ (by decide +kernel)) ggX10_read_X10_readRest
theorem dX10_read_0 : decode cX10_read 0 = .ok (.aload_n 0, 1) := by decide +kernel
theorem dX10_read_1 : decode cX10_read 1 = .ok (.iconst 0, 1) := by decide +kernel
theorem dX10_read_2 : decode cX10_read 2 = .ok (.putfield 84, 3) := by decide +kernel
theorem dX10_read_5 : decode cX10_read 5 = .ok (.aload_n 0, 1) := by decide +kernel
theorem dX10_read_6 : decode cX10_read 6 = .ok (.iconst 0, 1) := by decide +kernel
theorem dX10_read_7 : decode cX10_read 7 = .ok (.putfield 88, 3) := by decide +kernel
theorem dX10_read_10 : decode cX10_read 10 = .ok (.iconst 0, 1) := by decide +kernel
theorem dX10_read_11 : decode cX10_read 11 = .ok (.istore_n 1, 1) := by decide +kernel
theorem dX10_read_12 : decode cX10_read 12 = .ok (.aload_n 0, 1) := by decide +kernel
theorem dX10_read_13 : decode cX10_read 13 = .ok (.getfield 88, 3) := by decide +kernel
theorem dX10_read_16 : decode cX10_read 16 = .ok (.iconst 4, 1) := by decide +kernel
theorem dX10_read_17 : decode cX10_read 17 = .ok (.if_icmp .ge 127, 3) := by decide +kernel
theorem dX10_read_20 : decode cX10_read 20 = .ok (.iload_n 1, 1) := by decide +kernel
theorem dX10_read_21 : decode cX10_read 21 = .ok (.aload_n 0, 1) := by decide +kernel
theorem dX10_read_22 : decode cX10_read 22 = .ok (.getfield 72, 3) := by decide +kernel
theorem dX10_read_25 : decode cX10_read 25 = .ok (.if_icmp .eq 16, 3) := by decide +kernel
theorem dX10_read_28 : decode cX10_read 28 = .ok (.aload_n 0, 1) := by decide +kernel
theorem dX10_read_29 : decode cX10_read 29 = .ok (.getfield 37, 3) := by decide +kernel
theorem dX10_read_32 : decode cX10_read 32 = .ok (.iload_n 1, 1) := by decide +kernel
theorem dX10_read_33 : decode cX10_read 33 = .ok (.baload, 1) := by decide +kernel
theorem dX10_read_34 : decode cX10_read 34 = .ok (.invokestatic 91, 3) := by decide +kernel
theorem dX10_read_37 : decode cX10_read 37 = .ok (.iconst (-1), 1) := by decide +kernel
theorem dX10_read_38 : decode cX10_read 38 = .ok (.if_icmp .ne 5, 3) := by decide +kernel
theorem dX10_read_41 : decode cX10_read 41 = .ok (.iload_n 1, 1) := by decide +kernel
theorem dX10_read_42 : decode cX10_read 42 = .ok (.ireturn, 1) := by decide +kernel
theorem dX10_read_43 : decode cX10_read 43 = .ok (.aload_n 0, 1) := by decide +kernel
theorem dX10_read_44 : decode cX10_read 44 = .ok (.iload_n 1, 1) := by decide +kernel
theorem dX10_read_45 : decode cX10_read 45 = .ok (.iconst 1, 1) := by decide +kernel
theorem dX10_read_46 : decode cX10_read 46 = .ok (.iadd, 1) := by decide +kernel
theorem dX10_read_47 : decode cX10_read 47 = .ok (.bipush 40, 2) := by decide +kernel
theorem dX10_read_49 : decode cX10_read 49 = .ok (.invokevirtual 80, 3) := by decide +kernel
theorem dX10_read_52 : decode cX10_read 52 = .ok (.istore_n 2, 1) := by decide +kernel
theorem dX10_read_53 : decode cX10_read 53 = .ok (.iload_n 2, 1) := by decide +kernel
theorem dX10_read_54 : decode cX10_read 54 = .ok (.iload_n 1, 1) := by decide +kernel
theorem dX10_read_55 : decode cX10_read 55 = .ok (.iconst 3, 1) := by decide +kernel
theorem dX10_read_56 : decode cX10_read 56 = .ok (.iadd, 1) := by decide +kernel
theorem dX10_read_57 : decode cX10_read 57 = .ok (.if_icmp .eq 5, 3) := by decide +kernel
theorem dX10_read_60 : decode cX10_read 60 = .ok (.iload_n 2, 1) := by decide +kernel
theorem dX10_read_61 : decode cX10_read 61 = .ok (.ireturn, 1) := by decide +kernel
theorem dX10_read_62 : decode cX10_read 62 = .ok (.aload_n 0, 1) := by decide +kernel
theorem dX10_read_63 : decode cX10_read 63 = .ok (.dup, 1) := by decide +kernel
theorem dX10_read_64 : decode cX10_read 64 = .ok (.getfield 88, 3) := by decide +kernel
theorem dX10_read_67 : decode cX10_read 67 = .ok (.iconst 1, 1) := by decide +kernel
theorem dX10_read_68 : decode cX10_read 68 = .ok (.iadd, 1) := by decide +kernel
theorem dX10_read_69 : decode cX10_read 69 = .ok (.putfield 88, 3) := by decide +kernel
theorem dX10_read_72 : decode cX10_read 72 = .ok (.iload_n 2, 1) := by decide +kernel
theorem dX10_read_73 : decode cX10_read 73 = .ok (.istore_n 1, 1) := by decide +kernel
theorem dX10_read_74 : decode cX10_read 74 = .ok (.iload_n 1, 1) := by decide +kernel
theorem dX10_read_75 : decode cX10_read 75 = .ok (.aload_n 0, 1) := by decide +kernel
theorem dX10_read_76 : decode cX10_read 76 = .ok (.getfield 72, 3) := by decide +kernel
theorem dX10_read_79 : decode cX10_read 79 = .ok (.if_icmp .ge 30, 3) := by decide +kernel
theorem dX10_read_82 : decode cX10_read 82 = .ok (.aload_n 0, 1) := by decide +kernel
theorem dX10_read_83 : decode cX10_read 83 = .ok (.getfield 37, 3) := by decide +kernel
theorem dX10_read_86 : decode cX10_read 86 = .ok (.iload_n 1, 1) := by decide +kernel
theorem dX10_read_87 : decode cX10_read 87 = .ok (.baload, 1) := by decide +kernel
theorem dX10_read_88 : decode cX10_read 88 = .ok (.bipush 59, 2) := by decide +kernel
theorem dX10_read_90 : decode cX10_read 90 = .ok (.if_icmp .ne 19, 3) := by decide +kernel
theorem dX10_read_93 : decode cX10_read 93 = .ok (.aload_n 0, 1) := by decide +kernel
theorem dX10_read_94 : decode cX10_read 94 = .ok (.getfield 88, 3) := by decide +kernel
theorem dX10_read_97 : decode cX10_read 97 = .ok (.iconst 1, 1) := by decide +kernel
theorem dX10_read_98 : decode cX10_read 98 = .ok (.if_icmp .le 11, 3) := by decide +kernel
theorem dX10_read_101 : decode cX10_read 101 = .ok (.aload_n 0, 1) := by decide +kernel
theorem dX10_read_102 : decode cX10_read 102 = .ok (.iload_n 1, 1) := by decide +kernel
theorem dX10_read_103 : decode cX10_read 103 = .ok (.iconst 1, 1) := by decide +kernel
theorem dX10_read_104 : decode cX10_read 104 = .ok (.iadd, 1) := by decide +kernel
theorem dX10_read_105 : decode cX10_read 105 = .ok (.invokevirtual 94, 3) := by decide +kernel
theorem dX10_read_108 : decode cX10_read 108 = .ok (.ireturn, 1) := by decide +kernel
theorem dX10_read_109 : decode cX10_read 109 = .ok (.iload_n 1, 1) := by decide +kernel
theorem dX10_read_110 : decode cX10_read 110 = .ok (.aload_n 0, 1) := by decide +kernel
theorem dX10_read_111 : decode cX10_read 111 = .ok (.getfield 72, 3) := by decide +kernel
theorem dX10_read_114 : decode cX10_read 114 = .ok (.if_icmp .eq 22, 3) := by decide +kernel
theorem dX10_read_117 : decode cX10_read 117 = .ok (.aload_n 0, 1) := by decide +kernel
theorem dX10_read_118 : decode cX10_read 118 = .ok (.getfield 88, 3) := by decide +kernel
theorem dX10_read_121 : decode cX10_read 121 = .ok (.iconst 4, 1) := by decide +kernel
theorem dX10_read_122 : decode cX10_read 122 = .ok (.if_icmp .eq 14, 3) := by decide +kernel
theorem dX10_read_125 : decode cX10_read 125 = .ok (.aload_n 0, 1) := by decide +kernel
theorem dX10_read_126 : decode cX10_read 126 = .ok (.getfield 37, 3) := by decide +kernel
theorem dX10_read_129 : decode cX10_read 129 = .ok (.iload_n 1, 1) := by decide +kernel
theorem dX10_read_130 : decode cX10_read 130 = .ok (.baload, 1) := by decide +kernel
theorem dX10_read_131 : decode cX10_read 131 = .ok (.bipush 44, 2) := by decide +kernel
theorem dX10_read_133 : decode cX10_read 133 = .ok (.if_icmp .eq 5, 3) := by decide +kernel
theorem dX10_read_136 : decode cX10_read 136 = .ok (.iload_n 1, 1) := by decide +kernel
theorem dX10_read_137 : decode cX10_read 137 = .ok (.ireturn, 1) := by decide +kernel
theorem dX10_read_138 : decode cX10_read 138 = .ok (.iinc 1 1, 3) := by decide +kernel
theorem dX10_read_141 : decode cX10_read 141 = .ok (.goto (-129), 3) := by decide +kernel
theorem dX10_read_144 : decode cX10_read 144 = .ok (.iload_n 1, 1) := by decide +kernel
theorem dX10_read_145 : decode cX10_read 145 = .ok (.ireturn, 1) := by decide +kernel
set_option maxRecDepth 20000 in
theorem ggX10_fault_X10_read : GoodIn wsX10_fault wsX10_read := goodIn_r _ [5, 6, 7, 8, 9, 10, 11, 4, 12, 13, 14, 15, 16, 17, 18, 19, 20, 21, 22, 23, 24, 25, 26, 27, 28, 29, 30, 31, 32, 33, 34, 35, 36, 37, 38, 39, 40, 41, 42, 43, 44, 45, 46, 47, 48, 49, 50, 51, 52, 53, 54, 55, 56, 57, 58, 59, 60, 61, 62, 63, 64, 65, 66] (by decide +kernel) (by decide +kernel)
set_option maxRecDepth 20000 in
theorem gX10_fault_X10_read : GoodIn wsX10_fault (wsV RX10 97 RX10 yX10_read wsX10_read) := goodIn_app (goodIn_of _ (by decide +kernel)) ggX10_fault_X10_read
theorem dX10_fault_0 : decode cX10_fault 0 = .ok (.aload_n 0, 1) := by decide +kernel
theorem dX10_fault_1 : decode cX10_fault 1 = .ok (.invokevirtual 97, 3) := by decide +kernel
theorem dX10_fault_4 : decode cX10_fault 4 = .ok (.ireturn, 1) := by decide +kernel
set_option maxRecDepth 20000 in
theorem ggX10_kitchen_X10_read : GoodIn wsX10_kitchen wsX10_read := goodIn_r _ [22, 1, 2, 17, 5, 23, 24, 21, 25, 26, 27, 28, 29, 30, 31, 32, 33, 34, 35, 36, 37, 38, 39, 40, 45, 46, 47, 48, 49, 50, 51, 52, 53, 54, 55, 56, 57, 58, 59, 60, 61, 62, 63, 64, 65, 66, 67, 68, 69, 70, 71, 72, 73, 74, 75, 76, 77, 78, 79, 80, 81, 82, 83] (by decide +kernel) (by decide +kernel)
set_option maxRecDepth 20000 in
theorem gX10_kitchen_X10_read : GoodIn wsX10_kitchen (wsV RX10 97 RX10 yX10_read wsX10_read) := goodIn_app (goodIn_of _ (by decide +kernel)) ggX10_kitchen_X10_read
set_option maxRecDepth 20000 in
theorem ggX10_kitchen_X10_two : GoodIn wsX10_kitchen wsX10_two := goodIn_r _ [44, 5, 45, 46, 47, 48, 49, 50, 51, 52, 53, 54, 55, 56, 57, 58, 59, 60, 61, 62, 63, 64, 65, 66, 67, 68, 69, 70, 71, 72, 73, 74, 75, 76, 77, 78, 79, 80, 81, 82, 83] (by decide +kernel) (by decide +kernel)
set_option maxRecDepth 20000 in
theorem gX10_kitchen_X10_two : GoodIn wsX10_kitchen (wsV RX10 104 RX10 yX10_two wsX10_two) := goodIn_app (goodIn_of _ (by decide +kernel)) ggX10_kitchen_X10_two
set_option maxRecDepth 20000 in
theorem ggX10_kitchen_X10_kindBy : GoodIn wsX10_kitchen wsX10_kindBy := goodIn_r _ [25] (by decide +kernel) (by decide +kernel)
set_option maxRecDepth 20000 in
theorem gX10_kitchen_X10_kindBy : GoodIn wsX10_kitchen (va_wsS RX10 91 yX10_kindBy wsX10_kindBy) := goodIn_app (goodIn_of _ (by decide +kernel)) ggX10_kitchen_X10_kindBy
theorem dX10_kitchen_0 : decode cX10_kitchen 0 = .ok (.aload_n 0, 1) := by decide +kernel
theorem dX10_kitchen_1 : decode cX10_kitchen 1 = .ok (.invokevirtual 97, 3) := by decide +kernel
theorem dX10_kitchen_4 : decode cX10_kitchen 4 = .ok (.istore_n 1, 1) := by decide +kernel
theorem dX10_kitchen_5 : decode cX10_kitchen 5 = .ok (.aload_n 0, 1) := by decide +kernel
theorem dX10_kitchen_6 : decode cX10_kitchen 6 = .ok (.getfield 84, 3) := by decide +kernel
theorem dX10_kitchen_9 : decode cX10_kitchen 9 = .ok (.ifCond .ne 6, 3) := by decide +kernel
theorem dX10_kitchen_12 : decode cX10_kitchen 12 = .ok (.bipush (-103), 2) := by decide +kernel
theorem dX10_kitchen_14 : decode cX10_kitchen 14 = .ok (.ireturn, 1) := by decide +kernel
theorem dX10_kitchen_15 : decode cX10_kitchen 15 = .ok (.aload_n 0, 1) := by decide +kernel
theorem dX10_kitchen_16 : decode cX10_kitchen 16 = .ok (.aload_n 0, 1) := by decide +kernel
theorem dX10_kitchen_17 : decode cX10_kitchen 17 = .ok (.getfield 88, 3) := by decide +kernel
theorem dX10_kitchen_20 : decode cX10_kitchen 20 = .ok (.putfield 101, 3) := by decide +kernel
theorem dX10_kitchen_23 : decode cX10_kitchen 23 = .ok (.aload_n 0, 1) := by decide +kernel
theorem dX10_kitchen_24 : decode cX10_kitchen 24 = .ok (.aload_n 0, 1) := by decide +kernel
theorem dX10_kitchen_25 : decode cX10_kitchen 25 = .ok (.iload_n 1, 1) := by decide +kernel
theorem dX10_kitchen_26 : decode cX10_kitchen 26 = .ok (.iconst 3, 1) := by decide +kernel
theorem dX10_kitchen_27 : decode cX10_kitchen 27 = .ok (.isub, 1) := by decide +kernel
theorem dX10_kitchen_28 : decode cX10_kitchen 28 = .ok (.invokevirtual 104, 3) := by decide +kernel
theorem dX10_kitchen_31 : decode cX10_kitchen 31 = .ok (.putfield 107, 3) := by decide +kernel
theorem dX10_kitchen_34 : decode cX10_kitchen 34 = .ok (.aload_n 0, 1) := by decide +kernel
theorem dX10_kitchen_35 : decode cX10_kitchen 35 = .ok (.aload_n 0, 1) := by decide +kernel
theorem dX10_kitchen_36 : decode cX10_kitchen 36 = .ok (.getfield 37, 3) := by decide +kernel
theorem dX10_kitchen_39 : decode cX10_kitchen 39 = .ok (.iload_n 1, 1) := by decide +kernel
theorem dX10_kitchen_40 : decode cX10_kitchen 40 = .ok (.iconst 1, 1) := by decide +kernel
theorem dX10_kitchen_41 : decode cX10_kitchen 41 = .ok (.isub, 1) := by decide +kernel
theorem dX10_kitchen_42 : decode cX10_kitchen 42 = .ok (.baload, 1) := by decide +kernel
theorem dX10_kitchen_43 : decode cX10_kitchen 43 = .ok (.bipush 48, 2) := by decide +kernel
theorem dX10_kitchen_45 : decode cX10_kitchen 45 = .ok (.isub, 1) := by decide +kernel
theorem dX10_kitchen_46 : decode cX10_kitchen 46 = .ok (.putfield 110, 3) := by decide +kernel
theorem dX10_kitchen_49 : decode cX10_kitchen 49 = .ok (.iconst 0, 1) := by decide +kernel
theorem dX10_kitchen_50 : decode cX10_kitchen 50 = .ok (.istore_n 2, 1) := by decide +kernel
theorem dX10_kitchen_51 : decode cX10_kitchen 51 = .ok (.iload_n 2, 1) := by decide +kernel
theorem dX10_kitchen_52 : decode cX10_kitchen 52 = .ok (.aload_n 0, 1) := by decide +kernel
theorem dX10_kitchen_53 : decode cX10_kitchen 53 = .ok (.getfield 101, 3) := by decide +kernel
theorem dX10_kitchen_56 : decode cX10_kitchen 56 = .ok (.if_icmp .ge 62, 3) := by decide +kernel
theorem dX10_kitchen_59 : decode cX10_kitchen 59 = .ok (.aload_n 0, 1) := by decide +kernel
theorem dX10_kitchen_60 : decode cX10_kitchen 60 = .ok (.getfield 7, 3) := by decide +kernel
theorem dX10_kitchen_63 : decode cX10_kitchen 63 = .ok (.iload_n 2, 1) := by decide +kernel
theorem dX10_kitchen_64 : decode cX10_kitchen 64 = .ok (.aload_n 0, 1) := by decide +kernel
theorem dX10_kitchen_65 : decode cX10_kitchen 65 = .ok (.getfield 37, 3) := by decide +kernel
theorem dX10_kitchen_68 : decode cX10_kitchen 68 = .ok (.iconst 4, 1) := by decide +kernel
theorem dX10_kitchen_69 : decode cX10_kitchen 69 = .ok (.iload_n 2, 1) := by decide +kernel
theorem dX10_kitchen_70 : decode cX10_kitchen 70 = .ok (.imul, 1) := by decide +kernel
theorem dX10_kitchen_71 : decode cX10_kitchen 71 = .ok (.baload, 1) := by decide +kernel
theorem dX10_kitchen_72 : decode cX10_kitchen 72 = .ok (.invokestatic 91, 3) := by decide +kernel
theorem dX10_kitchen_75 : decode cX10_kitchen 75 = .ok (.iastore, 1) := by decide +kernel
theorem dX10_kitchen_76 : decode cX10_kitchen 76 = .ok (.aload_n 0, 1) := by decide +kernel
theorem dX10_kitchen_77 : decode cX10_kitchen 77 = .ok (.getfield 13, 3) := by decide +kernel
theorem dX10_kitchen_80 : decode cX10_kitchen 80 = .ok (.iload_n 2, 1) := by decide +kernel
theorem dX10_kitchen_81 : decode cX10_kitchen 81 = .ok (.aload_n 0, 1) := by decide +kernel
theorem dX10_kitchen_82 : decode cX10_kitchen 82 = .ok (.iconst 4, 1) := by decide +kernel
theorem dX10_kitchen_83 : decode cX10_kitchen 83 = .ok (.iload_n 2, 1) := by decide +kernel
theorem dX10_kitchen_84 : decode cX10_kitchen 84 = .ok (.imul, 1) := by decide +kernel
theorem dX10_kitchen_85 : decode cX10_kitchen 85 = .ok (.iconst 1, 1) := by decide +kernel
theorem dX10_kitchen_86 : decode cX10_kitchen 86 = .ok (.iadd, 1) := by decide +kernel
theorem dX10_kitchen_87 : decode cX10_kitchen 87 = .ok (.invokevirtual 104, 3) := by decide +kernel
theorem dX10_kitchen_90 : decode cX10_kitchen 90 = .ok (.iastore, 1) := by decide +kernel
theorem dX10_kitchen_91 : decode cX10_kitchen 91 = .ok (.aload_n 0, 1) := by decide +kernel
theorem dX10_kitchen_92 : decode cX10_kitchen 92 = .ok (.getfield 16, 3) := by decide +kernel
theorem dX10_kitchen_95 : decode cX10_kitchen 95 = .ok (.iload_n 2, 1) := by decide +kernel
theorem dX10_kitchen_96 : decode cX10_kitchen 96 = .ok (.iconst (-1), 1) := by decide +kernel
theorem dX10_kitchen_97 : decode cX10_kitchen 97 = .ok (.iastore, 1) := by decide +kernel
theorem dX10_kitchen_98 : decode cX10_kitchen 98 = .ok (.aload_n 0, 1) := by decide +kernel
theorem dX10_kitchen_99 : decode cX10_kitchen 99 = .ok (.getfield 19, 3) := by decide +kernel
theorem dX10_kitchen_102 : decode cX10_kitchen 102 = .ok (.iload_n 2, 1) := by decide +kernel
theorem dX10_kitchen_103 : decode cX10_kitchen 103 = .ok (.iconst 0, 1) := by decide +kernel
theorem dX10_kitchen_104 : decode cX10_kitchen 104 = .ok (.iastore, 1) := by decide +kernel
theorem dX10_kitchen_105 : decode cX10_kitchen 105 = .ok (.aload_n 0, 1) := by decide +kernel
theorem dX10_kitchen_106 : decode cX10_kitchen 106 = .ok (.getfield 22, 3) := by decide +kernel
theorem dX10_kitchen_109 : decode cX10_kitchen 109 = .ok (.iload_n 2, 1) := by decide +kernel
theorem dX10_kitchen_110 : decode cX10_kitchen 110 = .ok (.iconst (-1), 1) := by decide +kernel
theorem dX10_kitchen_111 : decode cX10_kitchen 111 = .ok (.iastore, 1) := by decide +kernel
theorem dX10_kitchen_112 : decode cX10_kitchen 112 = .ok (.iinc 2 1, 3) := by decide +kernel
theorem dX10_kitchen_115 : decode cX10_kitchen 115 = .ok (.goto (-64), 3) := by decide +kernel
theorem dX10_kitchen_118 : decode cX10_kitchen 118 = .ok (.aload_n 0, 1) := by decide +kernel
theorem dX10_kitchen_119 : decode cX10_kitchen 119 = .ok (.dup, 1) := by decide +kernel
theorem dX10_kitchen_120 : decode cX10_kitchen 120 = .ok (.getfield 113, 3) := by decide +kernel
theorem dX10_kitchen_123 : decode cX10_kitchen 123 = .ok (.iconst 1, 1) := by decide +kernel
theorem dX10_kitchen_124 : decode cX10_kitchen 124 = .ok (.iadd, 1) := by decide +kernel
theorem dX10_kitchen_125 : decode cX10_kitchen 125 = .ok (.putfield 113, 3) := by decide +kernel
theorem dX10_kitchen_128 : decode cX10_kitchen 128 = .ok (.aload_n 0, 1) := by decide +kernel
theorem dX10_kitchen_129 : decode cX10_kitchen 129 = .ok (.iconst 0, 1) := by decide +kernel
theorem dX10_kitchen_130 : decode cX10_kitchen 130 = .ok (.putfield 116, 3) := by decide +kernel
theorem dX10_kitchen_133 : decode cX10_kitchen 133 = .ok (.aload_n 0, 1) := by decide +kernel
theorem dX10_kitchen_134 : decode cX10_kitchen 134 = .ok (.aload_n 0, 1) := by decide +kernel
theorem dX10_kitchen_135 : decode cX10_kitchen 135 = .ok (.getfield 110, 3) := by decide +kernel
theorem dX10_kitchen_138 : decode cX10_kitchen 138 = .ok (.putfield 119, 3) := by decide +kernel
theorem dX10_kitchen_141 : decode cX10_kitchen 141 = .ok (.aload_n 0, 1) := by decide +kernel
theorem dX10_kitchen_142 : decode cX10_kitchen 142 = .ok (.iconst 0, 1) := by decide +kernel
theorem dX10_kitchen_143 : decode cX10_kitchen 143 = .ok (.putfield 122, 3) := by decide +kernel
theorem dX10_kitchen_146 : decode cX10_kitchen 146 = .ok (.aload_n 0, 1) := by decide +kernel
theorem dX10_kitchen_147 : decode cX10_kitchen 147 = .ok (.iconst 0, 1) := by decide +kernel
theorem dX10_kitchen_148 : decode cX10_kitchen 148 = .ok (.putfield 125, 3) := by decide +kernel
theorem dX10_kitchen_151 : decode cX10_kitchen 151 = .ok (.aload_n 0, 1) := by decide +kernel
theorem dX10_kitchen_152 : decode cX10_kitchen 152 = .ok (.iconst 0, 1) := by decide +kernel
theorem dX10_kitchen_153 : decode cX10_kitchen 153 = .ok (.putfield 72, 3) := by decide +kernel
theorem dX10_kitchen_156 : decode cX10_kitchen 156 = .ok (.aload_n 0, 1) := by decide +kernel
theorem dX10_kitchen_157 : decode cX10_kitchen 157 = .ok (.getfield 101, 3) := by decide +kernel
theorem dX10_kitchen_160 : decode cX10_kitchen 160 = .ok (.ireturn, 1) := by decide +kernel
set_option maxRecDepth 20000 in
theorem ggX10_isPot_X10_within : GoodIn wsX10_isPot wsX10_within := goodIn_r _ [5] (by decide +kernel) (by decide +kernel)
set_option maxRecDepth 20000 in
theorem gX10_isPot_X10_within : GoodIn wsX10_isPot (va_wsS RX10 68 yX10_within wsX10_within) := goodIn_app (goodIn_of _ (by decide +kernel)) ggX10_isPot_X10_within
theorem dX10_isPot_0 : decode cX10_isPot 0 = .ok (.iload_n 1, 1) := by decide +kernel
theorem dX10_isPot_1 : decode cX10_isPot 1 = .ok (.iconst 0, 1) := by decide +kernel
theorem dX10_isPot_2 : decode cX10_isPot 2 = .ok (.aload_n 0, 1) := by decide +kernel
theorem dX10_isPot_3 : decode cX10_isPot 3 = .ok (.getfield 101, 3) := by decide +kernel
theorem dX10_isPot_6 : decode cX10_isPot 6 = .ok (.iconst 1, 1) := by decide +kernel
theorem dX10_isPot_7 : decode cX10_isPot 7 = .ok (.isub, 1) := by decide +kernel
theorem dX10_isPot_8 : decode cX10_isPot 8 = .ok (.invokestatic 68, 3) := by decide +kernel
theorem dX10_isPot_11 : decode cX10_isPot 11 = .ok (.ireturn, 1) := by decide +kernel
theorem dX10_keepsOf_0 : decode cX10_keepsOf 0 = .ok (.aload_n 0, 1) := by decide +kernel
theorem dX10_keepsOf_1 : decode cX10_keepsOf 1 = .ok (.getfield 7, 3) := by decide +kernel
theorem dX10_keepsOf_4 : decode cX10_keepsOf 4 = .ok (.iload_n 1, 1) := by decide +kernel
theorem dX10_keepsOf_5 : decode cX10_keepsOf 5 = .ok (.iaload, 1) := by decide +kernel
theorem dX10_keepsOf_6 : decode cX10_keepsOf 6 = .ok (.tableswitch 40 1 4 #[30, 32, 34, 37], 30) := by decide +kernel
theorem dX10_keepsOf_36 : decode cX10_keepsOf 36 = .ok (.iconst 1, 1) := by decide +kernel
theorem dX10_keepsOf_37 : decode cX10_keepsOf 37 = .ok (.ireturn, 1) := by decide +kernel
theorem dX10_keepsOf_38 : decode cX10_keepsOf 38 = .ok (.iconst 3, 1) := by decide +kernel
theorem dX10_keepsOf_39 : decode cX10_keepsOf 39 = .ok (.ireturn, 1) := by decide +kernel
theorem dX10_keepsOf_40 : decode cX10_keepsOf 40 = .ok (.bipush 9, 2) := by decide +kernel
theorem dX10_keepsOf_42 : decode cX10_keepsOf 42 = .ok (.ireturn, 1) := by decide +kernel
theorem dX10_keepsOf_43 : decode cX10_keepsOf 43 = .ok (.bipush 6, 2) := by decide +kernel
theorem dX10_keepsOf_45 : decode cX10_keepsOf 45 = .ok (.ireturn, 1) := by decide +kernel
theorem dX10_keepsOf_46 : decode cX10_keepsOf 46 = .ok (.iconst 0, 1) := by decide +kernel
theorem dX10_keepsOf_47 : decode cX10_keepsOf 47 = .ok (.ireturn, 1) := by decide +kernel
theorem dX10_out_0 : decode cX10_out 0 = .ok (.iload_n 0, 1) := by decide +kernel
theorem dX10_out_1 : decode cX10_out 1 = .ok (.iload_n 1, 1) := by decide +kernel
theorem dX10_out_2 : decode cX10_out 2 = .ok (.if_icmp .ge 12, 3) := by decide +kernel
theorem dX10_out_5 : decode cX10_out 5 = .ok (.bipush 100, 2) := by decide +kernel
theorem dX10_out_7 : decode cX10_out 7 = .ok (.iload_n 1, 1) := by decide +kernel
theorem dX10_out_8 : decode cX10_out 8 = .ok (.iload_n 0, 1) := by decide +kernel
theorem dX10_out_9 : decode cX10_out 9 = .ok (.isub, 1) := by decide +kernel
theorem dX10_out_10 : decode cX10_out 10 = .ok (.isub, 1) := by decide +kernel
theorem dX10_out_11 : decode cX10_out 11 = .ok (.goto 23, 3) := by decide +kernel
theorem dX10_out_14 : decode cX10_out 14 = .ok (.iload_n 0, 1) := by decide +kernel
theorem dX10_out_15 : decode cX10_out 15 = .ok (.iload_n 1, 1) := by decide +kernel
theorem dX10_out_16 : decode cX10_out 16 = .ok (.iload_n 2, 1) := by decide +kernel
theorem dX10_out_17 : decode cX10_out 17 = .ok (.iadd, 1) := by decide +kernel
theorem dX10_out_18 : decode cX10_out 18 = .ok (.if_icmp .gt 8, 3) := by decide +kernel
theorem dX10_out_21 : decode cX10_out 21 = .ok (.bipush 100, 2) := by decide +kernel
theorem dX10_out_23 : decode cX10_out 23 = .ok (.goto 11, 3) := by decide +kernel
theorem dX10_out_26 : decode cX10_out 26 = .ok (.bipush 100, 2) := by decide +kernel
theorem dX10_out_28 : decode cX10_out 28 = .ok (.iload_n 0, 1) := by decide +kernel
theorem dX10_out_29 : decode cX10_out 29 = .ok (.iadd, 1) := by decide +kernel
theorem dX10_out_30 : decode cX10_out 30 = .ok (.iload_n 1, 1) := by decide +kernel
theorem dX10_out_31 : decode cX10_out 31 = .ok (.isub, 1) := by decide +kernel
theorem dX10_out_32 : decode cX10_out 32 = .ok (.iload_n 2, 1) := by decide +kernel
theorem dX10_out_33 : decode cX10_out 33 = .ok (.isub, 1) := by decide +kernel
theorem dX10_out_34 : decode cX10_out 34 = .ok (.ireturn, 1) := by decide +kernel
theorem dX10_boils_0 : decode cX10_boils 0 = .ok (.aload_n 0, 1) := by decide +kernel
theorem dX10_boils_1 : decode cX10_boils 1 = .ok (.getfield 16, 3) := by decide +kernel
theorem dX10_boils_4 : decode cX10_boils 4 = .ok (.iload_n 1, 1) := by decide +kernel
theorem dX10_boils_5 : decode cX10_boils 5 = .ok (.iaload, 1) := by decide +kernel
theorem dX10_boils_6 : decode cX10_boils 6 = .ok (.iconst (-1), 1) := by decide +kernel
theorem dX10_boils_7 : decode cX10_boils 7 = .ok (.if_icmp .eq 7, 3) := by decide +kernel
theorem dX10_boils_10 : decode cX10_boils 10 = .ok (.iconst 1, 1) := by decide +kernel
theorem dX10_boils_11 : decode cX10_boils 11 = .ok (.goto 4, 3) := by decide +kernel
theorem dX10_boils_14 : decode cX10_boils 14 = .ok (.iconst 0, 1) := by decide +kernel
theorem dX10_boils_15 : decode cX10_boils 15 = .ok (.ireturn, 1) := by decide +kernel
theorem dX10_dueOf_0 : decode cX10_dueOf 0 = .ok (.aload_n 0, 1) := by decide +kernel
theorem dX10_dueOf_1 : decode cX10_dueOf 1 = .ok (.getfield 16, 3) := by decide +kernel
theorem dX10_dueOf_4 : decode cX10_dueOf 4 = .ok (.iload_n 1, 1) := by decide +kernel
theorem dX10_dueOf_5 : decode cX10_dueOf 5 = .ok (.iaload, 1) := by decide +kernel
theorem dX10_dueOf_6 : decode cX10_dueOf 6 = .ok (.aload_n 0, 1) := by decide +kernel
theorem dX10_dueOf_7 : decode cX10_dueOf 7 = .ok (.getfield 13, 3) := by decide +kernel
theorem dX10_dueOf_10 : decode cX10_dueOf 10 = .ok (.iload_n 1, 1) := by decide +kernel
theorem dX10_dueOf_11 : decode cX10_dueOf 11 = .ok (.iaload, 1) := by decide +kernel
theorem dX10_dueOf_12 : decode cX10_dueOf 12 = .ok (.iadd, 1) := by decide +kernel
theorem dX10_dueOf_13 : decode cX10_dueOf 13 = .ok (.ireturn, 1) := by decide +kernel
set_option maxRecDepth 20000 in
theorem ggX10_outAt_X10_dueOf : GoodIn wsX10_outAt wsX10_dueOf := goodIn_r _ [5, 6, 7, 16, 17, 18, 19, 20, 21, 22, 23, 24, 25, 26, 27, 28, 29, 30, 31, 32, 33, 34, 35, 36, 37, 38, 39, 40, 41, 42, 43, 44, 45, 46, 47, 48, 49, 50, 51, 52, 53, 54] (by decide +kernel) (by decide +kernel)
set_option maxRecDepth 20000 in
theorem gX10_outAt_X10_dueOf : GoodIn wsX10_outAt (wsV RX10 128 RX10 yX10_dueOf wsX10_dueOf) := goodIn_app (goodIn_of _ (by decide +kernel)) ggX10_outAt_X10_dueOf
set_option maxRecDepth 20000 in
theorem ggX10_outAt_X10_keepsOf : GoodIn wsX10_outAt wsX10_keepsOf := goodIn_r _ [11, 12, 16, 17, 18, 19, 20, 21, 22, 23, 24, 25, 26, 27, 28, 29, 30, 31, 32, 33, 34, 35, 36, 37, 38, 39, 40, 41, 42, 43, 44, 45, 46, 47, 48, 49, 50, 51, 52, 53, 54] (by decide +kernel) (by decide +kernel)
set_option maxRecDepth 20000 in
theorem gX10_outAt_X10_keepsOf : GoodIn wsX10_outAt (wsV RX10 131 RX10 yX10_keepsOf wsX10_keepsOf) := goodIn_app (goodIn_of _ (by decide +kernel)) ggX10_outAt_X10_keepsOf
set_option maxRecDepth 20000 in
theorem ggX10_outAt_X10_out : GoodIn wsX10_outAt wsX10_out := goodIn_r _ [15] (by decide +kernel) (by decide +kernel)
set_option maxRecDepth 20000 in
theorem gX10_outAt_X10_out : GoodIn wsX10_outAt (va_wsS RX10 134 yX10_out wsX10_out) := goodIn_app (goodIn_of _ (by decide +kernel)) ggX10_outAt_X10_out
theorem dX10_outAt_0 : decode cX10_outAt 0 = .ok (.iload_n 2, 1) := by decide +kernel
theorem dX10_outAt_1 : decode cX10_outAt 1 = .ok (.aload_n 0, 1) := by decide +kernel
theorem dX10_outAt_2 : decode cX10_outAt 2 = .ok (.iload_n 1, 1) := by decide +kernel
theorem dX10_outAt_3 : decode cX10_outAt 3 = .ok (.invokevirtual 128, 3) := by decide +kernel
theorem dX10_outAt_6 : decode cX10_outAt 6 = .ok (.aload_n 0, 1) := by decide +kernel
theorem dX10_outAt_7 : decode cX10_outAt 7 = .ok (.iload_n 1, 1) := by decide +kernel
theorem dX10_outAt_8 : decode cX10_outAt 8 = .ok (.invokevirtual 131, 3) := by decide +kernel
theorem dX10_outAt_11 : decode cX10_outAt 11 = .ok (.invokestatic 134, 3) := by decide +kernel
theorem dX10_outAt_14 : decode cX10_outAt 14 = .ok (.ireturn, 1) := by decide +kernel
set_option maxRecDepth 20000 in
theorem ggX10_potNow_X10_keepsOf : GoodIn wsX10_potNow wsX10_keepsOf := goodIn_r _ [11, 1, 27, 28, 29, 30, 31, 32, 33, 34, 35, 36, 37, 38, 39, 40, 41, 42, 43, 44, 45, 46, 47, 48, 49, 50, 51, 52, 53, 54, 55, 56, 57, 58, 59, 60, 61, 62, 63, 64, 65] (by decide +kernel) (by decide +kernel)
set_option maxRecDepth 20000 in
theorem gX10_potNow_X10_keepsOf : GoodIn wsX10_potNow (wsV RX10 131 RX10 yX10_keepsOf wsX10_keepsOf) := goodIn_app (goodIn_of _ (by decide +kernel)) ggX10_potNow_X10_keepsOf
set_option maxRecDepth 20000 in
theorem ggX10_potNow_X10_boils : GoodIn wsX10_potNow wsX10_boils := goodIn_r _ [15, 3, 27, 28, 29, 30, 31, 32, 33, 34, 35, 36, 37, 38, 39, 40, 41, 42, 43, 44, 45, 46, 47, 48, 49, 50, 51, 52, 53, 54, 55, 56, 57, 58, 59, 60, 61, 62, 63, 64, 65] (by decide +kernel) (by decide +kernel)
set_option maxRecDepth 20000 in
theorem gX10_potNow_X10_boils : GoodIn wsX10_potNow (wsV RX10 138 RX10 yX10_boils wsX10_boils) := goodIn_app (goodIn_of _ (by decide +kernel)) ggX10_potNow_X10_boils
set_option maxRecDepth 20000 in
theorem ggX10_potNow_X10_dueOf : GoodIn wsX10_potNow wsX10_dueOf := goodIn_r _ [19, 3, 2, 27, 28, 29, 30, 31, 32, 33, 34, 35, 36, 37, 38, 39, 40, 41, 42, 43, 44, 45, 46, 47, 48, 49, 50, 51, 52, 53, 54, 55, 56, 57, 58, 59, 60, 61, 62, 63, 64, 65] (by decide +kernel) (by decide +kernel)
set_option maxRecDepth 20000 in
theorem gX10_potNow_X10_dueOf : GoodIn wsX10_potNow (wsV RX10 128 RX10 yX10_dueOf wsX10_dueOf) := goodIn_app (goodIn_of _ (by decide +kernel)) ggX10_potNow_X10_dueOf
set_option maxRecDepth 20000 in
theorem ggX10_potNow_X10_outAt : GoodIn wsX10_potNow wsX10_outAt := goodIn_r _ [23, 16, 17, 18, 10, 19, 3, 2, 7, 8, 9, 11, 1, 24, 25, 26, 27, 28, 29, 30, 31, 32, 33, 34, 35, 36, 37, 38, 39, 40, 41, 42, 43, 44, 45, 46, 47, 48, 49, 50, 51, 52, 53, 54, 55, 56, 57, 58, 59, 60, 61, 62, 63, 64, 65] (by decide +kernel) (by decide +kernel)
set_option maxRecDepth 20000 in
theorem gX10_potNow_X10_outAt : GoodIn wsX10_potNow (wsV RX10 142 RX10 yX10_outAt wsX10_outAt) := goodIn_app (goodIn_of _ (by decide +kernel)) ggX10_potNow_X10_outAt
theorem dX10_potNow_0 : decode cX10_potNow 0 = .ok (.iload_n 2, 1) := by decide +kernel
theorem dX10_potNow_1 : decode cX10_potNow 1 = .ok (.tableswitch 117 0 6 #[43, 50, 57, 63, 70, 88, 110], 43) := by decide +kernel
theorem dX10_potNow_44 : decode cX10_potNow 44 = .ok (.aload_n 0, 1) := by decide +kernel
theorem dX10_potNow_45 : decode cX10_potNow 45 = .ok (.getfield 7, 3) := by decide +kernel
theorem dX10_potNow_48 : decode cX10_potNow 48 = .ok (.iload_n 1, 1) := by decide +kernel
theorem dX10_potNow_49 : decode cX10_potNow 49 = .ok (.iaload, 1) := by decide +kernel
theorem dX10_potNow_50 : decode cX10_potNow 50 = .ok (.ireturn, 1) := by decide +kernel
theorem dX10_potNow_51 : decode cX10_potNow 51 = .ok (.aload_n 0, 1) := by decide +kernel
theorem dX10_potNow_52 : decode cX10_potNow 52 = .ok (.getfield 13, 3) := by decide +kernel
theorem dX10_potNow_55 : decode cX10_potNow 55 = .ok (.iload_n 1, 1) := by decide +kernel
theorem dX10_potNow_56 : decode cX10_potNow 56 = .ok (.iaload, 1) := by decide +kernel
theorem dX10_potNow_57 : decode cX10_potNow 57 = .ok (.ireturn, 1) := by decide +kernel
theorem dX10_potNow_58 : decode cX10_potNow 58 = .ok (.aload_n 0, 1) := by decide +kernel
theorem dX10_potNow_59 : decode cX10_potNow 59 = .ok (.iload_n 1, 1) := by decide +kernel
theorem dX10_potNow_60 : decode cX10_potNow 60 = .ok (.invokevirtual 131, 3) := by decide +kernel
theorem dX10_potNow_63 : decode cX10_potNow 63 = .ok (.ireturn, 1) := by decide +kernel
theorem dX10_potNow_64 : decode cX10_potNow 64 = .ok (.aload_n 0, 1) := by decide +kernel
theorem dX10_potNow_65 : decode cX10_potNow 65 = .ok (.getfield 16, 3) := by decide +kernel
theorem dX10_potNow_68 : decode cX10_potNow 68 = .ok (.iload_n 1, 1) := by decide +kernel
theorem dX10_potNow_69 : decode cX10_potNow 69 = .ok (.iaload, 1) := by decide +kernel
theorem dX10_potNow_70 : decode cX10_potNow 70 = .ok (.ireturn, 1) := by decide +kernel
theorem dX10_potNow_71 : decode cX10_potNow 71 = .ok (.aload_n 0, 1) := by decide +kernel
theorem dX10_potNow_72 : decode cX10_potNow 72 = .ok (.iload_n 1, 1) := by decide +kernel
theorem dX10_potNow_73 : decode cX10_potNow 73 = .ok (.invokevirtual 138, 3) := by decide +kernel
theorem dX10_potNow_76 : decode cX10_potNow 76 = .ok (.ifCond .eq 11, 3) := by decide +kernel
theorem dX10_potNow_79 : decode cX10_potNow 79 = .ok (.aload_n 0, 1) := by decide +kernel
theorem dX10_potNow_80 : decode cX10_potNow 80 = .ok (.iload_n 1, 1) := by decide +kernel
theorem dX10_potNow_81 : decode cX10_potNow 81 = .ok (.invokevirtual 128, 3) := by decide +kernel
theorem dX10_potNow_84 : decode cX10_potNow 84 = .ok (.goto 4, 3) := by decide +kernel
theorem dX10_potNow_87 : decode cX10_potNow 87 = .ok (.iconst (-1), 1) := by decide +kernel
theorem dX10_potNow_88 : decode cX10_potNow 88 = .ok (.ireturn, 1) := by decide +kernel
theorem dX10_potNow_89 : decode cX10_potNow 89 = .ok (.aload_n 0, 1) := by decide +kernel
theorem dX10_potNow_90 : decode cX10_potNow 90 = .ok (.iload_n 1, 1) := by decide +kernel
theorem dX10_potNow_91 : decode cX10_potNow 91 = .ok (.invokevirtual 138, 3) := by decide +kernel
theorem dX10_potNow_94 : decode cX10_potNow 94 = .ok (.ifCond .eq 15, 3) := by decide +kernel
theorem dX10_potNow_97 : decode cX10_potNow 97 = .ok (.aload_n 0, 1) := by decide +kernel
theorem dX10_potNow_98 : decode cX10_potNow 98 = .ok (.iload_n 1, 1) := by decide +kernel
theorem dX10_potNow_99 : decode cX10_potNow 99 = .ok (.aload_n 0, 1) := by decide +kernel
theorem dX10_potNow_100 : decode cX10_potNow 100 = .ok (.getfield 116, 3) := by decide +kernel
theorem dX10_potNow_103 : decode cX10_potNow 103 = .ok (.invokevirtual 142, 3) := by decide +kernel
theorem dX10_potNow_106 : decode cX10_potNow 106 = .ok (.goto 4, 3) := by decide +kernel
theorem dX10_potNow_109 : decode cX10_potNow 109 = .ok (.iconst (-1), 1) := by decide +kernel
theorem dX10_potNow_110 : decode cX10_potNow 110 = .ok (.ireturn, 1) := by decide +kernel
theorem dX10_potNow_111 : decode cX10_potNow 111 = .ok (.aload_n 0, 1) := by decide +kernel
theorem dX10_potNow_112 : decode cX10_potNow 112 = .ok (.getfield 19, 3) := by decide +kernel
theorem dX10_potNow_115 : decode cX10_potNow 115 = .ok (.iload_n 1, 1) := by decide +kernel
theorem dX10_potNow_116 : decode cX10_potNow 116 = .ok (.iaload, 1) := by decide +kernel
theorem dX10_potNow_117 : decode cX10_potNow 117 = .ok (.ireturn, 1) := by decide +kernel
theorem dX10_potNow_118 : decode cX10_potNow 118 = .ok (.aload_n 0, 1) := by decide +kernel
theorem dX10_potNow_119 : decode cX10_potNow 119 = .ok (.getfield 22, 3) := by decide +kernel
theorem dX10_potNow_122 : decode cX10_potNow 122 = .ok (.iload_n 1, 1) := by decide +kernel
theorem dX10_potNow_123 : decode cX10_potNow 123 = .ok (.iaload, 1) := by decide +kernel
theorem dX10_potNow_124 : decode cX10_potNow 124 = .ok (.ireturn, 1) := by decide +kernel
set_option maxRecDepth 20000 in
theorem ggX10_about_X10_isPot : GoodIn wsX10_about wsX10_isPot := goodIn_r _ [5, 6, 7, 8, 4, 9, 39, 40, 41, 42, 43, 44, 45, 46, 47, 48, 49, 50, 51, 52, 53, 54, 55, 56, 57, 58, 59, 60, 61, 62, 63, 64, 65, 66, 67, 68, 69, 70, 71, 72, 73, 74, 75, 76, 77] (by decide +kernel) (by decide +kernel)
set_option maxRecDepth 20000 in
theorem gX10_about_X10_isPot : GoodIn wsX10_about (wsV RX10 145 RX10 yX10_isPot wsX10_isPot) := goodIn_app (goodIn_of _ (by decide +kernel)) ggX10_about_X10_isPot
set_option maxRecDepth 20000 in
theorem ggX10_about_X10_within : GoodIn wsX10_about wsX10_within := goodIn_r _ [9] (by decide +kernel) (by decide +kernel)
set_option maxRecDepth 20000 in
theorem gX10_about_X10_within : GoodIn wsX10_about (va_wsS RX10 68 yX10_within wsX10_within) := goodIn_app (goodIn_of _ (by decide +kernel)) ggX10_about_X10_within
set_option maxRecDepth 20000 in
theorem ggX10_about_X10_potNow : GoodIn wsX10_about wsX10_potNow := goodIn_r _ [13, 14, 15, 16, 17, 18, 19, 20, 21, 22, 4, 23, 24, 25, 26, 27, 28, 29, 30, 31, 32, 33, 34, 35, 36, 37, 38, 39, 40, 41, 42, 43, 44, 45, 46, 47, 48, 49, 50, 51, 52, 53, 54, 55, 56, 57, 58, 59, 60, 61, 62, 63, 64, 65, 66, 67, 68, 69, 70, 71, 72, 73, 74, 75, 76, 77] (by decide +kernel) (by decide +kernel)
set_option maxRecDepth 20000 in
theorem gX10_about_X10_potNow : GoodIn wsX10_about (wsV RX10 148 RX10 yX10_potNow wsX10_potNow) := goodIn_app (goodIn_of _ (by decide +kernel)) ggX10_about_X10_potNow
theorem dX10_about_0 : decode cX10_about 0 = .ok (.aload_n 0, 1) := by decide +kernel
theorem dX10_about_1 : decode cX10_about 1 = .ok (.iload_n 1, 1) := by decide +kernel
theorem dX10_about_2 : decode cX10_about 2 = .ok (.invokevirtual 145, 3) := by decide +kernel
theorem dX10_about_5 : decode cX10_about 5 = .ok (.ifCond .ne 8, 3) := by decide +kernel
theorem dX10_about_8 : decode cX10_about 8 = .ok (.bipush (-101), 2) := by decide +kernel
theorem dX10_about_10 : decode cX10_about 10 = .ok (.goto 24, 3) := by decide +kernel
theorem dX10_about_13 : decode cX10_about 13 = .ok (.iload_n 2, 1) := by decide +kernel
theorem dX10_about_14 : decode cX10_about 14 = .ok (.iconst 0, 1) := by decide +kernel
theorem dX10_about_15 : decode cX10_about 15 = .ok (.bipush 7, 2) := by decide +kernel
theorem dX10_about_17 : decode cX10_about 17 = .ok (.invokestatic 68, 3) := by decide +kernel
theorem dX10_about_20 : decode cX10_about 20 = .ok (.ifCond .eq 12, 3) := by decide +kernel
theorem dX10_about_23 : decode cX10_about 23 = .ok (.aload_n 0, 1) := by decide +kernel
theorem dX10_about_24 : decode cX10_about 24 = .ok (.iload_n 1, 1) := by decide +kernel
theorem dX10_about_25 : decode cX10_about 25 = .ok (.iload_n 2, 1) := by decide +kernel
theorem dX10_about_26 : decode cX10_about 26 = .ok (.invokevirtual 148, 3) := by decide +kernel
theorem dX10_about_29 : decode cX10_about 29 = .ok (.goto 5, 3) := by decide +kernel
theorem dX10_about_32 : decode cX10_about 32 = .ok (.bipush (-102), 2) := by decide +kernel
theorem dX10_about_34 : decode cX10_about 34 = .ok (.ireturn, 1) := by decide +kernel
set_option maxRecDepth 20000 in
theorem ggX10_as_X10_isPot : GoodIn wsX10_as wsX10_isPot := goodIn_r _ [6, 7, 8, 9, 5, 10, 11, 12, 13, 14, 15, 16, 17, 18, 19, 20, 21, 22, 23, 24, 25, 26, 27, 28, 29, 30, 31, 32, 33, 34, 35, 36, 37, 38, 39, 40, 41, 42, 43, 44, 45, 46, 47, 48, 49] (by decide +kernel) (by decide +kernel)
set_option maxRecDepth 20000 in
theorem gX10_as_X10_isPot : GoodIn wsX10_as (wsV RX10 145 RX10 yX10_isPot wsX10_isPot) := goodIn_app (goodIn_of _ (by decide +kernel)) ggX10_as_X10_isPot
set_option maxRecDepth 20000 in
theorem ggX10_as_X10_within : GoodIn wsX10_as wsX10_within := goodIn_r _ [10] (by decide +kernel) (by decide +kernel)
set_option maxRecDepth 20000 in
theorem gX10_as_X10_within : GoodIn wsX10_as (va_wsS RX10 68 yX10_within wsX10_within) := goodIn_app (goodIn_of _ (by decide +kernel)) ggX10_as_X10_within
theorem dX10_as_0 : decode cX10_as 0 = .ok (.aload_n 0, 1) := by decide +kernel
theorem dX10_as_1 : decode cX10_as 1 = .ok (.iload_n 1, 1) := by decide +kernel
theorem dX10_as_2 : decode cX10_as 2 = .ok (.invokevirtual 145, 3) := by decide +kernel
theorem dX10_as_5 : decode cX10_as 5 = .ok (.ifCond .ne 6, 3) := by decide +kernel
theorem dX10_as_8 : decode cX10_as 8 = .ok (.bipush (-101), 2) := by decide +kernel
theorem dX10_as_10 : decode cX10_as 10 = .ok (.ireturn, 1) := by decide +kernel
theorem dX10_as_11 : decode cX10_as 11 = .ok (.iload_n 2, 1) := by decide +kernel
theorem dX10_as_12 : decode cX10_as 12 = .ok (.iconst 0, 1) := by decide +kernel
theorem dX10_as_13 : decode cX10_as 13 = .ok (.iconst 4, 1) := by decide +kernel
theorem dX10_as_14 : decode cX10_as 14 = .ok (.invokestatic 68, 3) := by decide +kernel
theorem dX10_as_17 : decode cX10_as 17 = .ok (.ifCond .ne 6, 3) := by decide +kernel
theorem dX10_as_20 : decode cX10_as 20 = .ok (.bipush (-102), 2) := by decide +kernel
theorem dX10_as_22 : decode cX10_as 22 = .ok (.ireturn, 1) := by decide +kernel
theorem dX10_as_23 : decode cX10_as 23 = .ok (.aload_n 0, 1) := by decide +kernel
theorem dX10_as_24 : decode cX10_as 24 = .ok (.getfield 7, 3) := by decide +kernel
theorem dX10_as_27 : decode cX10_as 27 = .ok (.iload_n 1, 1) := by decide +kernel
theorem dX10_as_28 : decode cX10_as 28 = .ok (.iaload, 1) := by decide +kernel
theorem dX10_as_29 : decode cX10_as 29 = .ok (.istore_n 3, 1) := by decide +kernel
theorem dX10_as_30 : decode cX10_as 30 = .ok (.iload_n 2, 1) := by decide +kernel
theorem dX10_as_31 : decode cX10_as 31 = .ok (.ifCond .eq 18, 3) := by decide +kernel
theorem dX10_as_34 : decode cX10_as 34 = .ok (.iload_n 3, 1) := by decide +kernel
theorem dX10_as_35 : decode cX10_as 35 = .ok (.iload_n 2, 1) := by decide +kernel
theorem dX10_as_36 : decode cX10_as 36 = .ok (.if_icmp .eq 13, 3) := by decide +kernel
theorem dX10_as_39 : decode cX10_as 39 = .ok (.iload_n 2, 1) := by decide +kernel
theorem dX10_as_40 : decode cX10_as 40 = .ok (.iconst 2, 1) := by decide +kernel
end
section
theorem dX10_as_41 : decode cX10_as 41 = .ok (.if_icmp .ne 12, 3) := by decide +kernel
theorem dX10_as_44 : decode cX10_as 44 = .ok (.iload_n 3, 1) := by decide +kernel
theorem dX10_as_45 : decode cX10_as 45 = .ok (.iconst 4, 1) := by decide +kernel
theorem dX10_as_46 : decode cX10_as 46 = .ok (.if_icmp .ne 7, 3) := by decide +kernel
theorem dX10_as_49 : decode cX10_as 49 = .ok (.iload_n 1, 1) := by decide +kernel
theorem dX10_as_50 : decode cX10_as 50 = .ok (.goto 4, 3) := by decide +kernel
theorem dX10_as_53 : decode cX10_as 53 = .ok (.iconst (-1), 1) := by decide +kernel
theorem dX10_as_54 : decode cX10_as 54 = .ok (.ireturn, 1) := by decide +kernel
set_option maxRecDepth 20000 in
theorem ggX10_boil_X10_isPot : GoodIn wsX10_boil wsX10_isPot := goodIn_r _ [7, 8, 9, 10, 6, 11, 21, 22, 23, 24, 25, 26, 27, 28, 29, 30, 31, 32, 33, 34, 35, 36, 37, 38, 39, 40, 41, 42, 43, 44, 45, 46, 47, 48, 49, 50, 51, 52, 53, 54, 55, 56, 57, 58, 59] (by decide +kernel) (by decide +kernel)
set_option maxRecDepth 20000 in
theorem gX10_boil_X10_isPot : GoodIn wsX10_boil (wsV RX10 145 RX10 yX10_isPot wsX10_isPot) := goodIn_app (goodIn_of _ (by decide +kernel)) ggX10_boil_X10_isPot
set_option maxRecDepth 20000 in
theorem ggX10_boil_X10_boils : GoodIn wsX10_boil wsX10_boils := goodIn_r _ [15, 1, 21, 22, 23, 24, 25, 26, 27, 28, 29, 30, 31, 32, 33, 34, 35, 36, 37, 38, 39, 40, 41, 42, 43, 44, 45, 46, 47, 48, 49, 50, 51, 52, 53, 54, 55, 56, 57, 58, 59] (by decide +kernel) (by decide +kernel)
set_option maxRecDepth 20000 in
theorem gX10_boil_X10_boils : GoodIn wsX10_boil (wsV RX10 138 RX10 yX10_boils wsX10_boils) := goodIn_app (goodIn_of _ (by decide +kernel)) ggX10_boil_X10_boils
set_option maxRecDepth 20000 in
theorem ggX10_boil_X10_dueOf : GoodIn wsX10_boil wsX10_dueOf := goodIn_r _ [19, 1, 20, 21, 22, 23, 24, 25, 26, 27, 28, 29, 30, 31, 32, 33, 34, 35, 36, 37, 38, 39, 40, 41, 42, 43, 44, 45, 46, 47, 48, 49, 50, 51, 52, 53, 54, 55, 56, 57, 58, 59] (by decide +kernel) (by decide +kernel)
set_option maxRecDepth 20000 in
theorem gX10_boil_X10_dueOf : GoodIn wsX10_boil (wsV RX10 128 RX10 yX10_dueOf wsX10_dueOf) := goodIn_app (goodIn_of _ (by decide +kernel)) ggX10_boil_X10_dueOf
theorem dX10_boil_0 : decode cX10_boil 0 = .ok (.aload_n 0, 1) := by decide +kernel
theorem dX10_boil_1 : decode cX10_boil 1 = .ok (.iload_n 1, 1) := by decide +kernel
theorem dX10_boil_2 : decode cX10_boil 2 = .ok (.invokevirtual 145, 3) := by decide +kernel
theorem dX10_boil_5 : decode cX10_boil 5 = .ok (.ifCond .ne 6, 3) := by decide +kernel
theorem dX10_boil_8 : decode cX10_boil 8 = .ok (.bipush (-101), 2) := by decide +kernel
theorem dX10_boil_10 : decode cX10_boil 10 = .ok (.ireturn, 1) := by decide +kernel
theorem dX10_boil_11 : decode cX10_boil 11 = .ok (.aload_n 0, 1) := by decide +kernel
theorem dX10_boil_12 : decode cX10_boil 12 = .ok (.iload_n 1, 1) := by decide +kernel
theorem dX10_boil_13 : decode cX10_boil 13 = .ok (.invokevirtual 138, 3) := by decide +kernel
theorem dX10_boil_16 : decode cX10_boil 16 = .ok (.ifCond .eq 6, 3) := by decide +kernel
theorem dX10_boil_19 : decode cX10_boil 19 = .ok (.bipush (-103), 2) := by decide +kernel
theorem dX10_boil_21 : decode cX10_boil 21 = .ok (.ireturn, 1) := by decide +kernel
theorem dX10_boil_22 : decode cX10_boil 22 = .ok (.aload_n 0, 1) := by decide +kernel
theorem dX10_boil_23 : decode cX10_boil 23 = .ok (.getfield 16, 3) := by decide +kernel
theorem dX10_boil_26 : decode cX10_boil 26 = .ok (.iload_n 1, 1) := by decide +kernel
theorem dX10_boil_27 : decode cX10_boil 27 = .ok (.aload_n 0, 1) := by decide +kernel
theorem dX10_boil_28 : decode cX10_boil 28 = .ok (.getfield 116, 3) := by decide +kernel
theorem dX10_boil_31 : decode cX10_boil 31 = .ok (.iastore, 1) := by decide +kernel
theorem dX10_boil_32 : decode cX10_boil 32 = .ok (.aload_n 0, 1) := by decide +kernel
theorem dX10_boil_33 : decode cX10_boil 33 = .ok (.iload_n 1, 1) := by decide +kernel
theorem dX10_boil_34 : decode cX10_boil 34 = .ok (.invokevirtual 128, 3) := by decide +kernel
theorem dX10_boil_37 : decode cX10_boil 37 = .ok (.ireturn, 1) := by decide +kernel
set_option maxRecDepth 20000 in
theorem ggX10_wind_X10_within : GoodIn wsX10_wind wsX10_within := goodIn_r _ [10] (by decide +kernel) (by decide +kernel)
set_option maxRecDepth 20000 in
theorem gX10_wind_X10_within : GoodIn wsX10_wind (va_wsS RX10 68 yX10_within wsX10_within) := goodIn_app (goodIn_of _ (by decide +kernel)) ggX10_wind_X10_within
theorem dX10_wind_0 : decode cX10_wind 0 = .ok (.iload_n 1, 1) := by decide +kernel
theorem dX10_wind_1 : decode cX10_wind 1 = .ok (.iconst 1, 1) := by decide +kernel
theorem dX10_wind_2 : decode cX10_wind 2 = .ok (.aload_n 0, 1) := by decide +kernel
theorem dX10_wind_3 : decode cX10_wind 3 = .ok (.getfield 101, 3) := by decide +kernel
theorem dX10_wind_6 : decode cX10_wind 6 = .ok (.ifCond .ne 8, 3) := by decide +kernel
theorem dX10_wind_9 : decode cX10_wind 9 = .ok (.bipush 60, 2) := by decide +kernel
theorem dX10_wind_11 : decode cX10_wind 11 = .ok (.goto 7, 3) := by decide +kernel
theorem dX10_wind_14 : decode cX10_wind 14 = .ok (.aload_n 0, 1) := by decide +kernel
theorem dX10_wind_15 : decode cX10_wind 15 = .ok (.getfield 107, 3) := by decide +kernel
theorem dX10_wind_18 : decode cX10_wind 18 = .ok (.invokestatic 68, 3) := by decide +kernel
theorem dX10_wind_21 : decode cX10_wind 21 = .ok (.ifCond .ne 6, 3) := by decide +kernel
theorem dX10_wind_24 : decode cX10_wind 24 = .ok (.bipush (-102), 2) := by decide +kernel
theorem dX10_wind_26 : decode cX10_wind 26 = .ok (.ireturn, 1) := by decide +kernel
theorem dX10_wind_27 : decode cX10_wind 27 = .ok (.aload_n 0, 1) := by decide +kernel
theorem dX10_wind_28 : decode cX10_wind 28 = .ok (.getfield 101, 3) := by decide +kernel
theorem dX10_wind_31 : decode cX10_wind 31 = .ok (.ifCond .eq 15, 3) := by decide +kernel
theorem dX10_wind_34 : decode cX10_wind 34 = .ok (.aload_n 0, 1) := by decide +kernel
theorem dX10_wind_35 : decode cX10_wind 35 = .ok (.getfield 116, 3) := by decide +kernel
theorem dX10_wind_38 : decode cX10_wind 38 = .ok (.iload_n 1, 1) := by decide +kernel
theorem dX10_wind_39 : decode cX10_wind 39 = .ok (.iadd, 1) := by decide +kernel
theorem dX10_wind_40 : decode cX10_wind 40 = .ok (.sipush 999, 3) := by decide +kernel
theorem dX10_wind_43 : decode cX10_wind 43 = .ok (.if_icmp .le 6, 3) := by decide +kernel
theorem dX10_wind_46 : decode cX10_wind 46 = .ok (.bipush (-103), 2) := by decide +kernel
theorem dX10_wind_48 : decode cX10_wind 48 = .ok (.ireturn, 1) := by decide +kernel
theorem dX10_wind_49 : decode cX10_wind 49 = .ok (.aload_n 0, 1) := by decide +kernel
theorem dX10_wind_50 : decode cX10_wind 50 = .ok (.dup, 1) := by decide +kernel
theorem dX10_wind_51 : decode cX10_wind 51 = .ok (.getfield 116, 3) := by decide +kernel
theorem dX10_wind_54 : decode cX10_wind 54 = .ok (.iload_n 1, 1) := by decide +kernel
theorem dX10_wind_55 : decode cX10_wind 55 = .ok (.iadd, 1) := by decide +kernel
theorem dX10_wind_56 : decode cX10_wind 56 = .ok (.putfield 116, 3) := by decide +kernel
theorem dX10_wind_59 : decode cX10_wind 59 = .ok (.aload_n 0, 1) := by decide +kernel
theorem dX10_wind_60 : decode cX10_wind 60 = .ok (.aload_n 0, 1) := by decide +kernel
theorem dX10_wind_61 : decode cX10_wind 61 = .ok (.getfield 110, 3) := by decide +kernel
theorem dX10_wind_64 : decode cX10_wind 64 = .ok (.putfield 119, 3) := by decide +kernel
theorem dX10_wind_67 : decode cX10_wind 67 = .ok (.aload_n 0, 1) := by decide +kernel
theorem dX10_wind_68 : decode cX10_wind 68 = .ok (.dup, 1) := by decide +kernel
theorem dX10_wind_69 : decode cX10_wind 69 = .ok (.getfield 122, 3) := by decide +kernel
theorem dX10_wind_72 : decode cX10_wind 72 = .ok (.iconst 1, 1) := by decide +kernel
theorem dX10_wind_73 : decode cX10_wind 73 = .ok (.iadd, 1) := by decide +kernel
theorem dX10_wind_74 : decode cX10_wind 74 = .ok (.putfield 122, 3) := by decide +kernel
theorem dX10_wind_77 : decode cX10_wind 77 = .ok (.aload_n 0, 1) := by decide +kernel
theorem dX10_wind_78 : decode cX10_wind 78 = .ok (.getfield 116, 3) := by decide +kernel
theorem dX10_wind_81 : decode cX10_wind 81 = .ok (.ireturn, 1) := by decide +kernel
set_option maxRecDepth 20000 in
theorem ggX10_take_X10_isPot : GoodIn wsX10_take wsX10_isPot := goodIn_r _ [10, 11, 12, 13, 9, 14, 36, 37, 38, 39, 40, 41, 42, 43, 44, 45, 46, 47, 48, 49, 50, 51, 52, 53, 54, 55, 56, 57, 58, 59, 60, 61, 62, 63, 64, 65, 66, 67, 68, 69, 70, 71, 72, 73, 74] (by decide +kernel) (by decide +kernel)
set_option maxRecDepth 20000 in
theorem gX10_take_X10_isPot : GoodIn wsX10_take (wsV RX10 145 RX10 yX10_isPot wsX10_isPot) := goodIn_app (goodIn_of _ (by decide +kernel)) ggX10_take_X10_isPot
set_option maxRecDepth 20000 in
theorem ggX10_take_X10_boils : GoodIn wsX10_take wsX10_boils := goodIn_r _ [18, 4, 36, 37, 38, 39, 40, 41, 42, 43, 44, 45, 46, 47, 48, 49, 50, 51, 52, 53, 54, 55, 56, 57, 58, 59, 60, 61, 62, 63, 64, 65, 66, 67, 68, 69, 70, 71, 72, 73, 74] (by decide +kernel) (by decide +kernel)
set_option maxRecDepth 20000 in
theorem gX10_take_X10_boils : GoodIn wsX10_take (wsV RX10 138 RX10 yX10_boils wsX10_boils) := goodIn_app (goodIn_of _ (by decide +kernel)) ggX10_take_X10_boils
set_option maxRecDepth 20000 in
theorem ggX10_take_X10_outAt : GoodIn wsX10_take wsX10_outAt := goodIn_r _ [22, 23, 24, 25, 9, 26, 4, 27, 28, 29, 30, 31, 32, 33, 34, 35, 36, 37, 38, 39, 40, 41, 42, 43, 44, 45, 46, 47, 48, 49, 50, 51, 52, 53, 54, 55, 56, 57, 58, 59, 60, 61, 62, 63, 64, 65, 66, 67, 68, 69, 70, 71, 72, 73, 74] (by decide +kernel) (by decide +kernel)
set_option maxRecDepth 20000 in
theorem gX10_take_X10_outAt : GoodIn wsX10_take (wsV RX10 142 RX10 yX10_outAt wsX10_outAt) := goodIn_app (goodIn_of _ (by decide +kernel)) ggX10_take_X10_outAt
theorem dX10_take_0 : decode cX10_take 0 = .ok (.aload_n 0, 1) := by decide +kernel
theorem dX10_take_1 : decode cX10_take 1 = .ok (.iload_n 1, 1) := by decide +kernel
theorem dX10_take_2 : decode cX10_take 2 = .ok (.invokevirtual 145, 3) := by decide +kernel
theorem dX10_take_5 : decode cX10_take 5 = .ok (.ifCond .ne 6, 3) := by decide +kernel
theorem dX10_take_8 : decode cX10_take 8 = .ok (.bipush (-101), 2) := by decide +kernel
theorem dX10_take_10 : decode cX10_take 10 = .ok (.ireturn, 1) := by decide +kernel
theorem dX10_take_11 : decode cX10_take 11 = .ok (.aload_n 0, 1) := by decide +kernel
theorem dX10_take_12 : decode cX10_take 12 = .ok (.iload_n 1, 1) := by decide +kernel
theorem dX10_take_13 : decode cX10_take 13 = .ok (.invokevirtual 138, 3) := by decide +kernel
theorem dX10_take_16 : decode cX10_take 16 = .ok (.ifCond .eq 10, 3) := by decide +kernel
theorem dX10_take_19 : decode cX10_take 19 = .ok (.aload_n 0, 1) := by decide +kernel
theorem dX10_take_20 : decode cX10_take 20 = .ok (.getfield 119, 3) := by decide +kernel
theorem dX10_take_23 : decode cX10_take 23 = .ok (.ifCond .ne 6, 3) := by decide +kernel
theorem dX10_take_26 : decode cX10_take 26 = .ok (.bipush (-103), 2) := by decide +kernel
theorem dX10_take_28 : decode cX10_take 28 = .ok (.ireturn, 1) := by decide +kernel
theorem dX10_take_29 : decode cX10_take 29 = .ok (.aload_n 0, 1) := by decide +kernel
theorem dX10_take_30 : decode cX10_take 30 = .ok (.getfield 22, 3) := by decide +kernel
theorem dX10_take_33 : decode cX10_take 33 = .ok (.iload_n 1, 1) := by decide +kernel
theorem dX10_take_34 : decode cX10_take 34 = .ok (.aload_n 0, 1) := by decide +kernel
theorem dX10_take_35 : decode cX10_take 35 = .ok (.iload_n 1, 1) := by decide +kernel
theorem dX10_take_36 : decode cX10_take 36 = .ok (.aload_n 0, 1) := by decide +kernel
theorem dX10_take_37 : decode cX10_take 37 = .ok (.getfield 116, 3) := by decide +kernel
theorem dX10_take_40 : decode cX10_take 40 = .ok (.invokevirtual 142, 3) := by decide +kernel
theorem dX10_take_43 : decode cX10_take 43 = .ok (.iastore, 1) := by decide +kernel
theorem dX10_take_44 : decode cX10_take 44 = .ok (.aload_n 0, 1) := by decide +kernel
theorem dX10_take_45 : decode cX10_take 45 = .ok (.getfield 16, 3) := by decide +kernel
theorem dX10_take_48 : decode cX10_take 48 = .ok (.iload_n 1, 1) := by decide +kernel
theorem dX10_take_49 : decode cX10_take 49 = .ok (.iconst (-1), 1) := by decide +kernel
theorem dX10_take_50 : decode cX10_take 50 = .ok (.iastore, 1) := by decide +kernel
theorem dX10_take_51 : decode cX10_take 51 = .ok (.aload_n 0, 1) := by decide +kernel
theorem dX10_take_52 : decode cX10_take 52 = .ok (.getfield 19, 3) := by decide +kernel
theorem dX10_take_55 : decode cX10_take 55 = .ok (.iload_n 1, 1) := by decide +kernel
theorem dX10_take_56 : decode cX10_take 56 = .ok (.dup2, 1) := by decide +kernel
theorem dX10_take_57 : decode cX10_take 57 = .ok (.iaload, 1) := by decide +kernel
theorem dX10_take_58 : decode cX10_take 58 = .ok (.iconst 1, 1) := by decide +kernel
theorem dX10_take_59 : decode cX10_take 59 = .ok (.iadd, 1) := by decide +kernel
theorem dX10_take_60 : decode cX10_take 60 = .ok (.iastore, 1) := by decide +kernel
theorem dX10_take_61 : decode cX10_take 61 = .ok (.aload_n 0, 1) := by decide +kernel
theorem dX10_take_62 : decode cX10_take 62 = .ok (.dup, 1) := by decide +kernel
theorem dX10_take_63 : decode cX10_take 63 = .ok (.getfield 119, 3) := by decide +kernel
theorem dX10_take_66 : decode cX10_take 66 = .ok (.iconst 1, 1) := by decide +kernel
theorem dX10_take_67 : decode cX10_take 67 = .ok (.isub, 1) := by decide +kernel
theorem dX10_take_68 : decode cX10_take 68 = .ok (.putfield 119, 3) := by decide +kernel
theorem dX10_take_71 : decode cX10_take 71 = .ok (.aload_n 0, 1) := by decide +kernel
theorem dX10_take_72 : decode cX10_take 72 = .ok (.getfield 22, 3) := by decide +kernel
theorem dX10_take_75 : decode cX10_take 75 = .ok (.iload_n 1, 1) := by decide +kernel
theorem dX10_take_76 : decode cX10_take 76 = .ok (.iaload, 1) := by decide +kernel
theorem dX10_take_77 : decode cX10_take 77 = .ok (.ireturn, 1) := by decide +kernel
theorem dX10_size_0 : decode cX10_size 0 = .ok (.iload_n 0, 1) := by decide +kernel
theorem dX10_size_1 : decode cX10_size 1 = .ok (.iconst 1, 1) := by decide +kernel
theorem dX10_size_2 : decode cX10_size 2 = .ok (.iand, 1) := by decide +kernel
theorem dX10_size_3 : decode cX10_size 3 = .ok (.iload_n 0, 1) := by decide +kernel
theorem dX10_size_4 : decode cX10_size 4 = .ok (.iconst 1, 1) := by decide +kernel
theorem dX10_size_5 : decode cX10_size 5 = .ok (.ishr, 1) := by decide +kernel
theorem dX10_size_6 : decode cX10_size 6 = .ok (.iconst 1, 1) := by decide +kernel
theorem dX10_size_7 : decode cX10_size 7 = .ok (.iand, 1) := by decide +kernel
theorem dX10_size_8 : decode cX10_size 8 = .ok (.iadd, 1) := by decide +kernel
theorem dX10_size_9 : decode cX10_size 9 = .ok (.iload_n 0, 1) := by decide +kernel
theorem dX10_size_10 : decode cX10_size 10 = .ok (.iconst 2, 1) := by decide +kernel
theorem dX10_size_11 : decode cX10_size 11 = .ok (.ishr, 1) := by decide +kernel
theorem dX10_size_12 : decode cX10_size 12 = .ok (.iconst 1, 1) := by decide +kernel
theorem dX10_size_13 : decode cX10_size 13 = .ok (.iand, 1) := by decide +kernel
theorem dX10_size_14 : decode cX10_size 14 = .ok (.iadd, 1) := by decide +kernel
theorem dX10_size_15 : decode cX10_size 15 = .ok (.iload_n 0, 1) := by decide +kernel
theorem dX10_size_16 : decode cX10_size 16 = .ok (.iconst 3, 1) := by decide +kernel
theorem dX10_size_17 : decode cX10_size 17 = .ok (.ishr, 1) := by decide +kernel
theorem dX10_size_18 : decode cX10_size 18 = .ok (.iconst 1, 1) := by decide +kernel
theorem dX10_size_19 : decode cX10_size 19 = .ok (.iand, 1) := by decide +kernel
theorem dX10_size_20 : decode cX10_size 20 = .ok (.iadd, 1) := by decide +kernel
theorem dX10_size_21 : decode cX10_size 21 = .ok (.ireturn, 1) := by decide +kernel
set_option maxRecDepth 20000 in
theorem ggX10_goodAt_X10_boils : GoodIn wsX10_goodAt wsX10_boils := goodIn_r _ [6, 7, 25, 26, 27, 28, 29, 30, 31, 32, 33, 34, 35, 36, 37, 38, 39, 40, 41, 42, 43, 44, 45, 46, 47, 48, 49, 50, 51, 52, 53, 54, 55, 56, 57, 58, 59, 60, 61, 62, 63] (by decide +kernel) (by decide +kernel)
set_option maxRecDepth 20000 in
theorem gX10_goodAt_X10_boils : GoodIn wsX10_goodAt (wsV RX10 138 RX10 yX10_boils wsX10_boils) := goodIn_app (goodIn_of _ (by decide +kernel)) ggX10_goodAt_X10_boils
set_option maxRecDepth 20000 in
theorem ggX10_goodAt_X10_outAt : GoodIn wsX10_goodAt wsX10_outAt := goodIn_r _ [11, 12, 13, 14, 5, 15, 7, 16, 17, 18, 19, 20, 21, 22, 23, 24, 25, 26, 27, 28, 29, 30, 31, 32, 33, 34, 35, 36, 37, 38, 39, 40, 41, 42, 43, 44, 45, 46, 47, 48, 49, 50, 51, 52, 53, 54, 55, 56, 57, 58, 59, 60, 61, 62, 63] (by decide +kernel) (by decide +kernel)
set_option maxRecDepth 20000 in
theorem gX10_goodAt_X10_outAt : GoodIn wsX10_goodAt (wsV RX10 142 RX10 yX10_outAt wsX10_outAt) := goodIn_app (goodIn_of _ (by decide +kernel)) ggX10_goodAt_X10_outAt
theorem dX10_goodAt_0 : decode cX10_goodAt 0 = .ok (.iconst 0, 1) := by decide +kernel
theorem dX10_goodAt_1 : decode cX10_goodAt 1 = .ok (.istore_n 2, 1) := by decide +kernel
theorem dX10_goodAt_2 : decode cX10_goodAt 2 = .ok (.iconst 0, 1) := by decide +kernel
theorem dX10_goodAt_3 : decode cX10_goodAt 3 = .ok (.istore_n 3, 1) := by decide +kernel
theorem dX10_goodAt_4 : decode cX10_goodAt 4 = .ok (.iload_n 3, 1) := by decide +kernel
theorem dX10_goodAt_5 : decode cX10_goodAt 5 = .ok (.aload_n 0, 1) := by decide +kernel
theorem dX10_goodAt_6 : decode cX10_goodAt 6 = .ok (.getfield 101, 3) := by decide +kernel
theorem dX10_goodAt_9 : decode cX10_goodAt 9 = .ok (.if_icmp .ge 38, 3) := by decide +kernel
theorem dX10_goodAt_12 : decode cX10_goodAt 12 = .ok (.iload_n 2, 1) := by decide +kernel
theorem dX10_goodAt_13 : decode cX10_goodAt 13 = .ok (.aload_n 0, 1) := by decide +kernel
theorem dX10_goodAt_14 : decode cX10_goodAt 14 = .ok (.iload_n 3, 1) := by decide +kernel
theorem dX10_goodAt_15 : decode cX10_goodAt 15 = .ok (.invokevirtual 138, 3) := by decide +kernel
theorem dX10_goodAt_18 : decode cX10_goodAt 18 = .ok (.ifCond .eq 20, 3) := by decide +kernel
theorem dX10_goodAt_21 : decode cX10_goodAt 21 = .ok (.aload_n 0, 1) := by decide +kernel
theorem dX10_goodAt_22 : decode cX10_goodAt 22 = .ok (.iload_n 3, 1) := by decide +kernel
theorem dX10_goodAt_23 : decode cX10_goodAt 23 = .ok (.iload_n 1, 1) := by decide +kernel
theorem dX10_goodAt_24 : decode cX10_goodAt 24 = .ok (.invokevirtual 142, 3) := by decide +kernel
theorem dX10_goodAt_27 : decode cX10_goodAt 27 = .ok (.bipush 100, 2) := by decide +kernel
theorem dX10_goodAt_29 : decode cX10_goodAt 29 = .ok (.if_icmp .ne 9, 3) := by decide +kernel
theorem dX10_goodAt_32 : decode cX10_goodAt 32 = .ok (.iconst 1, 1) := by decide +kernel
theorem dX10_goodAt_33 : decode cX10_goodAt 33 = .ok (.iload_n 3, 1) := by decide +kernel
theorem dX10_goodAt_34 : decode cX10_goodAt 34 = .ok (.ishl, 1) := by decide +kernel
theorem dX10_goodAt_35 : decode cX10_goodAt 35 = .ok (.goto 4, 3) := by decide +kernel
theorem dX10_goodAt_38 : decode cX10_goodAt 38 = .ok (.iconst 0, 1) := by decide +kernel
theorem dX10_goodAt_39 : decode cX10_goodAt 39 = .ok (.ior, 1) := by decide +kernel
theorem dX10_goodAt_40 : decode cX10_goodAt 40 = .ok (.istore_n 2, 1) := by decide +kernel
theorem dX10_goodAt_41 : decode cX10_goodAt 41 = .ok (.iinc 3 1, 3) := by decide +kernel
theorem dX10_goodAt_44 : decode cX10_goodAt 44 = .ok (.goto (-40), 3) := by decide +kernel
theorem dX10_goodAt_47 : decode cX10_goodAt 47 = .ok (.iload_n 2, 1) := by decide +kernel
theorem dX10_goodAt_48 : decode cX10_goodAt 48 = .ok (.ireturn, 1) := by decide +kernel
set_option maxRecDepth 20000 in
theorem ggX10_mark_X10_size : GoodIn wsX10_mark wsX10_size := goodIn_r _ [6] (by decide +kernel) (by decide +kernel)
set_option maxRecDepth 20000 in
theorem gX10_mark_X10_size : GoodIn wsX10_mark (va_wsS RX10 151 yX10_size wsX10_size) := goodIn_app (goodIn_of _ (by decide +kernel)) ggX10_mark_X10_size
theorem dX10_mark_0 : decode cX10_mark 0 = .ok (.iconst 0, 1) := by decide +kernel
theorem dX10_mark_1 : decode cX10_mark 1 = .ok (.istore 7, 2) := by decide +kernel
theorem dX10_mark_3 : decode cX10_mark 3 = .ok (.iload 7, 2) := by decide +kernel
theorem dX10_mark_5 : decode cX10_mark 5 = .ok (.bipush 16, 2) := by decide +kernel
theorem dX10_mark_7 : decode cX10_mark 7 = .ok (.if_icmp .ge 129, 3) := by decide +kernel
theorem dX10_mark_10 : decode cX10_mark 10 = .ok (.iload 7, 2) := by decide +kernel
theorem dX10_mark_12 : decode cX10_mark 12 = .ok (.iload_n 3, 1) := by decide +kernel
theorem dX10_mark_13 : decode cX10_mark 13 = .ok (.iconst (-1), 1) := by decide +kernel
theorem dX10_mark_14 : decode cX10_mark 14 = .ok (.ixor, 1) := by decide +kernel
theorem dX10_mark_15 : decode cX10_mark 15 = .ok (.iand, 1) := by decide +kernel
theorem dX10_mark_16 : decode cX10_mark 16 = .ok (.ifCond .ne 114, 3) := by decide +kernel
theorem dX10_mark_19 : decode cX10_mark 19 = .ok (.iload 7, 2) := by decide +kernel
theorem dX10_mark_21 : decode cX10_mark 21 = .ok (.invokestatic 151, 3) := by decide +kernel
theorem dX10_mark_24 : decode cX10_mark 24 = .ok (.iload 4, 2) := by decide +kernel
theorem dX10_mark_26 : decode cX10_mark 26 = .ok (.if_icmp .gt 104, 3) := by decide +kernel
theorem dX10_mark_29 : decode cX10_mark 29 = .ok (.bipush 16, 2) := by decide +kernel
theorem dX10_mark_31 : decode cX10_mark 31 = .ok (.iload_n 1, 1) := by decide +kernel
theorem dX10_mark_32 : decode cX10_mark 32 = .ok (.imul, 1) := by decide +kernel
theorem dX10_mark_33 : decode cX10_mark 33 = .ok (.iload_n 2, 1) := by decide +kernel
theorem dX10_mark_34 : decode cX10_mark 34 = .ok (.iload 7, 2) := by decide +kernel
theorem dX10_mark_36 : decode cX10_mark 36 = .ok (.ior, 1) := by decide +kernel
theorem dX10_mark_37 : decode cX10_mark 37 = .ok (.iadd, 1) := by decide +kernel
theorem dX10_mark_38 : decode cX10_mark 38 = .ok (.istore 8, 2) := by decide +kernel
theorem dX10_mark_40 : decode cX10_mark 40 = .ok (.aload_n 0, 1) := by decide +kernel
theorem dX10_mark_41 : decode cX10_mark 41 = .ok (.getfield 41, 3) := by decide +kernel
theorem dX10_mark_44 : decode cX10_mark 44 = .ok (.iload 8, 2) := by decide +kernel
theorem dX10_mark_46 : decode cX10_mark 46 = .ok (.iaload, 1) := by decide +kernel
theorem dX10_mark_47 : decode cX10_mark 47 = .ok (.iconst (-1), 1) := by decide +kernel
theorem dX10_mark_48 : decode cX10_mark 48 = .ok (.if_icmp .eq 27, 3) := by decide +kernel
theorem dX10_mark_51 : decode cX10_mark 51 = .ok (.aload_n 0, 1) := by decide +kernel
theorem dX10_mark_52 : decode cX10_mark 52 = .ok (.getfield 41, 3) := by decide +kernel
theorem dX10_mark_55 : decode cX10_mark 55 = .ok (.iload 8, 2) := by decide +kernel
theorem dX10_mark_57 : decode cX10_mark 57 = .ok (.iaload, 1) := by decide +kernel
theorem dX10_mark_58 : decode cX10_mark 58 = .ok (.iload 5, 2) := by decide +kernel
theorem dX10_mark_60 : decode cX10_mark 60 = .ok (.if_icmp .ne 19, 3) := by decide +kernel
theorem dX10_mark_63 : decode cX10_mark 63 = .ok (.iload 6, 2) := by decide +kernel
theorem dX10_mark_65 : decode cX10_mark 65 = .ok (.aload_n 0, 1) := by decide +kernel
theorem dX10_mark_66 : decode cX10_mark 66 = .ok (.getfield 44, 3) := by decide +kernel
theorem dX10_mark_69 : decode cX10_mark 69 = .ok (.iload 8, 2) := by decide +kernel
theorem dX10_mark_71 : decode cX10_mark 71 = .ok (.iaload, 1) := by decide +kernel
theorem dX10_mark_72 : decode cX10_mark 72 = .ok (.if_icmp .ge 7, 3) := by decide +kernel
theorem dX10_mark_75 : decode cX10_mark 75 = .ok (.iconst 1, 1) := by decide +kernel
theorem dX10_mark_76 : decode cX10_mark 76 = .ok (.goto 4, 3) := by decide +kernel
theorem dX10_mark_79 : decode cX10_mark 79 = .ok (.iconst 0, 1) := by decide +kernel
theorem dX10_mark_80 : decode cX10_mark 80 = .ok (.istore 9, 2) := by decide +kernel
theorem dX10_mark_82 : decode cX10_mark 82 = .ok (.aload_n 0, 1) := by decide +kernel
theorem dX10_mark_83 : decode cX10_mark 83 = .ok (.getfield 41, 3) := by decide +kernel
theorem dX10_mark_86 : decode cX10_mark 86 = .ok (.iload 8, 2) := by decide +kernel
theorem dX10_mark_88 : decode cX10_mark 88 = .ok (.iload 9, 2) := by decide +kernel
theorem dX10_mark_90 : decode cX10_mark 90 = .ok (.ifCond .eq 8, 3) := by decide +kernel
theorem dX10_mark_93 : decode cX10_mark 93 = .ok (.iload 5, 2) := by decide +kernel
theorem dX10_mark_95 : decode cX10_mark 95 = .ok (.goto 10, 3) := by decide +kernel
theorem dX10_mark_98 : decode cX10_mark 98 = .ok (.aload_n 0, 1) := by decide +kernel
theorem dX10_mark_99 : decode cX10_mark 99 = .ok (.getfield 41, 3) := by decide +kernel
theorem dX10_mark_102 : decode cX10_mark 102 = .ok (.iload 8, 2) := by decide +kernel
theorem dX10_mark_104 : decode cX10_mark 104 = .ok (.iaload, 1) := by decide +kernel
theorem dX10_mark_105 : decode cX10_mark 105 = .ok (.iastore, 1) := by decide +kernel
theorem dX10_mark_106 : decode cX10_mark 106 = .ok (.aload_n 0, 1) := by decide +kernel
theorem dX10_mark_107 : decode cX10_mark 107 = .ok (.getfield 44, 3) := by decide +kernel
theorem dX10_mark_110 : decode cX10_mark 110 = .ok (.iload 8, 2) := by decide +kernel
theorem dX10_mark_112 : decode cX10_mark 112 = .ok (.iload 9, 2) := by decide +kernel
theorem dX10_mark_114 : decode cX10_mark 114 = .ok (.ifCond .eq 8, 3) := by decide +kernel
theorem dX10_mark_117 : decode cX10_mark 117 = .ok (.iload 6, 2) := by decide +kernel
theorem dX10_mark_119 : decode cX10_mark 119 = .ok (.goto 10, 3) := by decide +kernel
theorem dX10_mark_122 : decode cX10_mark 122 = .ok (.aload_n 0, 1) := by decide +kernel
theorem dX10_mark_123 : decode cX10_mark 123 = .ok (.getfield 44, 3) := by decide +kernel
theorem dX10_mark_126 : decode cX10_mark 126 = .ok (.iload 8, 2) := by decide +kernel
theorem dX10_mark_128 : decode cX10_mark 128 = .ok (.iaload, 1) := by decide +kernel
theorem dX10_mark_129 : decode cX10_mark 129 = .ok (.iastore, 1) := by decide +kernel
theorem dX10_mark_130 : decode cX10_mark 130 = .ok (.iinc 7 1, 3) := by decide +kernel
theorem dX10_mark_133 : decode cX10_mark 133 = .ok (.goto (-130), 3) := by decide +kernel
theorem dX10_mark_136 : decode cX10_mark 136 = .ok (.return_, 1) := by decide +kernel
set_option maxRecDepth 20000 in
theorem ggX10_goWave_X10_goodAt : GoodIn wsX10_goWave wsX10_goodAt := goodIn_r _ [10, 11, 12, 13, 14, 9, 15, 16, 17, 18, 19, 20, 21, 22, 23, 24, 25, 26, 27, 28, 29, 30, 31, 32, 33, 41, 42, 43, 44, 45, 46, 47, 48, 49, 50, 51, 52, 53, 54, 55, 56, 57, 58, 59, 60, 61, 62, 63, 64, 65, 66, 67, 68, 69, 70, 71, 72, 73, 74, 75, 76, 77, 78, 79] (by decide +kernel) (by decide +kernel)
set_option maxRecDepth 20000 in
theorem gX10_goWave_X10_goodAt : GoodIn wsX10_goWave (wsV RX10 154 RX10 yX10_goodAt wsX10_goodAt) := goodIn_app (goodIn_of _ (by decide +kernel)) ggX10_goWave_X10_goodAt
set_option maxRecDepth 20000 in
theorem ggX10_goWave_X10_mark : GoodIn wsX10_goWave wsX10_mark := goodIn_r _ [37, 2, 5, 38, 39, 9, 40, 41, 42, 43, 44, 45, 46, 47, 48, 49, 50, 51, 52, 53, 54, 55, 56, 57, 58, 59, 60, 61, 62, 63, 64, 65, 66, 67, 68, 69, 70, 71, 72, 73, 74, 75, 76, 77, 78, 79] (by decide +kernel) (by decide +kernel)
set_option maxRecDepth 20000 in
theorem gX10_goWave_X10_mark : GoodIn wsX10_goWave (wsV RX10 157 RX10 yX10_mark wsX10_mark) := goodIn_app (goodIn_of _ (by decide +kernel)) ggX10_goWave_X10_mark
theorem dX10_goWave_0 : decode cX10_goWave 0 = .ok (.iconst 0, 1) := by decide +kernel
theorem dX10_goWave_1 : decode cX10_goWave 1 = .ok (.istore_n 2, 1) := by decide +kernel
theorem dX10_goWave_2 : decode cX10_goWave 2 = .ok (.iconst 0, 1) := by decide +kernel
theorem dX10_goWave_3 : decode cX10_goWave 3 = .ok (.istore_n 3, 1) := by decide +kernel
theorem dX10_goWave_4 : decode cX10_goWave 4 = .ok (.iload_n 3, 1) := by decide +kernel
theorem dX10_goWave_5 : decode cX10_goWave 5 = .ok (.sipush 1936, 3) := by decide +kernel
theorem dX10_goWave_8 : decode cX10_goWave 8 = .ok (.if_icmp .ge 98, 3) := by decide +kernel
theorem dX10_goWave_11 : decode cX10_goWave 11 = .ok (.iconst 1, 1) := by decide +kernel
theorem dX10_goWave_12 : decode cX10_goWave 12 = .ok (.istore 4, 2) := by decide +kernel
theorem dX10_goWave_14 : decode cX10_goWave 14 = .ok (.iload 4, 2) := by decide +kernel
theorem dX10_goWave_16 : decode cX10_goWave 16 = .ok (.aload_n 0, 1) := by decide +kernel
theorem dX10_goWave_17 : decode cX10_goWave 17 = .ok (.getfield 107, 3) := by decide +kernel
theorem dX10_goWave_20 : decode cX10_goWave 20 = .ok (.if_icmp .gt 80, 3) := by decide +kernel
theorem dX10_goWave_23 : decode cX10_goWave 23 = .ok (.aload_n 0, 1) := by decide +kernel
theorem dX10_goWave_24 : decode cX10_goWave 24 = .ok (.getfield 41, 3) := by decide +kernel
theorem dX10_goWave_27 : decode cX10_goWave 27 = .ok (.iload_n 3, 1) := by decide +kernel
theorem dX10_goWave_28 : decode cX10_goWave 28 = .ok (.iaload, 1) := by decide +kernel
theorem dX10_goWave_29 : decode cX10_goWave 29 = .ok (.iload_n 1, 1) := by decide +kernel
theorem dX10_goWave_30 : decode cX10_goWave 30 = .ok (.if_icmp .ne 70, 3) := by decide +kernel
theorem dX10_goWave_33 : decode cX10_goWave 33 = .ok (.iload_n 3, 1) := by decide +kernel
theorem dX10_goWave_34 : decode cX10_goWave 34 = .ok (.bipush 16, 2) := by decide +kernel
theorem dX10_goWave_36 : decode cX10_goWave 36 = .ok (.idiv, 1) := by decide +kernel
theorem dX10_goWave_37 : decode cX10_goWave 37 = .ok (.iload 4, 2) := by decide +kernel
theorem dX10_goWave_39 : decode cX10_goWave 39 = .ok (.iadd, 1) := by decide +kernel
theorem dX10_goWave_40 : decode cX10_goWave 40 = .ok (.istore 5, 2) := by decide +kernel
theorem dX10_goWave_42 : decode cX10_goWave 42 = .ok (.iload 5, 2) := by decide +kernel
theorem dX10_goWave_44 : decode cX10_goWave 44 = .ok (.bipush 120, 2) := by decide +kernel
theorem dX10_goWave_46 : decode cX10_goWave 46 = .ok (.if_icmp .gt 48, 3) := by decide +kernel
theorem dX10_goWave_49 : decode cX10_goWave 49 = .ok (.aload_n 0, 1) := by decide +kernel
theorem dX10_goWave_50 : decode cX10_goWave 50 = .ok (.iload 5, 2) := by decide +kernel
theorem dX10_goWave_52 : decode cX10_goWave 52 = .ok (.iload_n 3, 1) := by decide +kernel
theorem dX10_goWave_53 : decode cX10_goWave 53 = .ok (.bipush 16, 2) := by decide +kernel
theorem dX10_goWave_55 : decode cX10_goWave 55 = .ok (.irem, 1) := by decide +kernel
theorem dX10_goWave_56 : decode cX10_goWave 56 = .ok (.aload_n 0, 1) := by decide +kernel
theorem dX10_goWave_57 : decode cX10_goWave 57 = .ok (.aload_n 0, 1) := by decide +kernel
theorem dX10_goWave_58 : decode cX10_goWave 58 = .ok (.getfield 116, 3) := by decide +kernel
theorem dX10_goWave_61 : decode cX10_goWave 61 = .ok (.iload 5, 2) := by decide +kernel
theorem dX10_goWave_63 : decode cX10_goWave 63 = .ok (.iadd, 1) := by decide +kernel
theorem dX10_goWave_64 : decode cX10_goWave 64 = .ok (.invokevirtual 154, 3) := by decide +kernel
theorem dX10_goWave_67 : decode cX10_goWave 67 = .ok (.aload_n 0, 1) := by decide +kernel
theorem dX10_goWave_68 : decode cX10_goWave 68 = .ok (.getfield 110, 3) := by decide +kernel
theorem dX10_goWave_71 : decode cX10_goWave 71 = .ok (.iload_n 1, 1) := by decide +kernel
theorem dX10_goWave_72 : decode cX10_goWave 72 = .ok (.iconst 1, 1) := by decide +kernel
theorem dX10_goWave_73 : decode cX10_goWave 73 = .ok (.iadd, 1) := by decide +kernel
theorem dX10_goWave_74 : decode cX10_goWave 74 = .ok (.iload_n 1, 1) := by decide +kernel
theorem dX10_goWave_75 : decode cX10_goWave 75 = .ok (.ifCond .ne 8, 3) := by decide +kernel
theorem dX10_goWave_78 : decode cX10_goWave 78 = .ok (.iload 4, 2) := by decide +kernel
theorem dX10_goWave_80 : decode cX10_goWave 80 = .ok (.goto 9, 3) := by decide +kernel
theorem dX10_goWave_83 : decode cX10_goWave 83 = .ok (.aload_n 0, 1) := by decide +kernel
theorem dX10_goWave_84 : decode cX10_goWave 84 = .ok (.getfield 44, 3) := by decide +kernel
theorem dX10_goWave_87 : decode cX10_goWave 87 = .ok (.iload_n 3, 1) := by decide +kernel
theorem dX10_goWave_88 : decode cX10_goWave 88 = .ok (.iaload, 1) := by decide +kernel
theorem dX10_goWave_89 : decode cX10_goWave 89 = .ok (.invokevirtual 157, 3) := by decide +kernel
theorem dX10_goWave_92 : decode cX10_goWave 92 = .ok (.iconst 1, 1) := by decide +kernel
theorem dX10_goWave_93 : decode cX10_goWave 93 = .ok (.istore_n 2, 1) := by decide +kernel
theorem dX10_goWave_94 : decode cX10_goWave 94 = .ok (.iinc 4 1, 3) := by decide +kernel
theorem dX10_goWave_97 : decode cX10_goWave 97 = .ok (.goto (-83), 3) := by decide +kernel
theorem dX10_goWave_100 : decode cX10_goWave 100 = .ok (.iinc 3 1, 3) := by decide +kernel
theorem dX10_goWave_103 : decode cX10_goWave 103 = .ok (.goto (-99), 3) := by decide +kernel
theorem dX10_goWave_106 : decode cX10_goWave 106 = .ok (.iload_n 2, 1) := by decide +kernel
theorem dX10_goWave_107 : decode cX10_goWave 107 = .ok (.ireturn, 1) := by decide +kernel
set_option maxRecDepth 20000 in
theorem ggX10_planNow_X10_boils : GoodIn wsX10_planNow wsX10_boils := goodIn_r _ [11, 12, 47, 48, 49, 50, 51, 52, 53, 54, 55, 56, 57, 58, 59, 60, 61, 62, 63, 64, 65, 66, 67, 68, 69, 70, 71, 72, 73, 74, 75, 76, 77, 78, 79, 80, 81, 82, 83, 84, 85] (by decide +kernel) (by decide +kernel)
set_option maxRecDepth 20000 in
theorem gX10_planNow_X10_boils : GoodIn wsX10_planNow (wsV RX10 138 RX10 yX10_boils wsX10_boils) := goodIn_app (goodIn_of _ (by decide +kernel)) ggX10_planNow_X10_boils
set_option maxRecDepth 20000 in
theorem ggX10_planNow_X10_goodAt : GoodIn wsX10_planNow wsX10_goodAt := goodIn_r _ [16, 1, 7, 8, 9, 10, 11, 12, 17, 18, 19, 20, 21, 22, 23, 24, 25, 26, 27, 28, 29, 30, 31, 32, 33, 47, 48, 49, 50, 51, 52, 53, 54, 55, 56, 57, 58, 59, 60, 61, 62, 63, 64, 65, 66, 67, 68, 69, 70, 71, 72, 73, 74, 75, 76, 77, 78, 79, 80, 81, 82, 83, 84, 85] (by decide +kernel) (by decide +kernel)
set_option maxRecDepth 20000 in
theorem gX10_planNow_X10_goodAt : GoodIn wsX10_planNow (wsV RX10 154 RX10 yX10_goodAt wsX10_goodAt) := goodIn_app (goodIn_of _ (by decide +kernel)) ggX10_planNow_X10_goodAt
set_option maxRecDepth 20000 in
theorem ggX10_planNow_X10_mark : GoodIn wsX10_planNow wsX10_mark := goodIn_r _ [37, 2, 3, 38, 39, 10, 40, 47, 48, 49, 50, 51, 52, 53, 54, 55, 56, 57, 58, 59, 60, 61, 62, 63, 64, 65, 66, 67, 68, 69, 70, 71, 72, 73, 74, 75, 76, 77, 78, 79, 80, 81, 82, 83, 84, 85] (by decide +kernel) (by decide +kernel)
set_option maxRecDepth 20000 in
theorem gX10_planNow_X10_mark : GoodIn wsX10_planNow (wsV RX10 157 RX10 yX10_mark wsX10_mark) := goodIn_app (goodIn_of _ (by decide +kernel)) ggX10_planNow_X10_mark
set_option maxRecDepth 20000 in
theorem ggX10_planNow_X10_goWave : GoodIn wsX10_planNow wsX10_goWave := goodIn_r _ [44, 45, 2, 4, 46, 3, 13, 14, 15, 10, 16, 1, 7, 8, 9, 11, 12, 17, 18, 19, 20, 21, 22, 23, 24, 25, 26, 27, 28, 29, 30, 31, 32, 33, 34, 35, 36, 37, 38, 39, 40, 47, 48, 49, 50, 51, 52, 53, 54, 55, 56, 57, 58, 59, 60, 61, 62, 63, 64, 65, 66, 67, 68, 69, 70, 71, 72, 73, 74, 75, 76, 77, 78, 79, 80, 81, 82, 83, 84, 85] (by decide +kernel) (by decide +kernel)
set_option maxRecDepth 20000 in
theorem gX10_planNow_X10_goWave : GoodIn wsX10_planNow (wsV RX10 161 RX10 yX10_goWave wsX10_goWave) := goodIn_app (goodIn_of _ (by decide +kernel)) ggX10_planNow_X10_goWave
theorem dX10_planNow_0 : decode cX10_planNow 0 = .ok (.iconst 0, 1) := by decide +kernel
theorem dX10_planNow_1 : decode cX10_planNow 1 = .ok (.istore_n 2, 1) := by decide +kernel
theorem dX10_planNow_2 : decode cX10_planNow 2 = .ok (.iconst 0, 1) := by decide +kernel
theorem dX10_planNow_3 : decode cX10_planNow 3 = .ok (.istore_n 3, 1) := by decide +kernel
theorem dX10_planNow_4 : decode cX10_planNow 4 = .ok (.iload_n 3, 1) := by decide +kernel
theorem dX10_planNow_5 : decode cX10_planNow 5 = .ok (.aload_n 0, 1) := by decide +kernel
theorem dX10_planNow_6 : decode cX10_planNow 6 = .ok (.getfield 101, 3) := by decide +kernel
theorem dX10_planNow_9 : decode cX10_planNow 9 = .ok (.if_icmp .ge 27, 3) := by decide +kernel
theorem dX10_planNow_12 : decode cX10_planNow 12 = .ok (.iload_n 2, 1) := by decide +kernel
theorem dX10_planNow_13 : decode cX10_planNow 13 = .ok (.aload_n 0, 1) := by decide +kernel
theorem dX10_planNow_14 : decode cX10_planNow 14 = .ok (.iload_n 3, 1) := by decide +kernel
theorem dX10_planNow_15 : decode cX10_planNow 15 = .ok (.invokevirtual 138, 3) := by decide +kernel
theorem dX10_planNow_18 : decode cX10_planNow 18 = .ok (.ifCond .eq 9, 3) := by decide +kernel
theorem dX10_planNow_21 : decode cX10_planNow 21 = .ok (.iconst 1, 1) := by decide +kernel
theorem dX10_planNow_22 : decode cX10_planNow 22 = .ok (.iload_n 3, 1) := by decide +kernel
theorem dX10_planNow_23 : decode cX10_planNow 23 = .ok (.ishl, 1) := by decide +kernel
theorem dX10_planNow_24 : decode cX10_planNow 24 = .ok (.goto 4, 3) := by decide +kernel
theorem dX10_planNow_27 : decode cX10_planNow 27 = .ok (.iconst 0, 1) := by decide +kernel
theorem dX10_planNow_28 : decode cX10_planNow 28 = .ok (.ior, 1) := by decide +kernel
theorem dX10_planNow_29 : decode cX10_planNow 29 = .ok (.istore_n 2, 1) := by decide +kernel
theorem dX10_planNow_30 : decode cX10_planNow 30 = .ok (.iinc 3 1, 3) := by decide +kernel
theorem dX10_planNow_33 : decode cX10_planNow 33 = .ok (.goto (-29), 3) := by decide +kernel
theorem dX10_planNow_36 : decode cX10_planNow 36 = .ok (.iconst 0, 1) := by decide +kernel
theorem dX10_planNow_37 : decode cX10_planNow 37 = .ok (.istore_n 3, 1) := by decide +kernel
theorem dX10_planNow_38 : decode cX10_planNow 38 = .ok (.iload_n 3, 1) := by decide +kernel
theorem dX10_planNow_39 : decode cX10_planNow 39 = .ok (.sipush 1936, 3) := by decide +kernel
theorem dX10_planNow_42 : decode cX10_planNow 42 = .ok (.if_icmp .ge 23, 3) := by decide +kernel
theorem dX10_planNow_45 : decode cX10_planNow 45 = .ok (.aload_n 0, 1) := by decide +kernel
theorem dX10_planNow_46 : decode cX10_planNow 46 = .ok (.getfield 41, 3) := by decide +kernel
theorem dX10_planNow_49 : decode cX10_planNow 49 = .ok (.iload_n 3, 1) := by decide +kernel
theorem dX10_planNow_50 : decode cX10_planNow 50 = .ok (.iconst (-1), 1) := by decide +kernel
theorem dX10_planNow_51 : decode cX10_planNow 51 = .ok (.iastore, 1) := by decide +kernel
theorem dX10_planNow_52 : decode cX10_planNow 52 = .ok (.aload_n 0, 1) := by decide +kernel
theorem dX10_planNow_53 : decode cX10_planNow 53 = .ok (.getfield 44, 3) := by decide +kernel
theorem dX10_planNow_56 : decode cX10_planNow 56 = .ok (.iload_n 3, 1) := by decide +kernel
theorem dX10_planNow_57 : decode cX10_planNow 57 = .ok (.iconst (-1), 1) := by decide +kernel
theorem dX10_planNow_58 : decode cX10_planNow 58 = .ok (.iastore, 1) := by decide +kernel
theorem dX10_planNow_59 : decode cX10_planNow 59 = .ok (.iinc 3 1, 3) := by decide +kernel
theorem dX10_planNow_62 : decode cX10_planNow 62 = .ok (.goto (-24), 3) := by decide +kernel
theorem dX10_planNow_65 : decode cX10_planNow 65 = .ok (.aload_n 0, 1) := by decide +kernel
theorem dX10_planNow_66 : decode cX10_planNow 66 = .ok (.iconst 0, 1) := by decide +kernel
theorem dX10_planNow_67 : decode cX10_planNow 67 = .ok (.iconst 0, 1) := by decide +kernel
theorem dX10_planNow_68 : decode cX10_planNow 68 = .ok (.aload_n 0, 1) := by decide +kernel
theorem dX10_planNow_69 : decode cX10_planNow 69 = .ok (.aload_n 0, 1) := by decide +kernel
theorem dX10_planNow_70 : decode cX10_planNow 70 = .ok (.getfield 116, 3) := by decide +kernel
theorem dX10_planNow_73 : decode cX10_planNow 73 = .ok (.invokevirtual 154, 3) := by decide +kernel
theorem dX10_planNow_76 : decode cX10_planNow 76 = .ok (.aload_n 0, 1) := by decide +kernel
theorem dX10_planNow_77 : decode cX10_planNow 77 = .ok (.getfield 119, 3) := by decide +kernel
theorem dX10_planNow_80 : decode cX10_planNow 80 = .ok (.iconst 0, 1) := by decide +kernel
theorem dX10_planNow_81 : decode cX10_planNow 81 = .ok (.iconst (-1), 1) := by decide +kernel
theorem dX10_planNow_82 : decode cX10_planNow 82 = .ok (.invokevirtual 157, 3) := by decide +kernel
theorem dX10_planNow_85 : decode cX10_planNow 85 = .ok (.iconst 0, 1) := by decide +kernel
theorem dX10_planNow_86 : decode cX10_planNow 86 = .ok (.istore_n 3, 1) := by decide +kernel
theorem dX10_planNow_87 : decode cX10_planNow 87 = .ok (.aload_n 0, 1) := by decide +kernel
theorem dX10_planNow_88 : decode cX10_planNow 88 = .ok (.iload_n 3, 1) := by decide +kernel
theorem dX10_planNow_89 : decode cX10_planNow 89 = .ok (.invokevirtual 161, 3) := by decide +kernel
theorem dX10_planNow_92 : decode cX10_planNow 92 = .ok (.ifCond .eq 9, 3) := by decide +kernel
theorem dX10_planNow_95 : decode cX10_planNow 95 = .ok (.iinc 3 1, 3) := by decide +kernel
theorem dX10_planNow_98 : decode cX10_planNow 98 = .ok (.goto (-11), 3) := by decide +kernel
theorem dX10_planNow_101 : decode cX10_planNow 101 = .ok (.ldc 164, 2) := by decide +kernel
theorem dX10_planNow_103 : decode cX10_planNow 103 = .ok (.istore 4, 2) := by decide +kernel
theorem dX10_planNow_105 : decode cX10_planNow 105 = .ok (.ldc 164, 2) := by decide +kernel
theorem dX10_planNow_107 : decode cX10_planNow 107 = .ok (.istore 5, 2) := by decide +kernel
theorem dX10_planNow_109 : decode cX10_planNow 109 = .ok (.iconst 0, 1) := by decide +kernel
theorem dX10_planNow_110 : decode cX10_planNow 110 = .ok (.istore 6, 2) := by decide +kernel
theorem dX10_planNow_112 : decode cX10_planNow 112 = .ok (.iload 6, 2) := by decide +kernel
theorem dX10_planNow_114 : decode cX10_planNow 114 = .ok (.bipush 120, 2) := by decide +kernel
theorem dX10_planNow_116 : decode cX10_planNow 116 = .ok (.if_icmp .gt 110, 3) := by decide +kernel
theorem dX10_planNow_119 : decode cX10_planNow 119 = .ok (.bipush 16, 2) := by decide +kernel
theorem dX10_planNow_121 : decode cX10_planNow 121 = .ok (.iload 6, 2) := by decide +kernel
theorem dX10_planNow_123 : decode cX10_planNow 123 = .ok (.imul, 1) := by decide +kernel
theorem dX10_planNow_124 : decode cX10_planNow 124 = .ok (.iload_n 2, 1) := by decide +kernel
theorem dX10_planNow_125 : decode cX10_planNow 125 = .ok (.iadd, 1) := by decide +kernel
theorem dX10_planNow_126 : decode cX10_planNow 126 = .ok (.istore 7, 2) := by decide +kernel
theorem dX10_planNow_128 : decode cX10_planNow 128 = .ok (.aload_n 0, 1) := by decide +kernel
theorem dX10_planNow_129 : decode cX10_planNow 129 = .ok (.getfield 41, 3) := by decide +kernel
theorem dX10_planNow_132 : decode cX10_planNow 132 = .ok (.iload 7, 2) := by decide +kernel
theorem dX10_planNow_134 : decode cX10_planNow 134 = .ok (.iaload, 1) := by decide +kernel
theorem dX10_planNow_135 : decode cX10_planNow 135 = .ok (.iconst (-1), 1) := by decide +kernel
theorem dX10_planNow_136 : decode cX10_planNow 136 = .ok (.if_icmp .eq 43, 3) := by decide +kernel
theorem dX10_planNow_139 : decode cX10_planNow 139 = .ok (.aload_n 0, 1) := by decide +kernel
theorem dX10_planNow_140 : decode cX10_planNow 140 = .ok (.getfield 41, 3) := by decide +kernel
theorem dX10_planNow_143 : decode cX10_planNow 143 = .ok (.iload 7, 2) := by decide +kernel
theorem dX10_planNow_145 : decode cX10_planNow 145 = .ok (.iaload, 1) := by decide +kernel
theorem dX10_planNow_146 : decode cX10_planNow 146 = .ok (.iload 4, 2) := by decide +kernel
theorem dX10_planNow_148 : decode cX10_planNow 148 = .ok (.if_icmp .lt 27, 3) := by decide +kernel
theorem dX10_planNow_151 : decode cX10_planNow 151 = .ok (.aload_n 0, 1) := by decide +kernel
theorem dX10_planNow_152 : decode cX10_planNow 152 = .ok (.getfield 41, 3) := by decide +kernel
theorem dX10_planNow_155 : decode cX10_planNow 155 = .ok (.iload 7, 2) := by decide +kernel
theorem dX10_planNow_157 : decode cX10_planNow 157 = .ok (.iaload, 1) := by decide +kernel
theorem dX10_planNow_158 : decode cX10_planNow 158 = .ok (.iload 4, 2) := by decide +kernel
theorem dX10_planNow_160 : decode cX10_planNow 160 = .ok (.if_icmp .ne 19, 3) := by decide +kernel
theorem dX10_planNow_163 : decode cX10_planNow 163 = .ok (.aload_n 0, 1) := by decide +kernel
theorem dX10_planNow_164 : decode cX10_planNow 164 = .ok (.getfield 44, 3) := by decide +kernel
theorem dX10_planNow_167 : decode cX10_planNow 167 = .ok (.iload 7, 2) := by decide +kernel
theorem dX10_planNow_169 : decode cX10_planNow 169 = .ok (.iaload, 1) := by decide +kernel
theorem dX10_planNow_170 : decode cX10_planNow 170 = .ok (.iload 5, 2) := by decide +kernel
theorem dX10_planNow_172 : decode cX10_planNow 172 = .ok (.if_icmp .ge 7, 3) := by decide +kernel
theorem dX10_planNow_175 : decode cX10_planNow 175 = .ok (.iconst 1, 1) := by decide +kernel
theorem dX10_planNow_176 : decode cX10_planNow 176 = .ok (.goto 4, 3) := by decide +kernel
theorem dX10_planNow_179 : decode cX10_planNow 179 = .ok (.iconst 0, 1) := by decide +kernel
theorem dX10_planNow_180 : decode cX10_planNow 180 = .ok (.istore 8, 2) := by decide +kernel
theorem dX10_planNow_182 : decode cX10_planNow 182 = .ok (.iload 8, 2) := by decide +kernel
theorem dX10_planNow_184 : decode cX10_planNow 184 = .ok (.ifCond .eq 13, 3) := by decide +kernel
theorem dX10_planNow_187 : decode cX10_planNow 187 = .ok (.aload_n 0, 1) := by decide +kernel
theorem dX10_planNow_188 : decode cX10_planNow 188 = .ok (.getfield 41, 3) := by decide +kernel
theorem dX10_planNow_191 : decode cX10_planNow 191 = .ok (.iload 7, 2) := by decide +kernel
theorem dX10_planNow_193 : decode cX10_planNow 193 = .ok (.iaload, 1) := by decide +kernel
theorem dX10_planNow_194 : decode cX10_planNow 194 = .ok (.goto 5, 3) := by decide +kernel
theorem dX10_planNow_197 : decode cX10_planNow 197 = .ok (.iload 4, 2) := by decide +kernel
theorem dX10_planNow_199 : decode cX10_planNow 199 = .ok (.istore 4, 2) := by decide +kernel
theorem dX10_planNow_201 : decode cX10_planNow 201 = .ok (.iload 8, 2) := by decide +kernel
theorem dX10_planNow_203 : decode cX10_planNow 203 = .ok (.ifCond .eq 13, 3) := by decide +kernel
theorem dX10_planNow_206 : decode cX10_planNow 206 = .ok (.aload_n 0, 1) := by decide +kernel
theorem dX10_planNow_207 : decode cX10_planNow 207 = .ok (.getfield 44, 3) := by decide +kernel
theorem dX10_planNow_210 : decode cX10_planNow 210 = .ok (.iload 7, 2) := by decide +kernel
theorem dX10_planNow_212 : decode cX10_planNow 212 = .ok (.iaload, 1) := by decide +kernel
theorem dX10_planNow_213 : decode cX10_planNow 213 = .ok (.goto 5, 3) := by decide +kernel
theorem dX10_planNow_216 : decode cX10_planNow 216 = .ok (.iload 5, 2) := by decide +kernel
theorem dX10_planNow_218 : decode cX10_planNow 218 = .ok (.istore 5, 2) := by decide +kernel
theorem dX10_planNow_220 : decode cX10_planNow 220 = .ok (.iinc 6 1, 3) := by decide +kernel
theorem dX10_planNow_223 : decode cX10_planNow 223 = .ok (.goto (-111), 3) := by decide +kernel
theorem dX10_planNow_226 : decode cX10_planNow 226 = .ok (.iload 4, 2) := by decide +kernel
theorem dX10_planNow_228 : decode cX10_planNow 228 = .ok (.ldc 164, 2) := by decide +kernel
theorem dX10_planNow_230 : decode cX10_planNow 230 = .ok (.if_icmp .ne 7, 3) := by decide +kernel
theorem dX10_planNow_233 : decode cX10_planNow 233 = .ok (.iconst (-1), 1) := by decide +kernel
theorem dX10_planNow_234 : decode cX10_planNow 234 = .ok (.goto 14, 3) := by decide +kernel
theorem dX10_planNow_237 : decode cX10_planNow 237 = .ok (.iload_n 1, 1) := by decide +kernel
theorem dX10_planNow_238 : decode cX10_planNow 238 = .ok (.ifCond .ne 8, 3) := by decide +kernel
theorem dX10_planNow_241 : decode cX10_planNow 241 = .ok (.iload 4, 2) := by decide +kernel
theorem dX10_planNow_243 : decode cX10_planNow 243 = .ok (.goto 5, 3) := by decide +kernel
theorem dX10_planNow_246 : decode cX10_planNow 246 = .ok (.iload 5, 2) := by decide +kernel
theorem dX10_planNow_248 : decode cX10_planNow 248 = .ok (.ireturn, 1) := by decide +kernel
set_option maxRecDepth 20000 in
theorem ggX10_plan_X10_within : GoodIn wsX10_plan wsX10_within := goodIn_r _ [6] (by decide +kernel) (by decide +kernel)
set_option maxRecDepth 20000 in
theorem gX10_plan_X10_within : GoodIn wsX10_plan (va_wsS RX10 68 yX10_within wsX10_within) := goodIn_app (goodIn_of _ (by decide +kernel)) ggX10_plan_X10_within
set_option maxRecDepth 20000 in
theorem ggX10_plan_X10_planNow : GoodIn wsX10_plan wsX10_planNow := goodIn_r _ [10, 1, 11, 12, 13, 14, 15, 16, 17, 18, 5, 19, 20, 21, 22, 23, 24, 25, 26, 27, 28, 29, 30, 31, 32, 33, 34, 35, 36, 37, 38, 39, 40, 41, 42, 43, 44, 45, 46, 47, 48, 49, 50, 51, 52, 53, 54, 55, 56, 57, 58, 59, 60, 61, 62, 63, 64, 65, 66, 67, 68, 69, 70, 71, 72, 73, 74, 75, 76, 77, 78, 79, 80, 81, 82, 83, 84, 85, 86, 87, 88, 89, 90, 91, 92, 93] (by decide +kernel) (by decide +kernel)
set_option maxRecDepth 20000 in
theorem gX10_plan_X10_planNow : GoodIn wsX10_plan (wsV RX10 168 RX10 yX10_planNow wsX10_planNow) := goodIn_app (goodIn_of _ (by decide +kernel)) ggX10_plan_X10_planNow
theorem dX10_plan_0 : decode cX10_plan 0 = .ok (.iload_n 1, 1) := by decide +kernel
theorem dX10_plan_1 : decode cX10_plan 1 = .ok (.iconst 0, 1) := by decide +kernel
theorem dX10_plan_2 : decode cX10_plan 2 = .ok (.iconst 1, 1) := by decide +kernel
theorem dX10_plan_3 : decode cX10_plan 3 = .ok (.invokestatic 68, 3) := by decide +kernel
theorem dX10_plan_6 : decode cX10_plan 6 = .ok (.ifCond .ne 6, 3) := by decide +kernel
theorem dX10_plan_9 : decode cX10_plan 9 = .ok (.bipush (-102), 2) := by decide +kernel
theorem dX10_plan_11 : decode cX10_plan 11 = .ok (.ireturn, 1) := by decide +kernel
theorem dX10_plan_12 : decode cX10_plan 12 = .ok (.aload_n 0, 1) := by decide +kernel
theorem dX10_plan_13 : decode cX10_plan 13 = .ok (.getfield 101, 3) := by decide +kernel
theorem dX10_plan_16 : decode cX10_plan 16 = .ok (.ifCond .eq 12, 3) := by decide +kernel
theorem dX10_plan_19 : decode cX10_plan 19 = .ok (.aload_n 0, 1) := by decide +kernel
theorem dX10_plan_20 : decode cX10_plan 20 = .ok (.getfield 165, 3) := by decide +kernel
theorem dX10_plan_23 : decode cX10_plan 23 = .ok (.bipush 20, 2) := by decide +kernel
theorem dX10_plan_25 : decode cX10_plan 25 = .ok (.if_icmp .ne 6, 3) := by decide +kernel
theorem dX10_plan_28 : decode cX10_plan 28 = .ok (.bipush (-103), 2) := by decide +kernel
theorem dX10_plan_30 : decode cX10_plan 30 = .ok (.ireturn, 1) := by decide +kernel
theorem dX10_plan_31 : decode cX10_plan 31 = .ok (.aload_n 0, 1) := by decide +kernel
theorem dX10_plan_32 : decode cX10_plan 32 = .ok (.dup, 1) := by decide +kernel
theorem dX10_plan_33 : decode cX10_plan 33 = .ok (.getfield 165, 3) := by decide +kernel
theorem dX10_plan_36 : decode cX10_plan 36 = .ok (.iconst 1, 1) := by decide +kernel
theorem dX10_plan_37 : decode cX10_plan 37 = .ok (.iadd, 1) := by decide +kernel
theorem dX10_plan_38 : decode cX10_plan 38 = .ok (.putfield 165, 3) := by decide +kernel
theorem dX10_plan_41 : decode cX10_plan 41 = .ok (.aload_n 0, 1) := by decide +kernel
theorem dX10_plan_42 : decode cX10_plan 42 = .ok (.iload_n 1, 1) := by decide +kernel
theorem dX10_plan_43 : decode cX10_plan 43 = .ok (.invokevirtual 168, 3) := by decide +kernel
theorem dX10_plan_46 : decode cX10_plan 46 = .ok (.ireturn, 1) := by decide +kernel
set_option maxRecDepth 20000 in
theorem ggX10_sureNow_X10_outAt : GoodIn wsX10_sureNow wsX10_outAt := goodIn_r _ [6, 7, 8, 9, 5, 10, 11, 12, 13, 14, 15, 16, 17, 18, 19, 20, 21, 22, 23, 24, 25, 26, 27, 28, 29, 30, 31, 32, 33, 34, 35, 36, 37, 38, 39, 40, 41, 42, 43, 44, 45, 46, 47, 48, 49, 50, 51, 52, 53, 54, 55, 56, 57, 58, 59] (by decide +kernel) (by decide +kernel)
set_option maxRecDepth 20000 in
theorem gX10_sureNow_X10_outAt : GoodIn wsX10_sureNow (wsV RX10 142 RX10 yX10_outAt wsX10_outAt) := goodIn_app (goodIn_of _ (by decide +kernel)) ggX10_sureNow_X10_outAt
theorem dX10_sureNow_0 : decode cX10_sureNow 0 = .ok (.iconst 0, 1) := by decide +kernel
theorem dX10_sureNow_1 : decode cX10_sureNow 1 = .ok (.istore_n 3, 1) := by decide +kernel
theorem dX10_sureNow_2 : decode cX10_sureNow 2 = .ok (.iload_n 2, 1) := by decide +kernel
theorem dX10_sureNow_3 : decode cX10_sureNow 3 = .ok (.iconst 1, 1) := by decide +kernel
theorem dX10_sureNow_4 : decode cX10_sureNow 4 = .ok (.isub, 1) := by decide +kernel
theorem dX10_sureNow_5 : decode cX10_sureNow 5 = .ok (.istore 4, 2) := by decide +kernel
theorem dX10_sureNow_7 : decode cX10_sureNow 7 = .ok (.iload 4, 2) := by decide +kernel
theorem dX10_sureNow_9 : decode cX10_sureNow 9 = .ok (.iload_n 2, 1) := by decide +kernel
theorem dX10_sureNow_10 : decode cX10_sureNow 10 = .ok (.iconst 1, 1) := by decide +kernel
theorem dX10_sureNow_11 : decode cX10_sureNow 11 = .ok (.iadd, 1) := by decide +kernel
theorem dX10_sureNow_12 : decode cX10_sureNow 12 = .ok (.if_icmp .gt 57, 3) := by decide +kernel
theorem dX10_sureNow_15 : decode cX10_sureNow 15 = .ok (.aload_n 0, 1) := by decide +kernel
theorem dX10_sureNow_16 : decode cX10_sureNow 16 = .ok (.iload_n 1, 1) := by decide +kernel
theorem dX10_sureNow_17 : decode cX10_sureNow 17 = .ok (.aload_n 0, 1) := by decide +kernel
theorem dX10_sureNow_18 : decode cX10_sureNow 18 = .ok (.getfield 116, 3) := by decide +kernel
theorem dX10_sureNow_21 : decode cX10_sureNow 21 = .ok (.iload 4, 2) := by decide +kernel
theorem dX10_sureNow_23 : decode cX10_sureNow 23 = .ok (.iadd, 1) := by decide +kernel
theorem dX10_sureNow_24 : decode cX10_sureNow 24 = .ok (.invokevirtual 142, 3) := by decide +kernel
theorem dX10_sureNow_27 : decode cX10_sureNow 27 = .ok (.bipush 100, 2) := by decide +kernel
theorem dX10_sureNow_29 : decode cX10_sureNow 29 = .ok (.if_icmp .ne 7, 3) := by decide +kernel
theorem dX10_sureNow_32 : decode cX10_sureNow 32 = .ok (.iconst 1, 1) := by decide +kernel
theorem dX10_sureNow_33 : decode cX10_sureNow 33 = .ok (.goto 4, 3) := by decide +kernel
theorem dX10_sureNow_36 : decode cX10_sureNow 36 = .ok (.iconst 0, 1) := by decide +kernel
theorem dX10_sureNow_37 : decode cX10_sureNow 37 = .ok (.istore 5, 2) := by decide +kernel
theorem dX10_sureNow_39 : decode cX10_sureNow 39 = .ok (.iload_n 3, 1) := by decide +kernel
theorem dX10_sureNow_40 : decode cX10_sureNow 40 = .ok (.iload 5, 2) := by decide +kernel
theorem dX10_sureNow_42 : decode cX10_sureNow 42 = .ok (.ifCond .ne 7, 3) := by decide +kernel
theorem dX10_sureNow_45 : decode cX10_sureNow 45 = .ok (.iconst 0, 1) := by decide +kernel
theorem dX10_sureNow_46 : decode cX10_sureNow 46 = .ok (.goto 15, 3) := by decide +kernel
theorem dX10_sureNow_49 : decode cX10_sureNow 49 = .ok (.iload 4, 2) := by decide +kernel
theorem dX10_sureNow_51 : decode cX10_sureNow 51 = .ok (.iload_n 2, 1) := by decide +kernel
theorem dX10_sureNow_52 : decode cX10_sureNow 52 = .ok (.if_icmp .ne 8, 3) := by decide +kernel
theorem dX10_sureNow_55 : decode cX10_sureNow 55 = .ok (.bipush 18, 2) := by decide +kernel
theorem dX10_sureNow_57 : decode cX10_sureNow 57 = .ok (.goto 4, 3) := by decide +kernel
theorem dX10_sureNow_60 : decode cX10_sureNow 60 = .ok (.iconst 1, 1) := by decide +kernel
theorem dX10_sureNow_61 : decode cX10_sureNow 61 = .ok (.iadd, 1) := by decide +kernel
theorem dX10_sureNow_62 : decode cX10_sureNow 62 = .ok (.istore_n 3, 1) := by decide +kernel
theorem dX10_sureNow_63 : decode cX10_sureNow 63 = .ok (.iinc 4 1, 3) := by decide +kernel
theorem dX10_sureNow_66 : decode cX10_sureNow 66 = .ok (.goto (-59), 3) := by decide +kernel
theorem dX10_sureNow_69 : decode cX10_sureNow 69 = .ok (.iload_n 3, 1) := by decide +kernel
theorem dX10_sureNow_70 : decode cX10_sureNow 70 = .ok (.ireturn, 1) := by decide +kernel
set_option maxRecDepth 20000 in
theorem ggX10_sure_X10_isPot : GoodIn wsX10_sure wsX10_isPot := goodIn_r _ [6, 7, 8, 9, 5, 10, 38, 39, 40, 41, 42, 43, 44, 45, 46, 47, 48, 49, 50, 51, 52, 53, 54, 55, 56, 57, 58, 59, 60, 61, 62, 63, 64, 65, 66, 67, 68, 69, 70, 71, 72, 73, 74, 75, 76] (by decide +kernel) (by decide +kernel)
set_option maxRecDepth 20000 in
theorem gX10_sure_X10_isPot : GoodIn wsX10_sure (wsV RX10 145 RX10 yX10_isPot wsX10_isPot) := goodIn_app (goodIn_of _ (by decide +kernel)) ggX10_sure_X10_isPot
set_option maxRecDepth 20000 in
theorem ggX10_sure_X10_within : GoodIn wsX10_sure wsX10_within := goodIn_r _ [10] (by decide +kernel) (by decide +kernel)
set_option maxRecDepth 20000 in
theorem gX10_sure_X10_within : GoodIn wsX10_sure (va_wsS RX10 68 yX10_within wsX10_within) := goodIn_app (goodIn_of _ (by decide +kernel)) ggX10_sure_X10_within
set_option maxRecDepth 20000 in
theorem ggX10_sure_X10_boils : GoodIn wsX10_sure wsX10_boils := goodIn_r _ [14, 15, 38, 39, 40, 41, 42, 43, 44, 45, 46, 47, 48, 49, 50, 51, 52, 53, 54, 55, 56, 57, 58, 59, 60, 61, 62, 63, 64, 65, 66, 67, 68, 69, 70, 71, 72, 73, 74, 75, 76] (by decide +kernel) (by decide +kernel)
set_option maxRecDepth 20000 in
theorem gX10_sure_X10_boils : GoodIn wsX10_sure (wsV RX10 138 RX10 yX10_boils wsX10_boils) := goodIn_app (goodIn_of _ (by decide +kernel)) ggX10_sure_X10_boils
set_option maxRecDepth 20000 in
theorem ggX10_sure_X10_sureNow : GoodIn wsX10_sure wsX10_sureNow := goodIn_r _ [19, 20, 21, 22, 23, 5, 24, 25, 26, 27, 28, 15, 29, 30, 31, 32, 33, 34, 35, 36, 37, 38, 39, 40, 41, 42, 43, 44, 45, 46, 47, 48, 49, 50, 51, 52, 53, 54, 55, 56, 57, 58, 59, 60, 61, 62, 63, 64, 65, 66, 67, 68, 69, 70, 71, 72, 73, 74, 75, 76] (by decide +kernel) (by decide +kernel)
set_option maxRecDepth 20000 in
theorem gX10_sure_X10_sureNow : GoodIn wsX10_sure (wsV RX10 171 RX10 yX10_sureNow wsX10_sureNow) := goodIn_app (goodIn_of _ (by decide +kernel)) ggX10_sure_X10_sureNow
theorem dX10_sure_0 : decode cX10_sure 0 = .ok (.aload_n 0, 1) := by decide +kernel
theorem dX10_sure_1 : decode cX10_sure 1 = .ok (.iload_n 1, 1) := by decide +kernel
theorem dX10_sure_2 : decode cX10_sure 2 = .ok (.invokevirtual 145, 3) := by decide +kernel
theorem dX10_sure_5 : decode cX10_sure 5 = .ok (.ifCond .ne 6, 3) := by decide +kernel
theorem dX10_sure_8 : decode cX10_sure 8 = .ok (.bipush (-101), 2) := by decide +kernel
theorem dX10_sure_10 : decode cX10_sure 10 = .ok (.ireturn, 1) := by decide +kernel
theorem dX10_sure_11 : decode cX10_sure 11 = .ok (.iload_n 2, 1) := by decide +kernel
theorem dX10_sure_12 : decode cX10_sure 12 = .ok (.iconst 1, 1) := by decide +kernel
theorem dX10_sure_13 : decode cX10_sure 13 = .ok (.aload_n 0, 1) := by decide +kernel
theorem dX10_sure_14 : decode cX10_sure 14 = .ok (.getfield 107, 3) := by decide +kernel
theorem dX10_sure_17 : decode cX10_sure 17 = .ok (.invokestatic 68, 3) := by decide +kernel
theorem dX10_sure_20 : decode cX10_sure 20 = .ok (.ifCond .ne 6, 3) := by decide +kernel
theorem dX10_sure_23 : decode cX10_sure 23 = .ok (.bipush (-102), 2) := by decide +kernel
theorem dX10_sure_25 : decode cX10_sure 25 = .ok (.ireturn, 1) := by decide +kernel
theorem dX10_sure_26 : decode cX10_sure 26 = .ok (.aload_n 0, 1) := by decide +kernel
theorem dX10_sure_27 : decode cX10_sure 27 = .ok (.iload_n 1, 1) := by decide +kernel
theorem dX10_sure_28 : decode cX10_sure 28 = .ok (.invokevirtual 138, 3) := by decide +kernel
theorem dX10_sure_31 : decode cX10_sure 31 = .ok (.ifCond .eq 12, 3) := by decide +kernel
theorem dX10_sure_34 : decode cX10_sure 34 = .ok (.aload_n 0, 1) := by decide +kernel
theorem dX10_sure_35 : decode cX10_sure 35 = .ok (.iload_n 1, 1) := by decide +kernel
theorem dX10_sure_36 : decode cX10_sure 36 = .ok (.iload_n 2, 1) := by decide +kernel
theorem dX10_sure_37 : decode cX10_sure 37 = .ok (.invokevirtual 171, 3) := by decide +kernel
theorem dX10_sure_40 : decode cX10_sure 40 = .ok (.goto 5, 3) := by decide +kernel
theorem dX10_sure_43 : decode cX10_sure 43 = .ok (.bipush (-103), 2) := by decide +kernel
theorem dX10_sure_45 : decode cX10_sure 45 = .ok (.ireturn, 1) := by decide +kernel
set_option maxRecDepth 20000 in
theorem ggX10_bestNow_X10_sureNow : GoodIn wsX10_bestNow wsX10_sureNow := goodIn_r _ [6, 7, 8, 9, 10, 5, 11, 12, 13, 14, 15, 16, 17, 18, 19, 20, 21, 22, 23, 24, 25, 26, 27, 28, 29, 30, 31, 32, 33, 34, 35, 36, 37, 38, 39, 40, 41, 42, 43, 44, 45, 46, 47, 48, 49, 50, 51, 52, 53, 54, 55, 56, 57, 58, 59, 60, 61, 62, 63, 64] (by decide +kernel) (by decide +kernel)
set_option maxRecDepth 20000 in
theorem gX10_bestNow_X10_sureNow : GoodIn wsX10_bestNow (wsV RX10 171 RX10 yX10_sureNow wsX10_sureNow) := goodIn_app (goodIn_of _ (by decide +kernel)) ggX10_bestNow_X10_sureNow
theorem dX10_bestNow_0 : decode cX10_bestNow 0 = .ok (.iconst 1, 1) := by decide +kernel
theorem dX10_bestNow_1 : decode cX10_bestNow 1 = .ok (.istore_n 2, 1) := by decide +kernel
theorem dX10_bestNow_2 : decode cX10_bestNow 2 = .ok (.iconst 2, 1) := by decide +kernel
theorem dX10_bestNow_3 : decode cX10_bestNow 3 = .ok (.istore_n 3, 1) := by decide +kernel
theorem dX10_bestNow_4 : decode cX10_bestNow 4 = .ok (.iload_n 3, 1) := by decide +kernel
theorem dX10_bestNow_5 : decode cX10_bestNow 5 = .ok (.aload_n 0, 1) := by decide +kernel
theorem dX10_bestNow_6 : decode cX10_bestNow 6 = .ok (.getfield 107, 3) := by decide +kernel
theorem dX10_bestNow_9 : decode cX10_bestNow 9 = .ok (.if_icmp .gt 30, 3) := by decide +kernel
theorem dX10_bestNow_12 : decode cX10_bestNow 12 = .ok (.aload_n 0, 1) := by decide +kernel
theorem dX10_bestNow_13 : decode cX10_bestNow 13 = .ok (.iload_n 1, 1) := by decide +kernel
theorem dX10_bestNow_14 : decode cX10_bestNow 14 = .ok (.iload_n 3, 1) := by decide +kernel
theorem dX10_bestNow_15 : decode cX10_bestNow 15 = .ok (.invokevirtual 171, 3) := by decide +kernel
theorem dX10_bestNow_18 : decode cX10_bestNow 18 = .ok (.aload_n 0, 1) := by decide +kernel
theorem dX10_bestNow_19 : decode cX10_bestNow 19 = .ok (.iload_n 1, 1) := by decide +kernel
theorem dX10_bestNow_20 : decode cX10_bestNow 20 = .ok (.iload_n 2, 1) := by decide +kernel
theorem dX10_bestNow_21 : decode cX10_bestNow 21 = .ok (.invokevirtual 171, 3) := by decide +kernel
theorem dX10_bestNow_24 : decode cX10_bestNow 24 = .ok (.if_icmp .le 7, 3) := by decide +kernel
theorem dX10_bestNow_27 : decode cX10_bestNow 27 = .ok (.iload_n 3, 1) := by decide +kernel
theorem dX10_bestNow_28 : decode cX10_bestNow 28 = .ok (.goto 4, 3) := by decide +kernel
theorem dX10_bestNow_31 : decode cX10_bestNow 31 = .ok (.iload_n 2, 1) := by decide +kernel
theorem dX10_bestNow_32 : decode cX10_bestNow 32 = .ok (.istore_n 2, 1) := by decide +kernel
theorem dX10_bestNow_33 : decode cX10_bestNow 33 = .ok (.iinc 3 1, 3) := by decide +kernel
theorem dX10_bestNow_36 : decode cX10_bestNow 36 = .ok (.goto (-32), 3) := by decide +kernel
theorem dX10_bestNow_39 : decode cX10_bestNow 39 = .ok (.iload_n 2, 1) := by decide +kernel
theorem dX10_bestNow_40 : decode cX10_bestNow 40 = .ok (.ireturn, 1) := by decide +kernel
set_option maxRecDepth 20000 in
theorem ggX10_best_X10_isPot : GoodIn wsX10_best wsX10_isPot := goodIn_r _ [5, 6, 7, 8, 4, 9, 42, 43, 44, 45, 46, 47, 48, 49, 50, 51, 52, 53, 54, 55, 56, 57, 58, 59, 60, 61, 62, 63, 64, 65, 66, 67, 68, 69, 70, 71, 72, 73, 74, 75, 76, 77, 78, 79, 80] (by decide +kernel) (by decide +kernel)
set_option maxRecDepth 20000 in
theorem gX10_best_X10_isPot : GoodIn wsX10_best (wsV RX10 145 RX10 yX10_isPot wsX10_isPot) := goodIn_app (goodIn_of _ (by decide +kernel)) ggX10_best_X10_isPot
set_option maxRecDepth 20000 in
theorem ggX10_best_X10_boils : GoodIn wsX10_best wsX10_boils := goodIn_r _ [13, 14, 42, 43, 44, 45, 46, 47, 48, 49, 50, 51, 52, 53, 54, 55, 56, 57, 58, 59, 60, 61, 62, 63, 64, 65, 66, 67, 68, 69, 70, 71, 72, 73, 74, 75, 76, 77, 78, 79, 80] (by decide +kernel) (by decide +kernel)
set_option maxRecDepth 20000 in
theorem gX10_best_X10_boils : GoodIn wsX10_best (wsV RX10 138 RX10 yX10_boils wsX10_boils) := goodIn_app (goodIn_of _ (by decide +kernel)) ggX10_best_X10_boils
set_option maxRecDepth 20000 in
theorem ggX10_best_X10_bestNow : GoodIn wsX10_best wsX10_bestNow := goodIn_r _ [18, 19, 20, 21, 22, 4, 23, 24, 25, 26, 27, 28, 29, 30, 31, 32, 14, 33, 34, 35, 36, 37, 38, 39, 40, 41, 42, 43, 44, 45, 46, 47, 48, 49, 50, 51, 52, 53, 54, 55, 56, 57, 58, 59, 60, 61, 62, 63, 64, 65, 66, 67, 68, 69, 70, 71, 72, 73, 74, 75, 76, 77, 78, 79, 80] (by decide +kernel) (by decide +kernel)
set_option maxRecDepth 20000 in
theorem gX10_best_X10_bestNow : GoodIn wsX10_best (wsV RX10 174 RX10 yX10_bestNow wsX10_bestNow) := goodIn_app (goodIn_of _ (by decide +kernel)) ggX10_best_X10_bestNow
theorem dX10_best_0 : decode cX10_best 0 = .ok (.aload_n 0, 1) := by decide +kernel
theorem dX10_best_1 : decode cX10_best 1 = .ok (.iload_n 1, 1) := by decide +kernel
theorem dX10_best_2 : decode cX10_best 2 = .ok (.invokevirtual 145, 3) := by decide +kernel
theorem dX10_best_5 : decode cX10_best 5 = .ok (.ifCond .ne 6, 3) := by decide +kernel
theorem dX10_best_8 : decode cX10_best 8 = .ok (.bipush (-101), 2) := by decide +kernel
theorem dX10_best_10 : decode cX10_best 10 = .ok (.ireturn, 1) := by decide +kernel
theorem dX10_best_11 : decode cX10_best 11 = .ok (.aload_n 0, 1) := by decide +kernel
theorem dX10_best_12 : decode cX10_best 12 = .ok (.iload_n 1, 1) := by decide +kernel
theorem dX10_best_13 : decode cX10_best 13 = .ok (.invokevirtual 138, 3) := by decide +kernel
theorem dX10_best_16 : decode cX10_best 16 = .ok (.ifCond .eq 11, 3) := by decide +kernel
theorem dX10_best_19 : decode cX10_best 19 = .ok (.aload_n 0, 1) := by decide +kernel
theorem dX10_best_20 : decode cX10_best 20 = .ok (.iload_n 1, 1) := by decide +kernel
theorem dX10_best_21 : decode cX10_best 21 = .ok (.invokevirtual 174, 3) := by decide +kernel
theorem dX10_best_24 : decode cX10_best 24 = .ok (.goto 5, 3) := by decide +kernel
theorem dX10_best_27 : decode cX10_best 27 = .ok (.bipush (-103), 2) := by decide +kernel
theorem dX10_best_29 : decode cX10_best 29 = .ok (.ireturn, 1) := by decide +kernel
theorem dX10_togetherNow_0 : decode cX10_togetherNow 0 = .ok (.iload_n 2, 1) := by decide +kernel
theorem dX10_togetherNow_1 : decode cX10_togetherNow 1 = .ok (.aload_n 0, 1) := by decide +kernel
theorem dX10_togetherNow_2 : decode cX10_togetherNow 2 = .ok (.getfield 13, 3) := by decide +kernel
theorem dX10_togetherNow_5 : decode cX10_togetherNow 5 = .ok (.iload_n 1, 1) := by decide +kernel
theorem dX10_togetherNow_6 : decode cX10_togetherNow 6 = .ok (.iaload, 1) := by decide +kernel
theorem dX10_togetherNow_7 : decode cX10_togetherNow 7 = .ok (.isub, 1) := by decide +kernel
theorem dX10_togetherNow_8 : decode cX10_togetherNow 8 = .ok (.aload_n 0, 1) := by decide +kernel
theorem dX10_togetherNow_9 : decode cX10_togetherNow 9 = .ok (.getfield 116, 3) := by decide +kernel
theorem dX10_togetherNow_12 : decode cX10_togetherNow 12 = .ok (.if_icmp .ge 7, 3) := by decide +kernel
theorem dX10_togetherNow_15 : decode cX10_togetherNow 15 = .ok (.iconst (-1), 1) := by decide +kernel
theorem dX10_togetherNow_16 : decode cX10_togetherNow 16 = .ok (.goto 11, 3) := by decide +kernel
theorem dX10_togetherNow_19 : decode cX10_togetherNow 19 = .ok (.iload_n 2, 1) := by decide +kernel
theorem dX10_togetherNow_20 : decode cX10_togetherNow 20 = .ok (.aload_n 0, 1) := by decide +kernel
theorem dX10_togetherNow_21 : decode cX10_togetherNow 21 = .ok (.getfield 13, 3) := by decide +kernel
theorem dX10_togetherNow_24 : decode cX10_togetherNow 24 = .ok (.iload_n 1, 1) := by decide +kernel
theorem dX10_togetherNow_25 : decode cX10_togetherNow 25 = .ok (.iaload, 1) := by decide +kernel
theorem dX10_togetherNow_26 : decode cX10_togetherNow 26 = .ok (.isub, 1) := by decide +kernel
theorem dX10_togetherNow_27 : decode cX10_togetherNow 27 = .ok (.ireturn, 1) := by decide +kernel
set_option maxRecDepth 20000 in
theorem ggX10_together_X10_isPot : GoodIn wsX10_together wsX10_isPot := goodIn_r _ [5, 6, 7, 8, 4, 9, 16, 17, 18, 19, 20, 21, 22, 23, 24, 25, 26, 27, 28, 29, 30, 31, 32, 33, 34, 35, 36, 37, 38, 39, 40, 41, 42, 43, 44, 45, 46, 47, 48, 49, 50, 51, 52, 53, 54] (by decide +kernel) (by decide +kernel)
set_option maxRecDepth 20000 in
theorem gX10_together_X10_isPot : GoodIn wsX10_together (wsV RX10 145 RX10 yX10_isPot wsX10_isPot) := goodIn_app (goodIn_of _ (by decide +kernel)) ggX10_together_X10_isPot
set_option maxRecDepth 20000 in
theorem ggX10_together_X10_within : GoodIn wsX10_together wsX10_within := goodIn_r _ [9] (by decide +kernel) (by decide +kernel)
set_option maxRecDepth 20000 in
theorem gX10_together_X10_within : GoodIn wsX10_together (va_wsS RX10 68 yX10_within wsX10_within) := goodIn_app (goodIn_of _ (by decide +kernel)) ggX10_together_X10_within
set_option maxRecDepth 20000 in
theorem ggX10_together_X10_togetherNow : GoodIn wsX10_together wsX10_togetherNow := goodIn_r _ [13, 14, 15, 16, 17, 18, 19, 20, 21, 22, 23, 24, 25, 26, 27, 28, 29, 30, 31, 32, 33, 34, 35, 36, 37, 38, 39, 40, 41, 42, 43, 44, 45, 46, 47, 48, 49, 50, 51, 52, 53, 54] (by decide +kernel) (by decide +kernel)
set_option maxRecDepth 20000 in
theorem gX10_together_X10_togetherNow : GoodIn wsX10_together (wsV RX10 177 RX10 yX10_togetherNow wsX10_togetherNow) := goodIn_app (goodIn_of _ (by decide +kernel)) ggX10_together_X10_togetherNow
theorem dX10_together_0 : decode cX10_together 0 = .ok (.aload_n 0, 1) := by decide +kernel
end
section
theorem dX10_together_1 : decode cX10_together 1 = .ok (.iload_n 1, 1) := by decide +kernel
theorem dX10_together_2 : decode cX10_together 2 = .ok (.invokevirtual 145, 3) := by decide +kernel
theorem dX10_together_5 : decode cX10_together 5 = .ok (.ifCond .ne 6, 3) := by decide +kernel
theorem dX10_together_8 : decode cX10_together 8 = .ok (.bipush (-101), 2) := by decide +kernel
theorem dX10_together_10 : decode cX10_together 10 = .ok (.ireturn, 1) := by decide +kernel
theorem dX10_together_11 : decode cX10_together 11 = .ok (.iload_n 2, 1) := by decide +kernel
theorem dX10_together_12 : decode cX10_together 12 = .ok (.iconst 0, 1) := by decide +kernel
theorem dX10_together_13 : decode cX10_together 13 = .ok (.sipush 1200, 3) := by decide +kernel
theorem dX10_together_16 : decode cX10_together 16 = .ok (.invokestatic 68, 3) := by decide +kernel
theorem dX10_together_19 : decode cX10_together 19 = .ok (.ifCond .eq 12, 3) := by decide +kernel
theorem dX10_together_22 : decode cX10_together 22 = .ok (.aload_n 0, 1) := by decide +kernel
theorem dX10_together_23 : decode cX10_together 23 = .ok (.iload_n 1, 1) := by decide +kernel
theorem dX10_together_24 : decode cX10_together 24 = .ok (.iload_n 2, 1) := by decide +kernel
theorem dX10_together_25 : decode cX10_together 25 = .ok (.invokevirtual 177, 3) := by decide +kernel
theorem dX10_together_28 : decode cX10_together 28 = .ok (.goto 5, 3) := by decide +kernel
theorem dX10_together_31 : decode cX10_together 31 = .ok (.bipush (-102), 2) := by decide +kernel
theorem dX10_together_33 : decode cX10_together 33 = .ok (.ireturn, 1) := by decide +kernel
set_option maxRecDepth 20000 in
theorem ggX10_tell_X10_isPot : GoodIn wsX10_tell wsX10_isPot := goodIn_r _ [11, 12, 13, 14, 10, 15, 31, 32, 33, 34, 35, 36, 37, 38, 39, 40, 41, 42, 43, 44, 45, 46, 47, 48, 49, 50, 51, 52, 53, 54, 55, 56, 57, 58, 59, 60, 61, 62, 63, 64, 65, 66, 67, 68, 69] (by decide +kernel) (by decide +kernel)
set_option maxRecDepth 20000 in
theorem gX10_tell_X10_isPot : GoodIn wsX10_tell (wsV RX10 145 RX10 yX10_isPot wsX10_isPot) := goodIn_app (goodIn_of _ (by decide +kernel)) ggX10_tell_X10_isPot
set_option maxRecDepth 20000 in
theorem ggX10_tell_X10_within : GoodIn wsX10_tell wsX10_within := goodIn_r _ [15] (by decide +kernel) (by decide +kernel)
set_option maxRecDepth 20000 in
theorem gX10_tell_X10_within : GoodIn wsX10_tell (va_wsS RX10 68 yX10_within wsX10_within) := goodIn_app (goodIn_of _ (by decide +kernel)) ggX10_tell_X10_within
set_option maxRecDepth 20000 in
theorem ggX10_tell_X10_boils : GoodIn wsX10_tell wsX10_boils := goodIn_r _ [19, 20, 31, 32, 33, 34, 35, 36, 37, 38, 39, 40, 41, 42, 43, 44, 45, 46, 47, 48, 49, 50, 51, 52, 53, 54, 55, 56, 57, 58, 59, 60, 61, 62, 63, 64, 65, 66, 67, 68, 69] (by decide +kernel) (by decide +kernel)
set_option maxRecDepth 20000 in
theorem gX10_tell_X10_boils : GoodIn wsX10_tell (wsV RX10 138 RX10 yX10_boils wsX10_boils) := goodIn_app (goodIn_of _ (by decide +kernel)) ggX10_tell_X10_boils
set_option maxRecDepth 20000 in
theorem ggX10_tell_X10_dueOf : GoodIn wsX10_tell wsX10_dueOf := goodIn_r _ [24, 20, 25, 31, 32, 33, 34, 35, 36, 37, 38, 39, 40, 41, 42, 43, 44, 45, 46, 47, 48, 49, 50, 51, 52, 53, 54, 55, 56, 57, 58, 59, 60, 61, 62, 63, 64, 65, 66, 67, 68, 69] (by decide +kernel) (by decide +kernel)
set_option maxRecDepth 20000 in
theorem gX10_tell_X10_dueOf : GoodIn wsX10_tell (wsV RX10 128 RX10 yX10_dueOf wsX10_dueOf) := goodIn_app (goodIn_of _ (by decide +kernel)) ggX10_tell_X10_dueOf
set_option maxRecDepth 20000 in
theorem ggX10_tell_X10_keepsOf : GoodIn wsX10_tell wsX10_keepsOf := goodIn_r _ [29, 30, 31, 32, 33, 34, 35, 36, 37, 38, 39, 40, 41, 42, 43, 44, 45, 46, 47, 48, 49, 50, 51, 52, 53, 54, 55, 56, 57, 58, 59, 60, 61, 62, 63, 64, 65, 66, 67, 68, 69] (by decide +kernel) (by decide +kernel)
set_option maxRecDepth 20000 in
theorem gX10_tell_X10_keepsOf : GoodIn wsX10_tell (wsV RX10 131 RX10 yX10_keepsOf wsX10_keepsOf) := goodIn_app (goodIn_of _ (by decide +kernel)) ggX10_tell_X10_keepsOf
theorem dX10_tell_0 : decode cX10_tell 0 = .ok (.aload_n 0, 1) := by decide +kernel
theorem dX10_tell_1 : decode cX10_tell 1 = .ok (.iload_n 1, 1) := by decide +kernel
theorem dX10_tell_2 : decode cX10_tell 2 = .ok (.invokevirtual 145, 3) := by decide +kernel
theorem dX10_tell_5 : decode cX10_tell 5 = .ok (.ifCond .ne 6, 3) := by decide +kernel
theorem dX10_tell_8 : decode cX10_tell 8 = .ok (.bipush (-101), 2) := by decide +kernel
theorem dX10_tell_10 : decode cX10_tell 10 = .ok (.ireturn, 1) := by decide +kernel
theorem dX10_tell_11 : decode cX10_tell 11 = .ok (.iload_n 2, 1) := by decide +kernel
theorem dX10_tell_12 : decode cX10_tell 12 = .ok (.bipush 50, 2) := by decide +kernel
theorem dX10_tell_14 : decode cX10_tell 14 = .ok (.sipush 199, 3) := by decide +kernel
theorem dX10_tell_17 : decode cX10_tell 17 = .ok (.invokestatic 68, 3) := by decide +kernel
theorem dX10_tell_20 : decode cX10_tell 20 = .ok (.ifCond .ne 6, 3) := by decide +kernel
theorem dX10_tell_23 : decode cX10_tell 23 = .ok (.bipush (-102), 2) := by decide +kernel
theorem dX10_tell_25 : decode cX10_tell 25 = .ok (.ireturn, 1) := by decide +kernel
theorem dX10_tell_26 : decode cX10_tell 26 = .ok (.aload_n 0, 1) := by decide +kernel
theorem dX10_tell_27 : decode cX10_tell 27 = .ok (.iload_n 1, 1) := by decide +kernel
theorem dX10_tell_28 : decode cX10_tell 28 = .ok (.invokevirtual 138, 3) := by decide +kernel
theorem dX10_tell_31 : decode cX10_tell 31 = .ok (.ifCond .ne 6, 3) := by decide +kernel
theorem dX10_tell_34 : decode cX10_tell 34 = .ok (.bipush (-103), 2) := by decide +kernel
theorem dX10_tell_36 : decode cX10_tell 36 = .ok (.ireturn, 1) := by decide +kernel
theorem dX10_tell_37 : decode cX10_tell 37 = .ok (.aload_n 0, 1) := by decide +kernel
theorem dX10_tell_38 : decode cX10_tell 38 = .ok (.getfield 125, 3) := by decide +kernel
theorem dX10_tell_41 : decode cX10_tell 41 = .ok (.bipush 6, 2) := by decide +kernel
theorem dX10_tell_43 : decode cX10_tell 43 = .ok (.if_icmp .ne 6, 3) := by decide +kernel
theorem dX10_tell_46 : decode cX10_tell 46 = .ok (.bipush (-104), 2) := by decide +kernel
theorem dX10_tell_48 : decode cX10_tell 48 = .ok (.ireturn, 1) := by decide +kernel
theorem dX10_tell_49 : decode cX10_tell 49 = .ok (.aload_n 0, 1) := by decide +kernel
theorem dX10_tell_50 : decode cX10_tell 50 = .ok (.getfield 25, 3) := by decide +kernel
theorem dX10_tell_53 : decode cX10_tell 53 = .ok (.aload_n 0, 1) := by decide +kernel
theorem dX10_tell_54 : decode cX10_tell 54 = .ok (.getfield 125, 3) := by decide +kernel
theorem dX10_tell_57 : decode cX10_tell 57 = .ok (.aload_n 0, 1) := by decide +kernel
theorem dX10_tell_58 : decode cX10_tell 58 = .ok (.getfield 116, 3) := by decide +kernel
theorem dX10_tell_61 : decode cX10_tell 61 = .ok (.iastore, 1) := by decide +kernel
theorem dX10_tell_62 : decode cX10_tell 62 = .ok (.aload_n 0, 1) := by decide +kernel
theorem dX10_tell_63 : decode cX10_tell 63 = .ok (.getfield 28, 3) := by decide +kernel
theorem dX10_tell_66 : decode cX10_tell 66 = .ok (.aload_n 0, 1) := by decide +kernel
theorem dX10_tell_67 : decode cX10_tell 67 = .ok (.getfield 125, 3) := by decide +kernel
theorem dX10_tell_70 : decode cX10_tell 70 = .ok (.aload_n 0, 1) := by decide +kernel
theorem dX10_tell_71 : decode cX10_tell 71 = .ok (.iload_n 1, 1) := by decide +kernel
theorem dX10_tell_72 : decode cX10_tell 72 = .ok (.invokevirtual 128, 3) := by decide +kernel
theorem dX10_tell_75 : decode cX10_tell 75 = .ok (.iastore, 1) := by decide +kernel
theorem dX10_tell_76 : decode cX10_tell 76 = .ok (.aload_n 0, 1) := by decide +kernel
theorem dX10_tell_77 : decode cX10_tell 77 = .ok (.getfield 31, 3) := by decide +kernel
theorem dX10_tell_80 : decode cX10_tell 80 = .ok (.aload_n 0, 1) := by decide +kernel
theorem dX10_tell_81 : decode cX10_tell 81 = .ok (.getfield 125, 3) := by decide +kernel
theorem dX10_tell_84 : decode cX10_tell 84 = .ok (.aload_n 0, 1) := by decide +kernel
theorem dX10_tell_85 : decode cX10_tell 85 = .ok (.iload_n 1, 1) := by decide +kernel
theorem dX10_tell_86 : decode cX10_tell 86 = .ok (.invokevirtual 131, 3) := by decide +kernel
theorem dX10_tell_89 : decode cX10_tell 89 = .ok (.iastore, 1) := by decide +kernel
theorem dX10_tell_90 : decode cX10_tell 90 = .ok (.aload_n 0, 1) := by decide +kernel
theorem dX10_tell_91 : decode cX10_tell 91 = .ok (.getfield 34, 3) := by decide +kernel
theorem dX10_tell_94 : decode cX10_tell 94 = .ok (.aload_n 0, 1) := by decide +kernel
theorem dX10_tell_95 : decode cX10_tell 95 = .ok (.getfield 125, 3) := by decide +kernel
theorem dX10_tell_98 : decode cX10_tell 98 = .ok (.iload_n 2, 1) := by decide +kernel
theorem dX10_tell_99 : decode cX10_tell 99 = .ok (.iastore, 1) := by decide +kernel
theorem dX10_tell_100 : decode cX10_tell 100 = .ok (.aload_n 0, 1) := by decide +kernel
theorem dX10_tell_101 : decode cX10_tell 101 = .ok (.dup, 1) := by decide +kernel
theorem dX10_tell_102 : decode cX10_tell 102 = .ok (.getfield 125, 3) := by decide +kernel
theorem dX10_tell_105 : decode cX10_tell 105 = .ok (.iconst 1, 1) := by decide +kernel
theorem dX10_tell_106 : decode cX10_tell 106 = .ok (.iadd, 1) := by decide +kernel
theorem dX10_tell_107 : decode cX10_tell 107 = .ok (.putfield 125, 3) := by decide +kernel
theorem dX10_tell_110 : decode cX10_tell 110 = .ok (.aload_n 0, 1) := by decide +kernel
theorem dX10_tell_111 : decode cX10_tell 111 = .ok (.getfield 125, 3) := by decide +kernel
theorem dX10_tell_114 : decode cX10_tell 114 = .ok (.ireturn, 1) := by decide +kernel
theorem dX10_forget_0 : decode cX10_forget 0 = .ok (.aload_n 0, 1) := by decide +kernel
theorem dX10_forget_1 : decode cX10_forget 1 = .ok (.getfield 125, 3) := by decide +kernel
theorem dX10_forget_4 : decode cX10_forget 4 = .ok (.istore_n 1, 1) := by decide +kernel
theorem dX10_forget_5 : decode cX10_forget 5 = .ok (.aload_n 0, 1) := by decide +kernel
theorem dX10_forget_6 : decode cX10_forget 6 = .ok (.iconst 0, 1) := by decide +kernel
theorem dX10_forget_7 : decode cX10_forget 7 = .ok (.putfield 125, 3) := by decide +kernel
theorem dX10_forget_10 : decode cX10_forget 10 = .ok (.iload_n 1, 1) := by decide +kernel
theorem dX10_forget_11 : decode cX10_forget 11 = .ok (.ireturn, 1) := by decide +kernel
set_option maxRecDepth 20000 in
theorem ggX10_couldBe_X10_out : GoodIn wsX10_couldBe wsX10_out := goodIn_r _ [9] (by decide +kernel) (by decide +kernel)
set_option maxRecDepth 20000 in
theorem gX10_couldBe_X10_out : GoodIn wsX10_couldBe (va_wsS RX10 134 yX10_out wsX10_out) := goodIn_app (goodIn_of _ (by decide +kernel)) ggX10_couldBe_X10_out
theorem dX10_couldBe_0 : decode cX10_couldBe 0 = .ok (.iconst 1, 1) := by decide +kernel
theorem dX10_couldBe_1 : decode cX10_couldBe 1 = .ok (.istore_n 2, 1) := by decide +kernel
theorem dX10_couldBe_2 : decode cX10_couldBe 2 = .ok (.iconst 0, 1) := by decide +kernel
theorem dX10_couldBe_3 : decode cX10_couldBe 3 = .ok (.istore_n 3, 1) := by decide +kernel
theorem dX10_couldBe_4 : decode cX10_couldBe 4 = .ok (.iload_n 3, 1) := by decide +kernel
theorem dX10_couldBe_5 : decode cX10_couldBe 5 = .ok (.aload_n 0, 1) := by decide +kernel
theorem dX10_couldBe_6 : decode cX10_couldBe 6 = .ok (.getfield 125, 3) := by decide +kernel
theorem dX10_couldBe_9 : decode cX10_couldBe 9 = .ok (.if_icmp .ge 51, 3) := by decide +kernel
theorem dX10_couldBe_12 : decode cX10_couldBe 12 = .ok (.iload_n 2, 1) := by decide +kernel
theorem dX10_couldBe_13 : decode cX10_couldBe 13 = .ok (.ifCond .eq 39, 3) := by decide +kernel
theorem dX10_couldBe_16 : decode cX10_couldBe 16 = .ok (.aload_n 0, 1) := by decide +kernel
theorem dX10_couldBe_17 : decode cX10_couldBe 17 = .ok (.getfield 25, 3) := by decide +kernel
theorem dX10_couldBe_20 : decode cX10_couldBe 20 = .ok (.iload_n 3, 1) := by decide +kernel
theorem dX10_couldBe_21 : decode cX10_couldBe 21 = .ok (.iaload, 1) := by decide +kernel
theorem dX10_couldBe_22 : decode cX10_couldBe 22 = .ok (.iload_n 1, 1) := by decide +kernel
theorem dX10_couldBe_23 : decode cX10_couldBe 23 = .ok (.iadd, 1) := by decide +kernel
theorem dX10_couldBe_24 : decode cX10_couldBe 24 = .ok (.aload_n 0, 1) := by decide +kernel
theorem dX10_couldBe_25 : decode cX10_couldBe 25 = .ok (.getfield 28, 3) := by decide +kernel
theorem dX10_couldBe_28 : decode cX10_couldBe 28 = .ok (.iload_n 3, 1) := by decide +kernel
theorem dX10_couldBe_29 : decode cX10_couldBe 29 = .ok (.iaload, 1) := by decide +kernel
theorem dX10_couldBe_30 : decode cX10_couldBe 30 = .ok (.aload_n 0, 1) := by decide +kernel
theorem dX10_couldBe_31 : decode cX10_couldBe 31 = .ok (.getfield 31, 3) := by decide +kernel
theorem dX10_couldBe_34 : decode cX10_couldBe 34 = .ok (.iload_n 3, 1) := by decide +kernel
theorem dX10_couldBe_35 : decode cX10_couldBe 35 = .ok (.iaload, 1) := by decide +kernel
theorem dX10_couldBe_36 : decode cX10_couldBe 36 = .ok (.invokestatic 134, 3) := by decide +kernel
theorem dX10_couldBe_39 : decode cX10_couldBe 39 = .ok (.aload_n 0, 1) := by decide +kernel
theorem dX10_couldBe_40 : decode cX10_couldBe 40 = .ok (.getfield 34, 3) := by decide +kernel
theorem dX10_couldBe_43 : decode cX10_couldBe 43 = .ok (.iload_n 3, 1) := by decide +kernel
theorem dX10_couldBe_44 : decode cX10_couldBe 44 = .ok (.iaload, 1) := by decide +kernel
theorem dX10_couldBe_45 : decode cX10_couldBe 45 = .ok (.if_icmp .ne 7, 3) := by decide +kernel
theorem dX10_couldBe_48 : decode cX10_couldBe 48 = .ok (.iconst 1, 1) := by decide +kernel
theorem dX10_couldBe_49 : decode cX10_couldBe 49 = .ok (.goto 4, 3) := by decide +kernel
theorem dX10_couldBe_52 : decode cX10_couldBe 52 = .ok (.iconst 0, 1) := by decide +kernel
theorem dX10_couldBe_53 : decode cX10_couldBe 53 = .ok (.istore_n 2, 1) := by decide +kernel
theorem dX10_couldBe_54 : decode cX10_couldBe 54 = .ok (.iinc 3 1, 3) := by decide +kernel
theorem dX10_couldBe_57 : decode cX10_couldBe 57 = .ok (.goto (-53), 3) := by decide +kernel
theorem dX10_couldBe_60 : decode cX10_couldBe 60 = .ok (.iload_n 2, 1) := by decide +kernel
theorem dX10_couldBe_61 : decode cX10_couldBe 61 = .ok (.ireturn, 1) := by decide +kernel
set_option maxRecDepth 20000 in
theorem ggX10_woundNow_X10_couldBe : GoodIn wsX10_woundNow wsX10_couldBe := goodIn_r _ [6, 7, 8, 9, 10, 11, 12, 13, 5, 14, 15, 16, 17, 18, 19, 20, 21, 22, 23, 24, 25, 26, 27, 28, 29, 30, 31, 32, 33, 34, 35, 36, 37, 38, 39, 40, 41, 42, 43, 44, 45, 46, 47, 48, 49, 50, 51, 52, 53] (by decide +kernel) (by decide +kernel)
set_option maxRecDepth 20000 in
theorem gX10_woundNow_X10_couldBe : GoodIn wsX10_woundNow (wsV RX10 180 RX10 yX10_couldBe wsX10_couldBe) := goodIn_app (goodIn_of _ (by decide +kernel)) ggX10_woundNow_X10_couldBe
theorem dX10_woundNow_0 : decode cX10_woundNow 0 = .ok (.iconst 0, 1) := by decide +kernel
theorem dX10_woundNow_1 : decode cX10_woundNow 1 = .ok (.istore_n 2, 1) := by decide +kernel
theorem dX10_woundNow_2 : decode cX10_woundNow 2 = .ok (.iconst (-1), 1) := by decide +kernel
theorem dX10_woundNow_3 : decode cX10_woundNow 3 = .ok (.istore_n 3, 1) := by decide +kernel
theorem dX10_woundNow_4 : decode cX10_woundNow 4 = .ok (.aload_n 0, 1) := by decide +kernel
theorem dX10_woundNow_5 : decode cX10_woundNow 5 = .ok (.getfield 107, 3) := by decide +kernel
theorem dX10_woundNow_8 : decode cX10_woundNow 8 = .ok (.istore 4, 2) := by decide +kernel
theorem dX10_woundNow_10 : decode cX10_woundNow 10 = .ok (.iload 4, 2) := by decide +kernel
theorem dX10_woundNow_12 : decode cX10_woundNow 12 = .ok (.ifCond .le 42, 3) := by decide +kernel
theorem dX10_woundNow_15 : decode cX10_woundNow 15 = .ok (.aload_n 0, 1) := by decide +kernel
theorem dX10_woundNow_16 : decode cX10_woundNow 16 = .ok (.iload 4, 2) := by decide +kernel
theorem dX10_woundNow_18 : decode cX10_woundNow 18 = .ok (.invokevirtual 180, 3) := by decide +kernel
theorem dX10_woundNow_21 : decode cX10_woundNow 21 = .ok (.istore 5, 2) := by decide +kernel
theorem dX10_woundNow_23 : decode cX10_woundNow 23 = .ok (.iload_n 2, 1) := by decide +kernel
theorem dX10_woundNow_24 : decode cX10_woundNow 24 = .ok (.iload 5, 2) := by decide +kernel
theorem dX10_woundNow_26 : decode cX10_woundNow 26 = .ok (.ifCond .eq 7, 3) := by decide +kernel
theorem dX10_woundNow_29 : decode cX10_woundNow 29 = .ok (.iconst 1, 1) := by decide +kernel
theorem dX10_woundNow_30 : decode cX10_woundNow 30 = .ok (.goto 4, 3) := by decide +kernel
theorem dX10_woundNow_33 : decode cX10_woundNow 33 = .ok (.iconst 0, 1) := by decide +kernel
theorem dX10_woundNow_34 : decode cX10_woundNow 34 = .ok (.iadd, 1) := by decide +kernel
theorem dX10_woundNow_35 : decode cX10_woundNow 35 = .ok (.istore_n 2, 1) := by decide +kernel
theorem dX10_woundNow_36 : decode cX10_woundNow 36 = .ok (.iload 5, 2) := by decide +kernel
theorem dX10_woundNow_38 : decode cX10_woundNow 38 = .ok (.ifCond .eq 8, 3) := by decide +kernel
theorem dX10_woundNow_41 : decode cX10_woundNow 41 = .ok (.iload 4, 2) := by decide +kernel
theorem dX10_woundNow_43 : decode cX10_woundNow 43 = .ok (.goto 4, 3) := by decide +kernel
theorem dX10_woundNow_46 : decode cX10_woundNow 46 = .ok (.iload_n 3, 1) := by decide +kernel
theorem dX10_woundNow_47 : decode cX10_woundNow 47 = .ok (.istore_n 3, 1) := by decide +kernel
theorem dX10_woundNow_48 : decode cX10_woundNow 48 = .ok (.iinc 4 (-1), 3) := by decide +kernel
theorem dX10_woundNow_51 : decode cX10_woundNow 51 = .ok (.goto (-41), 3) := by decide +kernel
theorem dX10_woundNow_54 : decode cX10_woundNow 54 = .ok (.iload_n 1, 1) := by decide +kernel
theorem dX10_woundNow_55 : decode cX10_woundNow 55 = .ok (.ifCond .ne 7, 3) := by decide +kernel
theorem dX10_woundNow_58 : decode cX10_woundNow 58 = .ok (.iload_n 2, 1) := by decide +kernel
theorem dX10_woundNow_59 : decode cX10_woundNow 59 = .ok (.goto 4, 3) := by decide +kernel
theorem dX10_woundNow_62 : decode cX10_woundNow 62 = .ok (.iload_n 3, 1) := by decide +kernel
theorem dX10_woundNow_63 : decode cX10_woundNow 63 = .ok (.ireturn, 1) := by decide +kernel
set_option maxRecDepth 20000 in
theorem ggX10_wound_X10_within : GoodIn wsX10_wound wsX10_within := goodIn_r _ [5] (by decide +kernel) (by decide +kernel)
set_option maxRecDepth 20000 in
theorem gX10_wound_X10_within : GoodIn wsX10_wound (va_wsS RX10 68 yX10_within wsX10_within) := goodIn_app (goodIn_of _ (by decide +kernel)) ggX10_wound_X10_within
set_option maxRecDepth 20000 in
theorem ggX10_wound_X10_woundNow : GoodIn wsX10_wound wsX10_woundNow := goodIn_r _ [9, 10, 11, 12, 13, 4, 14, 15, 16, 17, 18, 19, 20, 21, 22, 23, 24, 25, 26, 27, 28, 29, 30, 31, 32, 33, 34, 35, 36, 37, 38, 39, 40, 41, 42, 43, 44, 45, 46, 47, 48, 49, 50, 51, 52, 53, 54, 55, 56, 57, 58, 59, 60, 61] (by decide +kernel) (by decide +kernel)
set_option maxRecDepth 20000 in
theorem gX10_wound_X10_woundNow : GoodIn wsX10_wound (wsV RX10 183 RX10 yX10_woundNow wsX10_woundNow) := goodIn_app (goodIn_of _ (by decide +kernel)) ggX10_wound_X10_woundNow
theorem dX10_wound_0 : decode cX10_wound 0 = .ok (.iload_n 1, 1) := by decide +kernel
theorem dX10_wound_1 : decode cX10_wound 1 = .ok (.iconst 0, 1) := by decide +kernel
theorem dX10_wound_2 : decode cX10_wound 2 = .ok (.iconst 1, 1) := by decide +kernel
theorem dX10_wound_3 : decode cX10_wound 3 = .ok (.invokestatic 68, 3) := by decide +kernel
theorem dX10_wound_6 : decode cX10_wound 6 = .ok (.ifCond .ne 6, 3) := by decide +kernel
theorem dX10_wound_9 : decode cX10_wound 9 = .ok (.bipush (-102), 2) := by decide +kernel
theorem dX10_wound_11 : decode cX10_wound 11 = .ok (.ireturn, 1) := by decide +kernel
theorem dX10_wound_12 : decode cX10_wound 12 = .ok (.aload_n 0, 1) := by decide +kernel
theorem dX10_wound_13 : decode cX10_wound 13 = .ok (.getfield 101, 3) := by decide +kernel
theorem dX10_wound_16 : decode cX10_wound 16 = .ok (.ifCond .ne 8, 3) := by decide +kernel
theorem dX10_wound_19 : decode cX10_wound 19 = .ok (.bipush (-103), 2) := by decide +kernel
theorem dX10_wound_21 : decode cX10_wound 21 = .ok (.goto 8, 3) := by decide +kernel
theorem dX10_wound_24 : decode cX10_wound 24 = .ok (.aload_n 0, 1) := by decide +kernel
theorem dX10_wound_25 : decode cX10_wound 25 = .ok (.iload_n 1, 1) := by decide +kernel
theorem dX10_wound_26 : decode cX10_wound 26 = .ok (.invokevirtual 183, 3) := by decide +kernel
theorem dX10_wound_29 : decode cX10_wound 29 = .ok (.ireturn, 1) := by decide +kernel
theorem dX10_draw_0 : decode cX10_draw 0 = .ok (.aload_n 0, 1) := by decide +kernel
theorem dX10_draw_1 : decode cX10_draw 1 = .ok (.ldc2_w 186, 3) := by decide +kernel
theorem dX10_draw_4 : decode cX10_draw 4 = .ok (.aload_n 0, 1) := by decide +kernel
theorem dX10_draw_5 : decode cX10_draw 5 = .ok (.getfield 188, 3) := by decide +kernel
theorem dX10_draw_8 : decode cX10_draw 8 = .ok (.lmul, 1) := by decide +kernel
theorem dX10_draw_9 : decode cX10_draw 9 = .ok (.ldc2_w 192, 3) := by decide +kernel
theorem dX10_draw_12 : decode cX10_draw 12 = .ok (.ladd, 1) := by decide +kernel
theorem dX10_draw_13 : decode cX10_draw 13 = .ok (.ldc2_w 194, 3) := by decide +kernel
theorem dX10_draw_16 : decode cX10_draw 16 = .ok (.land, 1) := by decide +kernel
theorem dX10_draw_17 : decode cX10_draw 17 = .ok (.putfield 188, 3) := by decide +kernel
theorem dX10_draw_20 : decode cX10_draw 20 = .ok (.aload_n 0, 1) := by decide +kernel
theorem dX10_draw_21 : decode cX10_draw 21 = .ok (.getfield 188, 3) := by decide +kernel
theorem dX10_draw_24 : decode cX10_draw 24 = .ok (.ldc2_w 196, 3) := by decide +kernel
theorem dX10_draw_27 : decode cX10_draw 27 = .ok (.ldiv, 1) := by decide +kernel
theorem dX10_draw_28 : decode cX10_draw 28 = .ok (.iload_n 1, 1) := by decide +kernel
theorem dX10_draw_29 : decode cX10_draw 29 = .ok (.i2l, 1) := by decide +kernel
theorem dX10_draw_30 : decode cX10_draw 30 = .ok (.lrem, 1) := by decide +kernel
theorem dX10_draw_31 : decode cX10_draw 31 = .ok (.l2i, 1) := by decide +kernel
theorem dX10_draw_32 : decode cX10_draw 32 = .ok (.ireturn, 1) := by decide +kernel
set_option maxRecDepth 20000 in
theorem ggX10_eveningsNow_X10_draw : GoodIn wsX10_eveningsNow wsX10_draw := goodIn_r _ [9, 10, 1, 11, 12, 13, 22, 23, 24, 25, 26, 27, 28, 29, 30, 31, 32, 33, 34, 35, 36, 37, 38, 39, 40, 41, 42, 43, 44, 45, 46, 47, 48, 49, 50, 51, 52, 53, 54, 55, 56, 57, 58, 59, 60] (by decide +kernel) (by decide +kernel)
set_option maxRecDepth 20000 in
theorem gX10_eveningsNow_X10_draw : GoodIn wsX10_eveningsNow (wsV RX10 198 RX10 yX10_draw wsX10_draw) := goodIn_app (goodIn_of _ (by decide +kernel)) ggX10_eveningsNow_X10_draw
set_option maxRecDepth 20000 in
theorem ggX10_eveningsNow_X10_keepsOf : GoodIn wsX10_eveningsNow wsX10_keepsOf := goodIn_r _ [17, 18, 22, 23, 24, 25, 26, 27, 28, 29, 30, 31, 32, 33, 34, 35, 36, 37, 38, 39, 40, 41, 42, 43, 44, 45, 46, 47, 48, 49, 50, 51, 52, 53, 54, 55, 56, 57, 58, 59, 60] (by decide +kernel) (by decide +kernel)
set_option maxRecDepth 20000 in
theorem gX10_eveningsNow_X10_keepsOf : GoodIn wsX10_eveningsNow (wsV RX10 131 RX10 yX10_keepsOf wsX10_keepsOf) := goodIn_app (goodIn_of _ (by decide +kernel)) ggX10_eveningsNow_X10_keepsOf
set_option maxRecDepth 20000 in
theorem ggX10_eveningsNow_X10_out : GoodIn wsX10_eveningsNow wsX10_out := goodIn_r _ [21] (by decide +kernel) (by decide +kernel)
set_option maxRecDepth 20000 in
theorem gX10_eveningsNow_X10_out : GoodIn wsX10_eveningsNow (va_wsS RX10 134 yX10_out wsX10_out) := goodIn_app (goodIn_of _ (by decide +kernel)) ggX10_eveningsNow_X10_out
theorem dX10_eveningsNow_0 : decode cX10_eveningsNow 0 = .ok (.aload_n 0, 1) := by decide +kernel
theorem dX10_eveningsNow_1 : decode cX10_eveningsNow 1 = .ok (.iload_n 2, 1) := by decide +kernel
theorem dX10_eveningsNow_2 : decode cX10_eveningsNow 2 = .ok (.i2l, 1) := by decide +kernel
theorem dX10_eveningsNow_3 : decode cX10_eveningsNow 3 = .ok (.putfield 188, 3) := by decide +kernel
theorem dX10_eveningsNow_6 : decode cX10_eveningsNow 6 = .ok (.iconst 0, 1) := by decide +kernel
theorem dX10_eveningsNow_7 : decode cX10_eveningsNow 7 = .ok (.istore 4, 2) := by decide +kernel
theorem dX10_eveningsNow_9 : decode cX10_eveningsNow 9 = .ok (.iconst 0, 1) := by decide +kernel
theorem dX10_eveningsNow_10 : decode cX10_eveningsNow 10 = .ok (.istore 5, 2) := by decide +kernel
theorem dX10_eveningsNow_12 : decode cX10_eveningsNow 12 = .ok (.iconst 0, 1) := by decide +kernel
theorem dX10_eveningsNow_13 : decode cX10_eveningsNow 13 = .ok (.istore 6, 2) := by decide +kernel
theorem dX10_eveningsNow_15 : decode cX10_eveningsNow 15 = .ok (.iconst 0, 1) := by decide +kernel
theorem dX10_eveningsNow_16 : decode cX10_eveningsNow 16 = .ok (.istore 7, 2) := by decide +kernel
theorem dX10_eveningsNow_18 : decode cX10_eveningsNow 18 = .ok (.iconst 0, 1) := by decide +kernel
theorem dX10_eveningsNow_19 : decode cX10_eveningsNow 19 = .ok (.istore 8, 2) := by decide +kernel
theorem dX10_eveningsNow_21 : decode cX10_eveningsNow 21 = .ok (.iload 8, 2) := by decide +kernel
theorem dX10_eveningsNow_23 : decode cX10_eveningsNow 23 = .ok (.iload_n 1, 1) := by decide +kernel
theorem dX10_eveningsNow_24 : decode cX10_eveningsNow 24 = .ok (.if_icmp .ge 124, 3) := by decide +kernel
theorem dX10_eveningsNow_27 : decode cX10_eveningsNow 27 = .ok (.iload 4, 2) := by decide +kernel
theorem dX10_eveningsNow_29 : decode cX10_eveningsNow 29 = .ok (.iconst 1, 1) := by decide +kernel
theorem dX10_eveningsNow_30 : decode cX10_eveningsNow 30 = .ok (.aload_n 0, 1) := by decide +kernel
theorem dX10_eveningsNow_31 : decode cX10_eveningsNow 31 = .ok (.aload_n 0, 1) := by decide +kernel
theorem dX10_eveningsNow_32 : decode cX10_eveningsNow 32 = .ok (.getfield 107, 3) := by decide +kernel
theorem dX10_eveningsNow_35 : decode cX10_eveningsNow 35 = .ok (.invokevirtual 198, 3) := by decide +kernel
theorem dX10_eveningsNow_38 : decode cX10_eveningsNow 38 = .ok (.iadd, 1) := by decide +kernel
theorem dX10_eveningsNow_39 : decode cX10_eveningsNow 39 = .ok (.iadd, 1) := by decide +kernel
theorem dX10_eveningsNow_40 : decode cX10_eveningsNow 40 = .ok (.istore 4, 2) := by decide +kernel
theorem dX10_eveningsNow_42 : decode cX10_eveningsNow 42 = .ok (.aload_n 0, 1) := by decide +kernel
theorem dX10_eveningsNow_43 : decode cX10_eveningsNow 43 = .ok (.aload_n 0, 1) := by decide +kernel
theorem dX10_eveningsNow_44 : decode cX10_eveningsNow 44 = .ok (.getfield 101, 3) := by decide +kernel
theorem dX10_eveningsNow_47 : decode cX10_eveningsNow 47 = .ok (.invokevirtual 198, 3) := by decide +kernel
theorem dX10_eveningsNow_50 : decode cX10_eveningsNow 50 = .ok (.istore 9, 2) := by decide +kernel
theorem dX10_eveningsNow_52 : decode cX10_eveningsNow 52 = .ok (.iload 4, 2) := by decide +kernel
theorem dX10_eveningsNow_54 : decode cX10_eveningsNow 54 = .ok (.aload_n 0, 1) := by decide +kernel
theorem dX10_eveningsNow_55 : decode cX10_eveningsNow 55 = .ok (.getfield 13, 3) := by decide +kernel
theorem dX10_eveningsNow_58 : decode cX10_eveningsNow 58 = .ok (.iload 9, 2) := by decide +kernel
theorem dX10_eveningsNow_60 : decode cX10_eveningsNow 60 = .ok (.iaload, 1) := by decide +kernel
theorem dX10_eveningsNow_61 : decode cX10_eveningsNow 61 = .ok (.aload_n 0, 1) := by decide +kernel
theorem dX10_eveningsNow_62 : decode cX10_eveningsNow 62 = .ok (.iload 9, 2) := by decide +kernel
theorem dX10_eveningsNow_64 : decode cX10_eveningsNow 64 = .ok (.invokevirtual 131, 3) := by decide +kernel
theorem dX10_eveningsNow_67 : decode cX10_eveningsNow 67 = .ok (.invokestatic 134, 3) := by decide +kernel
theorem dX10_eveningsNow_70 : decode cX10_eveningsNow 70 = .ok (.istore 10, 2) := by decide +kernel
theorem dX10_eveningsNow_72 : decode cX10_eveningsNow 72 = .ok (.iload 5, 2) := by decide +kernel
theorem dX10_eveningsNow_74 : decode cX10_eveningsNow 74 = .ok (.iload 9, 2) := by decide +kernel
theorem dX10_eveningsNow_76 : decode cX10_eveningsNow 76 = .ok (.ishr, 1) := by decide +kernel
theorem dX10_eveningsNow_77 : decode cX10_eveningsNow 77 = .ok (.iconst 1, 1) := by decide +kernel
theorem dX10_eveningsNow_78 : decode cX10_eveningsNow 78 = .ok (.iand, 1) := by decide +kernel
theorem dX10_eveningsNow_79 : decode cX10_eveningsNow 79 = .ok (.ifCond .ne 7, 3) := by decide +kernel
theorem dX10_eveningsNow_82 : decode cX10_eveningsNow 82 = .ok (.iconst 1, 1) := by decide +kernel
theorem dX10_eveningsNow_83 : decode cX10_eveningsNow 83 = .ok (.goto 4, 3) := by decide +kernel
theorem dX10_eveningsNow_86 : decode cX10_eveningsNow 86 = .ok (.iconst 0, 1) := by decide +kernel
theorem dX10_eveningsNow_87 : decode cX10_eveningsNow 87 = .ok (.istore 11, 2) := by decide +kernel
theorem dX10_eveningsNow_89 : decode cX10_eveningsNow 89 = .ok (.iload 6, 2) := by decide +kernel
theorem dX10_eveningsNow_91 : decode cX10_eveningsNow 91 = .ok (.iload 11, 2) := by decide +kernel
theorem dX10_eveningsNow_93 : decode cX10_eveningsNow 93 = .ok (.ifCond .eq 14, 3) := by decide +kernel
theorem dX10_eveningsNow_96 : decode cX10_eveningsNow 96 = .ok (.iload 10, 2) := by decide +kernel
theorem dX10_eveningsNow_98 : decode cX10_eveningsNow 98 = .ok (.bipush 100, 2) := by decide +kernel
theorem dX10_eveningsNow_100 : decode cX10_eveningsNow 100 = .ok (.if_icmp .ne 7, 3) := by decide +kernel
theorem dX10_eveningsNow_103 : decode cX10_eveningsNow 103 = .ok (.iconst 1, 1) := by decide +kernel
theorem dX10_eveningsNow_104 : decode cX10_eveningsNow 104 = .ok (.goto 4, 3) := by decide +kernel
theorem dX10_eveningsNow_107 : decode cX10_eveningsNow 107 = .ok (.iconst 0, 1) := by decide +kernel
theorem dX10_eveningsNow_108 : decode cX10_eveningsNow 108 = .ok (.iadd, 1) := by decide +kernel
theorem dX10_eveningsNow_109 : decode cX10_eveningsNow 109 = .ok (.istore 6, 2) := by decide +kernel
theorem dX10_eveningsNow_111 : decode cX10_eveningsNow 111 = .ok (.iload 7, 2) := by decide +kernel
theorem dX10_eveningsNow_113 : decode cX10_eveningsNow 113 = .ok (.iload 11, 2) := by decide +kernel
theorem dX10_eveningsNow_115 : decode cX10_eveningsNow 115 = .ok (.ifCond .eq 14, 3) := by decide +kernel
theorem dX10_eveningsNow_118 : decode cX10_eveningsNow 118 = .ok (.iload 10, 2) := by decide +kernel
theorem dX10_eveningsNow_120 : decode cX10_eveningsNow 120 = .ok (.bipush 100, 2) := by decide +kernel
theorem dX10_eveningsNow_122 : decode cX10_eveningsNow 122 = .ok (.if_icmp .le 7, 3) := by decide +kernel
theorem dX10_eveningsNow_125 : decode cX10_eveningsNow 125 = .ok (.iconst 1, 1) := by decide +kernel
theorem dX10_eveningsNow_126 : decode cX10_eveningsNow 126 = .ok (.goto 4, 3) := by decide +kernel
theorem dX10_eveningsNow_129 : decode cX10_eveningsNow 129 = .ok (.iconst 0, 1) := by decide +kernel
theorem dX10_eveningsNow_130 : decode cX10_eveningsNow 130 = .ok (.iadd, 1) := by decide +kernel
theorem dX10_eveningsNow_131 : decode cX10_eveningsNow 131 = .ok (.istore 7, 2) := by decide +kernel
theorem dX10_eveningsNow_133 : decode cX10_eveningsNow 133 = .ok (.iload 5, 2) := by decide +kernel
theorem dX10_eveningsNow_135 : decode cX10_eveningsNow 135 = .ok (.iconst 1, 1) := by decide +kernel
theorem dX10_eveningsNow_136 : decode cX10_eveningsNow 136 = .ok (.iload 9, 2) := by decide +kernel
theorem dX10_eveningsNow_138 : decode cX10_eveningsNow 138 = .ok (.ishl, 1) := by decide +kernel
theorem dX10_eveningsNow_139 : decode cX10_eveningsNow 139 = .ok (.ior, 1) := by decide +kernel
theorem dX10_eveningsNow_140 : decode cX10_eveningsNow 140 = .ok (.istore 5, 2) := by decide +kernel
theorem dX10_eveningsNow_142 : decode cX10_eveningsNow 142 = .ok (.iinc 8 1, 3) := by decide +kernel
theorem dX10_eveningsNow_145 : decode cX10_eveningsNow 145 = .ok (.goto (-124), 3) := by decide +kernel
theorem dX10_eveningsNow_148 : decode cX10_eveningsNow 148 = .ok (.iload_n 3, 1) := by decide +kernel
theorem dX10_eveningsNow_149 : decode cX10_eveningsNow 149 = .ok (.ifCond .ne 8, 3) := by decide +kernel
theorem dX10_eveningsNow_152 : decode cX10_eveningsNow 152 = .ok (.iload 6, 2) := by decide +kernel
theorem dX10_eveningsNow_154 : decode cX10_eveningsNow 154 = .ok (.goto 18, 3) := by decide +kernel
theorem dX10_eveningsNow_157 : decode cX10_eveningsNow 157 = .ok (.iload_n 3, 1) := by decide +kernel
theorem dX10_eveningsNow_158 : decode cX10_eveningsNow 158 = .ok (.iconst 1, 1) := by decide +kernel
theorem dX10_eveningsNow_159 : decode cX10_eveningsNow 159 = .ok (.if_icmp .ne 8, 3) := by decide +kernel
theorem dX10_eveningsNow_162 : decode cX10_eveningsNow 162 = .ok (.iload 7, 2) := by decide +kernel
theorem dX10_eveningsNow_164 : decode cX10_eveningsNow 164 = .ok (.goto 8, 3) := by decide +kernel
theorem dX10_eveningsNow_167 : decode cX10_eveningsNow 167 = .ok (.aload_n 0, 1) := by decide +kernel
theorem dX10_eveningsNow_168 : decode cX10_eveningsNow 168 = .ok (.getfield 188, 3) := by decide +kernel
theorem dX10_eveningsNow_171 : decode cX10_eveningsNow 171 = .ok (.l2i, 1) := by decide +kernel
theorem dX10_eveningsNow_172 : decode cX10_eveningsNow 172 = .ok (.ireturn, 1) := by decide +kernel
set_option maxRecDepth 20000 in
theorem ggX10_evenings_X10_within : GoodIn wsX10_evenings wsX10_within := goodIn_r _ [5] (by decide +kernel) (by decide +kernel)
set_option maxRecDepth 20000 in
theorem gX10_evenings_X10_within : GoodIn wsX10_evenings (va_wsS RX10 68 yX10_within wsX10_within) := goodIn_app (goodIn_of _ (by decide +kernel)) ggX10_evenings_X10_within
set_option maxRecDepth 20000 in
theorem ggX10_evenings_X10_eveningsNow : GoodIn wsX10_evenings wsX10_eveningsNow := goodIn_r _ [9, 10, 11, 1, 12, 13, 14, 15, 4, 16, 17, 18, 19, 20, 21, 22, 23, 24, 25, 26, 27, 28, 29, 30, 31, 32, 33, 34, 35, 36, 37, 38, 39, 40, 41, 42, 43, 44, 45, 46, 47, 48, 49, 50, 51, 52, 53, 54, 55, 56, 57, 58, 59, 60, 61, 62, 63, 64, 65, 66, 67] (by decide +kernel) (by decide +kernel)
set_option maxRecDepth 20000 in
theorem gX10_evenings_X10_eveningsNow : GoodIn wsX10_evenings (wsV RX10 201 RX10 yX10_eveningsNow wsX10_eveningsNow) := goodIn_app (goodIn_of _ (by decide +kernel)) ggX10_evenings_X10_eveningsNow
theorem dX10_evenings_0 : decode cX10_evenings 0 = .ok (.iload_n 1, 1) := by decide +kernel
theorem dX10_evenings_1 : decode cX10_evenings 1 = .ok (.iconst 1, 1) := by decide +kernel
theorem dX10_evenings_2 : decode cX10_evenings 2 = .ok (.bipush 30, 2) := by decide +kernel
theorem dX10_evenings_4 : decode cX10_evenings 4 = .ok (.invokestatic 68, 3) := by decide +kernel
theorem dX10_evenings_7 : decode cX10_evenings 7 = .ok (.ifCond .eq 16, 3) := by decide +kernel
theorem dX10_evenings_10 : decode cX10_evenings 10 = .ok (.iload_n 2, 1) := by decide +kernel
theorem dX10_evenings_11 : decode cX10_evenings 11 = .ok (.ifCond .lt 12, 3) := by decide +kernel
theorem dX10_evenings_14 : decode cX10_evenings 14 = .ok (.iload_n 3, 1) := by decide +kernel
theorem dX10_evenings_15 : decode cX10_evenings 15 = .ok (.iconst 0, 1) := by decide +kernel
theorem dX10_evenings_16 : decode cX10_evenings 16 = .ok (.iconst 2, 1) := by decide +kernel
theorem dX10_evenings_17 : decode cX10_evenings 17 = .ok (.invokestatic 68, 3) := by decide +kernel
theorem dX10_evenings_20 : decode cX10_evenings 20 = .ok (.ifCond .ne 6, 3) := by decide +kernel
theorem dX10_evenings_23 : decode cX10_evenings 23 = .ok (.bipush (-102), 2) := by decide +kernel
theorem dX10_evenings_25 : decode cX10_evenings 25 = .ok (.ireturn, 1) := by decide +kernel
theorem dX10_evenings_26 : decode cX10_evenings 26 = .ok (.aload_n 0, 1) := by decide +kernel
theorem dX10_evenings_27 : decode cX10_evenings 27 = .ok (.getfield 101, 3) := by decide +kernel
theorem dX10_evenings_30 : decode cX10_evenings 30 = .ok (.ifCond .ne 8, 3) := by decide +kernel
theorem dX10_evenings_33 : decode cX10_evenings 33 = .ok (.bipush (-103), 2) := by decide +kernel
theorem dX10_evenings_35 : decode cX10_evenings 35 = .ok (.goto 10, 3) := by decide +kernel
theorem dX10_evenings_38 : decode cX10_evenings 38 = .ok (.aload_n 0, 1) := by decide +kernel
theorem dX10_evenings_39 : decode cX10_evenings 39 = .ok (.iload_n 1, 1) := by decide +kernel
theorem dX10_evenings_40 : decode cX10_evenings 40 = .ok (.iload_n 2, 1) := by decide +kernel
theorem dX10_evenings_41 : decode cX10_evenings 41 = .ok (.iload_n 3, 1) := by decide +kernel
theorem dX10_evenings_42 : decode cX10_evenings 42 = .ok (.invokevirtual 201, 3) := by decide +kernel
theorem dX10_evenings_45 : decode cX10_evenings 45 = .ok (.ireturn, 1) := by decide +kernel
theorem dX10_image_0 : decode cX10_image 0 = .ok (.aload_n 0, 1) := by decide +kernel
theorem dX10_image_1 : decode cX10_image 1 = .ok (.getfield 101, 3) := by decide +kernel
theorem dX10_image_4 : decode cX10_image 4 = .ok (.ifCond .ne 6, 3) := by decide +kernel
theorem dX10_image_7 : decode cX10_image 7 = .ok (.bipush (-103), 2) := by decide +kernel
theorem dX10_image_9 : decode cX10_image 9 = .ok (.ireturn, 1) := by decide +kernel
theorem dX10_image_10 : decode cX10_image 10 = .ok (.aload_n 0, 1) := by decide +kernel
theorem dX10_image_11 : decode cX10_image 11 = .ok (.iconst 1, 1) := by decide +kernel
theorem dX10_image_12 : decode cX10_image 12 = .ok (.putfield 204, 3) := by decide +kernel
theorem dX10_image_15 : decode cX10_image 15 = .ok (.aload_n 0, 1) := by decide +kernel
theorem dX10_image_16 : decode cX10_image 16 = .ok (.aload_n 0, 1) := by decide +kernel
theorem dX10_image_17 : decode cX10_image 17 = .ok (.getfield 113, 3) := by decide +kernel
theorem dX10_image_20 : decode cX10_image 20 = .ok (.putfield 207, 3) := by decide +kernel
theorem dX10_image_23 : decode cX10_image 23 = .ok (.aload_n 0, 1) := by decide +kernel
theorem dX10_image_24 : decode cX10_image 24 = .ok (.aload_n 0, 1) := by decide +kernel
theorem dX10_image_25 : decode cX10_image 25 = .ok (.getfield 116, 3) := by decide +kernel
theorem dX10_image_28 : decode cX10_image 28 = .ok (.putfield 210, 3) := by decide +kernel
theorem dX10_image_31 : decode cX10_image 31 = .ok (.aload_n 0, 1) := by decide +kernel
theorem dX10_image_32 : decode cX10_image 32 = .ok (.aload_n 0, 1) := by decide +kernel
theorem dX10_image_33 : decode cX10_image 33 = .ok (.getfield 119, 3) := by decide +kernel
theorem dX10_image_36 : decode cX10_image 36 = .ok (.putfield 213, 3) := by decide +kernel
theorem dX10_image_39 : decode cX10_image 39 = .ok (.aload_n 0, 1) := by decide +kernel
theorem dX10_image_40 : decode cX10_image 40 = .ok (.aload_n 0, 1) := by decide +kernel
theorem dX10_image_41 : decode cX10_image 41 = .ok (.getfield 122, 3) := by decide +kernel
theorem dX10_image_44 : decode cX10_image 44 = .ok (.putfield 216, 3) := by decide +kernel
theorem dX10_image_47 : decode cX10_image 47 = .ok (.aload_n 0, 1) := by decide +kernel
theorem dX10_image_48 : decode cX10_image 48 = .ok (.aload_n 0, 1) := by decide +kernel
theorem dX10_image_49 : decode cX10_image 49 = .ok (.getfield 125, 3) := by decide +kernel
theorem dX10_image_52 : decode cX10_image 52 = .ok (.putfield 219, 3) := by decide +kernel
theorem dX10_image_55 : decode cX10_image 55 = .ok (.iconst 0, 1) := by decide +kernel
theorem dX10_image_56 : decode cX10_image 56 = .ok (.istore_n 1, 1) := by decide +kernel
theorem dX10_image_57 : decode cX10_image 57 = .ok (.iload_n 1, 1) := by decide +kernel
theorem dX10_image_58 : decode cX10_image 58 = .ok (.iconst 4, 1) := by decide +kernel
theorem dX10_image_59 : decode cX10_image 59 = .ok (.if_icmp .ge 45, 3) := by decide +kernel
theorem dX10_image_62 : decode cX10_image 62 = .ok (.aload_n 0, 1) := by decide +kernel
theorem dX10_image_63 : decode cX10_image 63 = .ok (.getfield 47, 3) := by decide +kernel
theorem dX10_image_66 : decode cX10_image 66 = .ok (.iload_n 1, 1) := by decide +kernel
theorem dX10_image_67 : decode cX10_image 67 = .ok (.aload_n 0, 1) := by decide +kernel
theorem dX10_image_68 : decode cX10_image 68 = .ok (.getfield 16, 3) := by decide +kernel
theorem dX10_image_71 : decode cX10_image 71 = .ok (.iload_n 1, 1) := by decide +kernel
theorem dX10_image_72 : decode cX10_image 72 = .ok (.iaload, 1) := by decide +kernel
theorem dX10_image_73 : decode cX10_image 73 = .ok (.iastore, 1) := by decide +kernel
theorem dX10_image_74 : decode cX10_image 74 = .ok (.aload_n 0, 1) := by decide +kernel
theorem dX10_image_75 : decode cX10_image 75 = .ok (.getfield 50, 3) := by decide +kernel
theorem dX10_image_78 : decode cX10_image 78 = .ok (.iload_n 1, 1) := by decide +kernel
theorem dX10_image_79 : decode cX10_image 79 = .ok (.aload_n 0, 1) := by decide +kernel
theorem dX10_image_80 : decode cX10_image 80 = .ok (.getfield 19, 3) := by decide +kernel
theorem dX10_image_83 : decode cX10_image 83 = .ok (.iload_n 1, 1) := by decide +kernel
theorem dX10_image_84 : decode cX10_image 84 = .ok (.iaload, 1) := by decide +kernel
theorem dX10_image_85 : decode cX10_image 85 = .ok (.iastore, 1) := by decide +kernel
theorem dX10_image_86 : decode cX10_image 86 = .ok (.aload_n 0, 1) := by decide +kernel
theorem dX10_image_87 : decode cX10_image 87 = .ok (.getfield 53, 3) := by decide +kernel
theorem dX10_image_90 : decode cX10_image 90 = .ok (.iload_n 1, 1) := by decide +kernel
theorem dX10_image_91 : decode cX10_image 91 = .ok (.aload_n 0, 1) := by decide +kernel
theorem dX10_image_92 : decode cX10_image 92 = .ok (.getfield 22, 3) := by decide +kernel
theorem dX10_image_95 : decode cX10_image 95 = .ok (.iload_n 1, 1) := by decide +kernel
theorem dX10_image_96 : decode cX10_image 96 = .ok (.iaload, 1) := by decide +kernel
theorem dX10_image_97 : decode cX10_image 97 = .ok (.iastore, 1) := by decide +kernel
theorem dX10_image_98 : decode cX10_image 98 = .ok (.iinc 1 1, 3) := by decide +kernel
theorem dX10_image_101 : decode cX10_image 101 = .ok (.goto (-44), 3) := by decide +kernel
theorem dX10_image_104 : decode cX10_image 104 = .ok (.iconst 0, 1) := by decide +kernel
theorem dX10_image_105 : decode cX10_image 105 = .ok (.istore_n 1, 1) := by decide +kernel
theorem dX10_image_106 : decode cX10_image 106 = .ok (.iload_n 1, 1) := by decide +kernel
theorem dX10_image_107 : decode cX10_image 107 = .ok (.bipush 6, 2) := by decide +kernel
theorem dX10_image_109 : decode cX10_image 109 = .ok (.if_icmp .ge 57, 3) := by decide +kernel
theorem dX10_image_112 : decode cX10_image 112 = .ok (.aload_n 0, 1) := by decide +kernel
theorem dX10_image_113 : decode cX10_image 113 = .ok (.getfield 56, 3) := by decide +kernel
theorem dX10_image_116 : decode cX10_image 116 = .ok (.iload_n 1, 1) := by decide +kernel
theorem dX10_image_117 : decode cX10_image 117 = .ok (.aload_n 0, 1) := by decide +kernel
theorem dX10_image_118 : decode cX10_image 118 = .ok (.getfield 25, 3) := by decide +kernel
theorem dX10_image_121 : decode cX10_image 121 = .ok (.iload_n 1, 1) := by decide +kernel
theorem dX10_image_122 : decode cX10_image 122 = .ok (.iaload, 1) := by decide +kernel
theorem dX10_image_123 : decode cX10_image 123 = .ok (.iastore, 1) := by decide +kernel
theorem dX10_image_124 : decode cX10_image 124 = .ok (.aload_n 0, 1) := by decide +kernel
theorem dX10_image_125 : decode cX10_image 125 = .ok (.getfield 59, 3) := by decide +kernel
theorem dX10_image_128 : decode cX10_image 128 = .ok (.iload_n 1, 1) := by decide +kernel
theorem dX10_image_129 : decode cX10_image 129 = .ok (.aload_n 0, 1) := by decide +kernel
theorem dX10_image_130 : decode cX10_image 130 = .ok (.getfield 28, 3) := by decide +kernel
theorem dX10_image_133 : decode cX10_image 133 = .ok (.iload_n 1, 1) := by decide +kernel
theorem dX10_image_134 : decode cX10_image 134 = .ok (.iaload, 1) := by decide +kernel
theorem dX10_image_135 : decode cX10_image 135 = .ok (.iastore, 1) := by decide +kernel
theorem dX10_image_136 : decode cX10_image 136 = .ok (.aload_n 0, 1) := by decide +kernel
theorem dX10_image_137 : decode cX10_image 137 = .ok (.getfield 62, 3) := by decide +kernel
theorem dX10_image_140 : decode cX10_image 140 = .ok (.iload_n 1, 1) := by decide +kernel
theorem dX10_image_141 : decode cX10_image 141 = .ok (.aload_n 0, 1) := by decide +kernel
theorem dX10_image_142 : decode cX10_image 142 = .ok (.getfield 31, 3) := by decide +kernel
theorem dX10_image_145 : decode cX10_image 145 = .ok (.iload_n 1, 1) := by decide +kernel
theorem dX10_image_146 : decode cX10_image 146 = .ok (.iaload, 1) := by decide +kernel
theorem dX10_image_147 : decode cX10_image 147 = .ok (.iastore, 1) := by decide +kernel
theorem dX10_image_148 : decode cX10_image 148 = .ok (.aload_n 0, 1) := by decide +kernel
theorem dX10_image_149 : decode cX10_image 149 = .ok (.getfield 65, 3) := by decide +kernel
theorem dX10_image_152 : decode cX10_image 152 = .ok (.iload_n 1, 1) := by decide +kernel
theorem dX10_image_153 : decode cX10_image 153 = .ok (.aload_n 0, 1) := by decide +kernel
theorem dX10_image_154 : decode cX10_image 154 = .ok (.getfield 34, 3) := by decide +kernel
theorem dX10_image_157 : decode cX10_image 157 = .ok (.iload_n 1, 1) := by decide +kernel
theorem dX10_image_158 : decode cX10_image 158 = .ok (.iaload, 1) := by decide +kernel
theorem dX10_image_159 : decode cX10_image 159 = .ok (.iastore, 1) := by decide +kernel
theorem dX10_image_160 : decode cX10_image 160 = .ok (.iinc 1 1, 3) := by decide +kernel
theorem dX10_image_163 : decode cX10_image 163 = .ok (.goto (-57), 3) := by decide +kernel
theorem dX10_image_166 : decode cX10_image 166 = .ok (.aload_n 0, 1) := by decide +kernel
theorem dX10_image_167 : decode cX10_image 167 = .ok (.getfield 116, 3) := by decide +kernel
theorem dX10_image_170 : decode cX10_image 170 = .ok (.ireturn, 1) := by decide +kernel
theorem dX10_restore_0 : decode cX10_restore 0 = .ok (.aload_n 0, 1) := by decide +kernel
theorem dX10_restore_1 : decode cX10_restore 1 = .ok (.getfield 204, 3) := by decide +kernel
theorem dX10_restore_4 : decode cX10_restore 4 = .ok (.ifCond .eq 14, 3) := by decide +kernel
theorem dX10_restore_7 : decode cX10_restore 7 = .ok (.aload_n 0, 1) := by decide +kernel
theorem dX10_restore_8 : decode cX10_restore 8 = .ok (.getfield 207, 3) := by decide +kernel
theorem dX10_restore_11 : decode cX10_restore 11 = .ok (.aload_n 0, 1) := by decide +kernel
theorem dX10_restore_12 : decode cX10_restore 12 = .ok (.getfield 113, 3) := by decide +kernel
theorem dX10_restore_15 : decode cX10_restore 15 = .ok (.if_icmp .eq 6, 3) := by decide +kernel
theorem dX10_restore_18 : decode cX10_restore 18 = .ok (.bipush (-103), 2) := by decide +kernel
theorem dX10_restore_20 : decode cX10_restore 20 = .ok (.ireturn, 1) := by decide +kernel
theorem dX10_restore_21 : decode cX10_restore 21 = .ok (.aload_n 0, 1) := by decide +kernel
theorem dX10_restore_22 : decode cX10_restore 22 = .ok (.aload_n 0, 1) := by decide +kernel
theorem dX10_restore_23 : decode cX10_restore 23 = .ok (.getfield 210, 3) := by decide +kernel
theorem dX10_restore_26 : decode cX10_restore 26 = .ok (.putfield 116, 3) := by decide +kernel
theorem dX10_restore_29 : decode cX10_restore 29 = .ok (.aload_n 0, 1) := by decide +kernel
theorem dX10_restore_30 : decode cX10_restore 30 = .ok (.aload_n 0, 1) := by decide +kernel
theorem dX10_restore_31 : decode cX10_restore 31 = .ok (.getfield 213, 3) := by decide +kernel
theorem dX10_restore_34 : decode cX10_restore 34 = .ok (.putfield 119, 3) := by decide +kernel
theorem dX10_restore_37 : decode cX10_restore 37 = .ok (.aload_n 0, 1) := by decide +kernel
theorem dX10_restore_38 : decode cX10_restore 38 = .ok (.aload_n 0, 1) := by decide +kernel
theorem dX10_restore_39 : decode cX10_restore 39 = .ok (.getfield 216, 3) := by decide +kernel
theorem dX10_restore_42 : decode cX10_restore 42 = .ok (.putfield 122, 3) := by decide +kernel
theorem dX10_restore_45 : decode cX10_restore 45 = .ok (.aload_n 0, 1) := by decide +kernel
theorem dX10_restore_46 : decode cX10_restore 46 = .ok (.aload_n 0, 1) := by decide +kernel
theorem dX10_restore_47 : decode cX10_restore 47 = .ok (.getfield 219, 3) := by decide +kernel
theorem dX10_restore_50 : decode cX10_restore 50 = .ok (.putfield 125, 3) := by decide +kernel
theorem dX10_restore_53 : decode cX10_restore 53 = .ok (.iconst 0, 1) := by decide +kernel
theorem dX10_restore_54 : decode cX10_restore 54 = .ok (.istore_n 1, 1) := by decide +kernel
theorem dX10_restore_55 : decode cX10_restore 55 = .ok (.iload_n 1, 1) := by decide +kernel
theorem dX10_restore_56 : decode cX10_restore 56 = .ok (.iconst 4, 1) := by decide +kernel
theorem dX10_restore_57 : decode cX10_restore 57 = .ok (.if_icmp .ge 45, 3) := by decide +kernel
theorem dX10_restore_60 : decode cX10_restore 60 = .ok (.aload_n 0, 1) := by decide +kernel
theorem dX10_restore_61 : decode cX10_restore 61 = .ok (.getfield 16, 3) := by decide +kernel
theorem dX10_restore_64 : decode cX10_restore 64 = .ok (.iload_n 1, 1) := by decide +kernel
theorem dX10_restore_65 : decode cX10_restore 65 = .ok (.aload_n 0, 1) := by decide +kernel
theorem dX10_restore_66 : decode cX10_restore 66 = .ok (.getfield 47, 3) := by decide +kernel
theorem dX10_restore_69 : decode cX10_restore 69 = .ok (.iload_n 1, 1) := by decide +kernel
theorem dX10_restore_70 : decode cX10_restore 70 = .ok (.iaload, 1) := by decide +kernel
theorem dX10_restore_71 : decode cX10_restore 71 = .ok (.iastore, 1) := by decide +kernel
theorem dX10_restore_72 : decode cX10_restore 72 = .ok (.aload_n 0, 1) := by decide +kernel
theorem dX10_restore_73 : decode cX10_restore 73 = .ok (.getfield 19, 3) := by decide +kernel
theorem dX10_restore_76 : decode cX10_restore 76 = .ok (.iload_n 1, 1) := by decide +kernel
theorem dX10_restore_77 : decode cX10_restore 77 = .ok (.aload_n 0, 1) := by decide +kernel
theorem dX10_restore_78 : decode cX10_restore 78 = .ok (.getfield 50, 3) := by decide +kernel
theorem dX10_restore_81 : decode cX10_restore 81 = .ok (.iload_n 1, 1) := by decide +kernel
theorem dX10_restore_82 : decode cX10_restore 82 = .ok (.iaload, 1) := by decide +kernel
theorem dX10_restore_83 : decode cX10_restore 83 = .ok (.iastore, 1) := by decide +kernel
theorem dX10_restore_84 : decode cX10_restore 84 = .ok (.aload_n 0, 1) := by decide +kernel
theorem dX10_restore_85 : decode cX10_restore 85 = .ok (.getfield 22, 3) := by decide +kernel
theorem dX10_restore_88 : decode cX10_restore 88 = .ok (.iload_n 1, 1) := by decide +kernel
theorem dX10_restore_89 : decode cX10_restore 89 = .ok (.aload_n 0, 1) := by decide +kernel
theorem dX10_restore_90 : decode cX10_restore 90 = .ok (.getfield 53, 3) := by decide +kernel
theorem dX10_restore_93 : decode cX10_restore 93 = .ok (.iload_n 1, 1) := by decide +kernel
theorem dX10_restore_94 : decode cX10_restore 94 = .ok (.iaload, 1) := by decide +kernel
theorem dX10_restore_95 : decode cX10_restore 95 = .ok (.iastore, 1) := by decide +kernel
theorem dX10_restore_96 : decode cX10_restore 96 = .ok (.iinc 1 1, 3) := by decide +kernel
theorem dX10_restore_99 : decode cX10_restore 99 = .ok (.goto (-44), 3) := by decide +kernel
theorem dX10_restore_102 : decode cX10_restore 102 = .ok (.iconst 0, 1) := by decide +kernel
theorem dX10_restore_103 : decode cX10_restore 103 = .ok (.istore_n 1, 1) := by decide +kernel
theorem dX10_restore_104 : decode cX10_restore 104 = .ok (.iload_n 1, 1) := by decide +kernel
theorem dX10_restore_105 : decode cX10_restore 105 = .ok (.bipush 6, 2) := by decide +kernel
theorem dX10_restore_107 : decode cX10_restore 107 = .ok (.if_icmp .ge 57, 3) := by decide +kernel
theorem dX10_restore_110 : decode cX10_restore 110 = .ok (.aload_n 0, 1) := by decide +kernel
theorem dX10_restore_111 : decode cX10_restore 111 = .ok (.getfield 25, 3) := by decide +kernel
theorem dX10_restore_114 : decode cX10_restore 114 = .ok (.iload_n 1, 1) := by decide +kernel
theorem dX10_restore_115 : decode cX10_restore 115 = .ok (.aload_n 0, 1) := by decide +kernel
theorem dX10_restore_116 : decode cX10_restore 116 = .ok (.getfield 56, 3) := by decide +kernel
theorem dX10_restore_119 : decode cX10_restore 119 = .ok (.iload_n 1, 1) := by decide +kernel
theorem dX10_restore_120 : decode cX10_restore 120 = .ok (.iaload, 1) := by decide +kernel
theorem dX10_restore_121 : decode cX10_restore 121 = .ok (.iastore, 1) := by decide +kernel
theorem dX10_restore_122 : decode cX10_restore 122 = .ok (.aload_n 0, 1) := by decide +kernel
theorem dX10_restore_123 : decode cX10_restore 123 = .ok (.getfield 28, 3) := by decide +kernel
theorem dX10_restore_126 : decode cX10_restore 126 = .ok (.iload_n 1, 1) := by decide +kernel
theorem dX10_restore_127 : decode cX10_restore 127 = .ok (.aload_n 0, 1) := by decide +kernel
theorem dX10_restore_128 : decode cX10_restore 128 = .ok (.getfield 59, 3) := by decide +kernel
theorem dX10_restore_131 : decode cX10_restore 131 = .ok (.iload_n 1, 1) := by decide +kernel
theorem dX10_restore_132 : decode cX10_restore 132 = .ok (.iaload, 1) := by decide +kernel
theorem dX10_restore_133 : decode cX10_restore 133 = .ok (.iastore, 1) := by decide +kernel
theorem dX10_restore_134 : decode cX10_restore 134 = .ok (.aload_n 0, 1) := by decide +kernel
theorem dX10_restore_135 : decode cX10_restore 135 = .ok (.getfield 31, 3) := by decide +kernel
theorem dX10_restore_138 : decode cX10_restore 138 = .ok (.iload_n 1, 1) := by decide +kernel
theorem dX10_restore_139 : decode cX10_restore 139 = .ok (.aload_n 0, 1) := by decide +kernel
theorem dX10_restore_140 : decode cX10_restore 140 = .ok (.getfield 62, 3) := by decide +kernel
theorem dX10_restore_143 : decode cX10_restore 143 = .ok (.iload_n 1, 1) := by decide +kernel
theorem dX10_restore_144 : decode cX10_restore 144 = .ok (.iaload, 1) := by decide +kernel
theorem dX10_restore_145 : decode cX10_restore 145 = .ok (.iastore, 1) := by decide +kernel
theorem dX10_restore_146 : decode cX10_restore 146 = .ok (.aload_n 0, 1) := by decide +kernel
theorem dX10_restore_147 : decode cX10_restore 147 = .ok (.getfield 34, 3) := by decide +kernel
theorem dX10_restore_150 : decode cX10_restore 150 = .ok (.iload_n 1, 1) := by decide +kernel
theorem dX10_restore_151 : decode cX10_restore 151 = .ok (.aload_n 0, 1) := by decide +kernel
theorem dX10_restore_152 : decode cX10_restore 152 = .ok (.getfield 65, 3) := by decide +kernel
theorem dX10_restore_155 : decode cX10_restore 155 = .ok (.iload_n 1, 1) := by decide +kernel
theorem dX10_restore_156 : decode cX10_restore 156 = .ok (.iaload, 1) := by decide +kernel
theorem dX10_restore_157 : decode cX10_restore 157 = .ok (.iastore, 1) := by decide +kernel
theorem dX10_restore_158 : decode cX10_restore 158 = .ok (.iinc 1 1, 3) := by decide +kernel
theorem dX10_restore_161 : decode cX10_restore 161 = .ok (.goto (-57), 3) := by decide +kernel
theorem dX10_restore_164 : decode cX10_restore 164 = .ok (.aload_n 0, 1) := by decide +kernel
theorem dX10_restore_165 : decode cX10_restore 165 = .ok (.getfield 116, 3) := by decide +kernel
theorem dX10_restore_168 : decode cX10_restore 168 = .ok (.ireturn, 1) := by decide +kernel
set_option maxRecDepth 20000 in
theorem ggX10_boiling_X10_boils : GoodIn wsX10_boiling wsX10_boils := goodIn_r _ [6, 7, 8, 9, 10, 11, 12, 13, 14, 15, 16, 17, 18, 19, 20, 21, 22, 23, 24, 25, 26, 27, 28, 29, 30, 31, 32, 33, 34, 35, 36, 37, 38, 39, 40, 41, 42, 43, 44, 45, 46] (by decide +kernel) (by decide +kernel)
set_option maxRecDepth 20000 in
theorem gX10_boiling_X10_boils : GoodIn wsX10_boiling (wsV RX10 138 RX10 yX10_boils wsX10_boils) := goodIn_app (goodIn_of _ (by decide +kernel)) ggX10_boiling_X10_boils
theorem dX10_boiling_0 : decode cX10_boiling 0 = .ok (.iconst 0, 1) := by decide +kernel
theorem dX10_boiling_1 : decode cX10_boiling 1 = .ok (.istore_n 1, 1) := by decide +kernel
theorem dX10_boiling_2 : decode cX10_boiling 2 = .ok (.iconst 0, 1) := by decide +kernel
theorem dX10_boiling_3 : decode cX10_boiling 3 = .ok (.istore_n 2, 1) := by decide +kernel
theorem dX10_boiling_4 : decode cX10_boiling 4 = .ok (.iload_n 2, 1) := by decide +kernel
theorem dX10_boiling_5 : decode cX10_boiling 5 = .ok (.aload_n 0, 1) := by decide +kernel
theorem dX10_boiling_6 : decode cX10_boiling 6 = .ok (.getfield 101, 3) := by decide +kernel
theorem dX10_boiling_9 : decode cX10_boiling 9 = .ok (.if_icmp .ge 25, 3) := by decide +kernel
theorem dX10_boiling_12 : decode cX10_boiling 12 = .ok (.iload_n 1, 1) := by decide +kernel
theorem dX10_boiling_13 : decode cX10_boiling 13 = .ok (.aload_n 0, 1) := by decide +kernel
theorem dX10_boiling_14 : decode cX10_boiling 14 = .ok (.iload_n 2, 1) := by decide +kernel
theorem dX10_boiling_15 : decode cX10_boiling 15 = .ok (.invokevirtual 138, 3) := by decide +kernel
theorem dX10_boiling_18 : decode cX10_boiling 18 = .ok (.ifCond .eq 7, 3) := by decide +kernel
theorem dX10_boiling_21 : decode cX10_boiling 21 = .ok (.iconst 1, 1) := by decide +kernel
theorem dX10_boiling_22 : decode cX10_boiling 22 = .ok (.goto 4, 3) := by decide +kernel
theorem dX10_boiling_25 : decode cX10_boiling 25 = .ok (.iconst 0, 1) := by decide +kernel
theorem dX10_boiling_26 : decode cX10_boiling 26 = .ok (.iadd, 1) := by decide +kernel
theorem dX10_boiling_27 : decode cX10_boiling 27 = .ok (.istore_n 1, 1) := by decide +kernel
theorem dX10_boiling_28 : decode cX10_boiling 28 = .ok (.iinc 2 1, 3) := by decide +kernel
theorem dX10_boiling_31 : decode cX10_boiling 31 = .ok (.goto (-27), 3) := by decide +kernel
theorem dX10_boiling_34 : decode cX10_boiling 34 = .ok (.iload_n 1, 1) := by decide +kernel
theorem dX10_boiling_35 : decode cX10_boiling 35 = .ok (.ireturn, 1) := by decide +kernel
set_option maxRecDepth 20000 in
theorem ggX10_howMany_X10_boiling : GoodIn wsX10_howMany wsX10_boiling := goodIn_r _ [15, 1, 16, 17, 18, 14, 19, 20, 21, 22, 23, 24, 25, 26, 27, 28, 29, 30, 31, 32, 33, 34, 35, 36, 37, 38, 39, 40, 41, 42, 43, 44, 45, 46, 47, 48, 49, 50, 51, 52, 53, 54, 55, 56, 57, 58, 59] (by decide +kernel) (by decide +kernel)
set_option maxRecDepth 20000 in
theorem gX10_howMany_X10_boiling : GoodIn wsX10_howMany (wsV RX10 222 RX10 yX10_boiling wsX10_boiling) := goodIn_app (goodIn_of _ (by decide +kernel)) ggX10_howMany_X10_boiling
theorem dX10_howMany_0 : decode cX10_howMany 0 = .ok (.iload_n 1, 1) := by decide +kernel
theorem dX10_howMany_1 : decode cX10_howMany 1 = .ok (.tableswitch 114 0 10 #[59, 64, 69, 74, 79, 84, 89, 94, 99, 104, 109], 59) := by decide +kernel
theorem dX10_howMany_60 : decode cX10_howMany 60 = .ok (.aload_n 0, 1) := by decide +kernel
theorem dX10_howMany_61 : decode cX10_howMany 61 = .ok (.getfield 101, 3) := by decide +kernel
theorem dX10_howMany_64 : decode cX10_howMany 64 = .ok (.ireturn, 1) := by decide +kernel
theorem dX10_howMany_65 : decode cX10_howMany 65 = .ok (.aload_n 0, 1) := by decide +kernel
theorem dX10_howMany_66 : decode cX10_howMany 66 = .ok (.getfield 107, 3) := by decide +kernel
theorem dX10_howMany_69 : decode cX10_howMany 69 = .ok (.ireturn, 1) := by decide +kernel
theorem dX10_howMany_70 : decode cX10_howMany 70 = .ok (.aload_n 0, 1) := by decide +kernel
theorem dX10_howMany_71 : decode cX10_howMany 71 = .ok (.getfield 110, 3) := by decide +kernel
theorem dX10_howMany_74 : decode cX10_howMany 74 = .ok (.ireturn, 1) := by decide +kernel
theorem dX10_howMany_75 : decode cX10_howMany 75 = .ok (.aload_n 0, 1) := by decide +kernel
theorem dX10_howMany_76 : decode cX10_howMany 76 = .ok (.getfield 116, 3) := by decide +kernel
theorem dX10_howMany_79 : decode cX10_howMany 79 = .ok (.ireturn, 1) := by decide +kernel
theorem dX10_howMany_80 : decode cX10_howMany 80 = .ok (.aload_n 0, 1) := by decide +kernel
theorem dX10_howMany_81 : decode cX10_howMany 81 = .ok (.invokevirtual 222, 3) := by decide +kernel
theorem dX10_howMany_84 : decode cX10_howMany 84 = .ok (.ireturn, 1) := by decide +kernel
theorem dX10_howMany_85 : decode cX10_howMany 85 = .ok (.aload_n 0, 1) := by decide +kernel
theorem dX10_howMany_86 : decode cX10_howMany 86 = .ok (.getfield 119, 3) := by decide +kernel
theorem dX10_howMany_89 : decode cX10_howMany 89 = .ok (.ireturn, 1) := by decide +kernel
theorem dX10_howMany_90 : decode cX10_howMany 90 = .ok (.aload_n 0, 1) := by decide +kernel
theorem dX10_howMany_91 : decode cX10_howMany 91 = .ok (.getfield 122, 3) := by decide +kernel
theorem dX10_howMany_94 : decode cX10_howMany 94 = .ok (.ireturn, 1) := by decide +kernel
theorem dX10_howMany_95 : decode cX10_howMany 95 = .ok (.aload_n 0, 1) := by decide +kernel
theorem dX10_howMany_96 : decode cX10_howMany 96 = .ok (.getfield 125, 3) := by decide +kernel
theorem dX10_howMany_99 : decode cX10_howMany 99 = .ok (.ireturn, 1) := by decide +kernel
theorem dX10_howMany_100 : decode cX10_howMany 100 = .ok (.aload_n 0, 1) := by decide +kernel
theorem dX10_howMany_101 : decode cX10_howMany 101 = .ok (.getfield 72, 3) := by decide +kernel
theorem dX10_howMany_104 : decode cX10_howMany 104 = .ok (.ireturn, 1) := by decide +kernel
theorem dX10_howMany_105 : decode cX10_howMany 105 = .ok (.aload_n 0, 1) := by decide +kernel
theorem dX10_howMany_106 : decode cX10_howMany 106 = .ok (.getfield 113, 3) := by decide +kernel
theorem dX10_howMany_109 : decode cX10_howMany 109 = .ok (.ireturn, 1) := by decide +kernel
theorem dX10_howMany_110 : decode cX10_howMany 110 = .ok (.aload_n 0, 1) := by decide +kernel
theorem dX10_howMany_111 : decode cX10_howMany 111 = .ok (.getfield 165, 3) := by decide +kernel
theorem dX10_howMany_114 : decode cX10_howMany 114 = .ok (.ireturn, 1) := by decide +kernel
theorem dX10_howMany_115 : decode cX10_howMany 115 = .ok (.bipush (-102), 2) := by decide +kernel
theorem dX10_howMany_117 : decode cX10_howMany 117 = .ok (.ireturn, 1) := by decide +kernel
set_option maxRecDepth 20000 in
theorem ggX10_count_X10_howMany : GoodIn wsX10_count wsX10_howMany := goodIn_r _ [5, 6, 7, 8, 9, 10, 11, 12, 13, 14, 15, 16, 17, 18, 4, 19, 20, 21, 22, 23, 24, 25, 26, 27, 28, 29, 30, 31, 32, 33, 34, 35, 36, 37, 38, 39, 40, 41, 42, 43, 44, 45, 46, 47, 48, 49, 50, 51, 52, 53, 54, 55, 56, 57, 58, 59, 60, 61, 62, 63] (by decide +kernel) (by decide +kernel)
set_option maxRecDepth 20000 in
theorem gX10_count_X10_howMany : GoodIn wsX10_count (wsV RX10 225 RX10 yX10_howMany wsX10_howMany) := goodIn_app (goodIn_of _ (by decide +kernel)) ggX10_count_X10_howMany
theorem dX10_count_0 : decode cX10_count 0 = .ok (.aload_n 0, 1) := by decide +kernel
theorem dX10_count_1 : decode cX10_count 1 = .ok (.iload_n 1, 1) := by decide +kernel
theorem dX10_count_2 : decode cX10_count 2 = .ok (.invokevirtual 225, 3) := by decide +kernel
theorem dX10_count_5 : decode cX10_count 5 = .ok (.ireturn, 1) := by decide +kernel
theorem dX10_mix_0 : decode cX10_mix 0 = .ok (.aload_n 0, 1) := by decide +kernel
theorem dX10_mix_1 : decode cX10_mix 1 = .ok (.ldc2_w 228, 3) := by decide +kernel
theorem dX10_mix_4 : decode cX10_mix 4 = .ok (.aload_n 0, 1) := by decide +kernel
theorem dX10_mix_5 : decode cX10_mix 5 = .ok (.getfield 230, 3) := by decide +kernel
theorem dX10_mix_8 : decode cX10_mix 8 = .ok (.lmul, 1) := by decide +kernel
theorem dX10_mix_9 : decode cX10_mix 9 = .ok (.lload_n 1, 1) := by decide +kernel
theorem dX10_mix_10 : decode cX10_mix 10 = .ok (.ladd, 1) := by decide +kernel
theorem dX10_mix_11 : decode cX10_mix 11 = .ok (.putfield 230, 3) := by decide +kernel
theorem dX10_mix_14 : decode cX10_mix 14 = .ok (.return_, 1) := by decide +kernel
set_option maxRecDepth 20000 in
theorem ggX10_digest_X10_potNow : GoodIn wsX10_digest wsX10_potNow := goodIn_r _ [10, 11, 12, 13, 14, 15, 16, 17, 18, 19, 9, 20, 21, 22, 23, 24, 25, 26, 27, 28, 29, 30, 31, 32, 33, 34, 35, 80, 81, 82, 83, 84, 85, 86, 87, 88, 89, 90, 91, 92, 93, 94, 95, 96, 97, 98, 99, 100, 101, 102, 103, 104, 105, 106, 107, 108, 109, 110, 111, 112, 113, 114, 115, 116, 117, 118] (by decide +kernel) (by decide +kernel)
set_option maxRecDepth 20000 in
theorem gX10_digest_X10_potNow : GoodIn wsX10_digest (wsV RX10 148 RX10 yX10_potNow wsX10_potNow) := goodIn_app (goodIn_of _ (by decide +kernel)) ggX10_digest_X10_potNow
set_option maxRecDepth 20000 in
theorem ggX10_digest_X10_mix : GoodIn wsX10_digest wsX10_mix := goodIn_r _ [39, 40, 2, 80, 81, 82, 83, 84, 85, 86, 87, 88, 89, 90, 91, 92, 93, 94, 95, 96, 97, 98, 99, 100, 101, 102, 103, 104, 105, 106, 107, 108, 109, 110, 111, 112, 113, 114, 115, 116, 117, 118] (by decide +kernel) (by decide +kernel)
set_option maxRecDepth 20000 in
theorem gX10_digest_X10_mix : GoodIn wsX10_digest (wsV RX10 235 RX10 yX10_mix wsX10_mix) := goodIn_app (goodIn_of _ (by decide +kernel)) ggX10_digest_X10_mix
set_option maxRecDepth 20000 in
theorem ggX10_digest_X10_boils : GoodIn wsX10_digest wsX10_boils := goodIn_r _ [24, 13, 80, 81, 82, 83, 84, 85, 86, 87, 88, 89, 90, 91, 92, 93, 94, 95, 96, 97, 98, 99, 100, 101, 102, 103, 104, 105, 106, 107, 108, 109, 110, 111, 112, 113, 114, 115, 116, 117, 118] (by decide +kernel) (by decide +kernel)
set_option maxRecDepth 20000 in
theorem gX10_digest_X10_boils : GoodIn wsX10_digest (wsV RX10 138 RX10 yX10_boils wsX10_boils) := goodIn_app (goodIn_of _ (by decide +kernel)) ggX10_digest_X10_boils
set_option maxRecDepth 20000 in
theorem ggX10_digest_X10_bestNow : GoodIn wsX10_digest wsX10_bestNow := goodIn_r _ [44, 45, 46, 47, 48, 9, 49, 14, 29, 30, 31, 32, 25, 26, 27, 28, 13, 12, 17, 18, 19, 20, 11, 33, 34, 35, 80, 81, 82, 83, 84, 85, 86, 87, 88, 89, 90, 91, 92, 93, 94, 95, 96, 97, 98, 99, 100, 101, 102, 103, 104, 105, 106, 107, 108, 109, 110, 111, 112, 113, 114, 115, 116, 117, 118] (by decide +kernel) (by decide +kernel)
set_option maxRecDepth 20000 in
theorem gX10_digest_X10_bestNow : GoodIn wsX10_digest (wsV RX10 174 RX10 yX10_bestNow wsX10_bestNow) := goodIn_app (goodIn_of _ (by decide +kernel)) ggX10_digest_X10_bestNow
set_option maxRecDepth 20000 in
theorem ggX10_digest_X10_togetherNow : GoodIn wsX10_digest wsX10_togetherNow := goodIn_r _ [53, 12, 14, 80, 81, 82, 83, 84, 85, 86, 87, 88, 89, 90, 91, 92, 93, 94, 95, 96, 97, 98, 99, 100, 101, 102, 103, 104, 105, 106, 107, 108, 109, 110, 111, 112, 113, 114, 115, 116, 117, 118] (by decide +kernel) (by decide +kernel)
set_option maxRecDepth 20000 in
theorem gX10_digest_X10_togetherNow : GoodIn wsX10_digest (wsV RX10 177 RX10 yX10_togetherNow wsX10_togetherNow) := goodIn_app (goodIn_of _ (by decide +kernel)) ggX10_digest_X10_togetherNow
set_option maxRecDepth 20000 in
theorem ggX10_digest_X10_woundNow : GoodIn wsX10_digest wsX10_woundNow := goodIn_r _ [57, 45, 58, 59, 60, 9, 61, 62, 63, 64, 65, 66, 33, 34, 35, 80, 81, 82, 83, 84, 85, 86, 87, 88, 89, 90, 91, 92, 93, 94, 95, 96, 97, 98, 99, 100, 101, 102, 103, 104, 105, 106, 107, 108, 109, 110, 111, 112, 113, 114, 115, 116, 117, 118] (by decide +kernel) (by decide +kernel)
set_option maxRecDepth 20000 in
theorem gX10_digest_X10_woundNow : GoodIn wsX10_digest (wsV RX10 183 RX10 yX10_woundNow wsX10_woundNow) := goodIn_app (goodIn_of _ (by decide +kernel)) ggX10_digest_X10_woundNow
set_option maxRecDepth 20000 in
theorem ggX10_digest_X10_howMany : GoodIn wsX10_digest wsX10_howMany := goodIn_r _ [70, 3, 45, 71, 14, 72, 73, 62, 4, 74, 75, 76, 77, 78, 9, 79, 21, 22, 23, 24, 13, 80, 81, 82, 83, 84, 85, 86, 87, 88, 89, 90, 91, 92, 93, 94, 95, 96, 97, 98, 99, 100, 101, 102, 103, 104, 105, 106, 107, 108, 109, 110, 111, 112, 113, 114, 115, 116, 117, 118] (by decide +kernel) (by decide +kernel)
set_option maxRecDepth 20000 in
theorem gX10_digest_X10_howMany : GoodIn wsX10_digest (wsV RX10 225 RX10 yX10_howMany wsX10_howMany) := goodIn_app (goodIn_of _ (by decide +kernel)) ggX10_digest_X10_howMany
theorem dX10_digest_0 : decode cX10_digest 0 = .ok (.aload_n 0, 1) := by decide +kernel
theorem dX10_digest_1 : decode cX10_digest 1 = .ok (.ldc2_w 233, 3) := by decide +kernel
theorem dX10_digest_4 : decode cX10_digest 4 = .ok (.putfield 230, 3) := by decide +kernel
theorem dX10_digest_7 : decode cX10_digest 7 = .ok (.iconst 0, 1) := by decide +kernel
theorem dX10_digest_8 : decode cX10_digest 8 = .ok (.istore_n 1, 1) := by decide +kernel
theorem dX10_digest_9 : decode cX10_digest 9 = .ok (.iload_n 1, 1) := by decide +kernel
theorem dX10_digest_10 : decode cX10_digest 10 = .ok (.aload_n 0, 1) := by decide +kernel
theorem dX10_digest_11 : decode cX10_digest 11 = .ok (.getfield 101, 3) := by decide +kernel
theorem dX10_digest_14 : decode cX10_digest 14 = .ok (.if_icmp .ge 68, 3) := by decide +kernel
theorem dX10_digest_17 : decode cX10_digest 17 = .ok (.iconst 0, 1) := by decide +kernel
theorem dX10_digest_18 : decode cX10_digest 18 = .ok (.istore_n 2, 1) := by decide +kernel
theorem dX10_digest_19 : decode cX10_digest 19 = .ok (.iload_n 2, 1) := by decide +kernel
theorem dX10_digest_20 : decode cX10_digest 20 = .ok (.bipush 8, 2) := by decide +kernel
theorem dX10_digest_22 : decode cX10_digest 22 = .ok (.if_icmp .ge 20, 3) := by decide +kernel
theorem dX10_digest_25 : decode cX10_digest 25 = .ok (.aload_n 0, 1) := by decide +kernel
theorem dX10_digest_26 : decode cX10_digest 26 = .ok (.aload_n 0, 1) := by decide +kernel
theorem dX10_digest_27 : decode cX10_digest 27 = .ok (.iload_n 1, 1) := by decide +kernel
end
section
theorem dX10_digest_28 : decode cX10_digest 28 = .ok (.iload_n 2, 1) := by decide +kernel
theorem dX10_digest_29 : decode cX10_digest 29 = .ok (.invokevirtual 148, 3) := by decide +kernel
theorem dX10_digest_32 : decode cX10_digest 32 = .ok (.i2l, 1) := by decide +kernel
theorem dX10_digest_33 : decode cX10_digest 33 = .ok (.invokevirtual 235, 3) := by decide +kernel
theorem dX10_digest_36 : decode cX10_digest 36 = .ok (.iinc 2 1, 3) := by decide +kernel
theorem dX10_digest_39 : decode cX10_digest 39 = .ok (.goto (-20), 3) := by decide +kernel
theorem dX10_digest_42 : decode cX10_digest 42 = .ok (.aload_n 0, 1) := by decide +kernel
theorem dX10_digest_43 : decode cX10_digest 43 = .ok (.aload_n 0, 1) := by decide +kernel
theorem dX10_digest_44 : decode cX10_digest 44 = .ok (.iload_n 1, 1) := by decide +kernel
theorem dX10_digest_45 : decode cX10_digest 45 = .ok (.invokevirtual 138, 3) := by decide +kernel
theorem dX10_digest_48 : decode cX10_digest 48 = .ok (.ifCond .eq 12, 3) := by decide +kernel
theorem dX10_digest_51 : decode cX10_digest 51 = .ok (.aload_n 0, 1) := by decide +kernel
theorem dX10_digest_52 : decode cX10_digest 52 = .ok (.iload_n 1, 1) := by decide +kernel
theorem dX10_digest_53 : decode cX10_digest 53 = .ok (.invokevirtual 174, 3) := by decide +kernel
theorem dX10_digest_56 : decode cX10_digest 56 = .ok (.i2l, 1) := by decide +kernel
theorem dX10_digest_57 : decode cX10_digest 57 = .ok (.goto 4, 3) := by decide +kernel
theorem dX10_digest_60 : decode cX10_digest 60 = .ok (.lconst 0, 1) := by decide +kernel
theorem dX10_digest_61 : decode cX10_digest 61 = .ok (.invokevirtual 235, 3) := by decide +kernel
theorem dX10_digest_64 : decode cX10_digest 64 = .ok (.aload_n 0, 1) := by decide +kernel
theorem dX10_digest_65 : decode cX10_digest 65 = .ok (.aload_n 0, 1) := by decide +kernel
theorem dX10_digest_66 : decode cX10_digest 66 = .ok (.iload_n 1, 1) := by decide +kernel
theorem dX10_digest_67 : decode cX10_digest 67 = .ok (.bipush 60, 2) := by decide +kernel
theorem dX10_digest_69 : decode cX10_digest 69 = .ok (.invokevirtual 177, 3) := by decide +kernel
theorem dX10_digest_72 : decode cX10_digest 72 = .ok (.i2l, 1) := by decide +kernel
theorem dX10_digest_73 : decode cX10_digest 73 = .ok (.invokevirtual 235, 3) := by decide +kernel
theorem dX10_digest_76 : decode cX10_digest 76 = .ok (.iinc 1 1, 3) := by decide +kernel
theorem dX10_digest_79 : decode cX10_digest 79 = .ok (.goto (-70), 3) := by decide +kernel
theorem dX10_digest_82 : decode cX10_digest 82 = .ok (.aload_n 0, 1) := by decide +kernel
theorem dX10_digest_83 : decode cX10_digest 83 = .ok (.getfield 101, 3) := by decide +kernel
theorem dX10_digest_86 : decode cX10_digest 86 = .ok (.ifCond .le 23, 3) := by decide +kernel
theorem dX10_digest_89 : decode cX10_digest 89 = .ok (.aload_n 0, 1) := by decide +kernel
theorem dX10_digest_90 : decode cX10_digest 90 = .ok (.aload_n 0, 1) := by decide +kernel
theorem dX10_digest_91 : decode cX10_digest 91 = .ok (.iconst 0, 1) := by decide +kernel
theorem dX10_digest_92 : decode cX10_digest 92 = .ok (.invokevirtual 183, 3) := by decide +kernel
theorem dX10_digest_95 : decode cX10_digest 95 = .ok (.i2l, 1) := by decide +kernel
theorem dX10_digest_96 : decode cX10_digest 96 = .ok (.invokevirtual 235, 3) := by decide +kernel
theorem dX10_digest_99 : decode cX10_digest 99 = .ok (.aload_n 0, 1) := by decide +kernel
theorem dX10_digest_100 : decode cX10_digest 100 = .ok (.aload_n 0, 1) := by decide +kernel
theorem dX10_digest_101 : decode cX10_digest 101 = .ok (.iconst 1, 1) := by decide +kernel
theorem dX10_digest_102 : decode cX10_digest 102 = .ok (.invokevirtual 183, 3) := by decide +kernel
theorem dX10_digest_105 : decode cX10_digest 105 = .ok (.i2l, 1) := by decide +kernel
theorem dX10_digest_106 : decode cX10_digest 106 = .ok (.invokevirtual 235, 3) := by decide +kernel
theorem dX10_digest_109 : decode cX10_digest 109 = .ok (.iconst 0, 1) := by decide +kernel
theorem dX10_digest_110 : decode cX10_digest 110 = .ok (.istore_n 1, 1) := by decide +kernel
theorem dX10_digest_111 : decode cX10_digest 111 = .ok (.iload_n 1, 1) := by decide +kernel
theorem dX10_digest_112 : decode cX10_digest 112 = .ok (.aload_n 0, 1) := by decide +kernel
theorem dX10_digest_113 : decode cX10_digest 113 = .ok (.getfield 72, 3) := by decide +kernel
theorem dX10_digest_116 : decode cX10_digest 116 = .ok (.if_icmp .ge 20, 3) := by decide +kernel
theorem dX10_digest_119 : decode cX10_digest 119 = .ok (.aload_n 0, 1) := by decide +kernel
theorem dX10_digest_120 : decode cX10_digest 120 = .ok (.aload_n 0, 1) := by decide +kernel
theorem dX10_digest_121 : decode cX10_digest 121 = .ok (.getfield 37, 3) := by decide +kernel
theorem dX10_digest_124 : decode cX10_digest 124 = .ok (.iload_n 1, 1) := by decide +kernel
theorem dX10_digest_125 : decode cX10_digest 125 = .ok (.baload, 1) := by decide +kernel
theorem dX10_digest_126 : decode cX10_digest 126 = .ok (.i2l, 1) := by decide +kernel
theorem dX10_digest_127 : decode cX10_digest 127 = .ok (.invokevirtual 235, 3) := by decide +kernel
theorem dX10_digest_130 : decode cX10_digest 130 = .ok (.iinc 1 1, 3) := by decide +kernel
theorem dX10_digest_133 : decode cX10_digest 133 = .ok (.goto (-22), 3) := by decide +kernel
theorem dX10_digest_136 : decode cX10_digest 136 = .ok (.iconst 0, 1) := by decide +kernel
theorem dX10_digest_137 : decode cX10_digest 137 = .ok (.istore_n 1, 1) := by decide +kernel
theorem dX10_digest_138 : decode cX10_digest 138 = .ok (.iload_n 1, 1) := by decide +kernel
theorem dX10_digest_139 : decode cX10_digest 139 = .ok (.bipush 11, 2) := by decide +kernel
theorem dX10_digest_141 : decode cX10_digest 141 = .ok (.if_icmp .ge 19, 3) := by decide +kernel
theorem dX10_digest_144 : decode cX10_digest 144 = .ok (.aload_n 0, 1) := by decide +kernel
theorem dX10_digest_145 : decode cX10_digest 145 = .ok (.aload_n 0, 1) := by decide +kernel
theorem dX10_digest_146 : decode cX10_digest 146 = .ok (.iload_n 1, 1) := by decide +kernel
theorem dX10_digest_147 : decode cX10_digest 147 = .ok (.invokevirtual 225, 3) := by decide +kernel
theorem dX10_digest_150 : decode cX10_digest 150 = .ok (.i2l, 1) := by decide +kernel
theorem dX10_digest_151 : decode cX10_digest 151 = .ok (.invokevirtual 235, 3) := by decide +kernel
theorem dX10_digest_154 : decode cX10_digest 154 = .ok (.iinc 1 1, 3) := by decide +kernel
theorem dX10_digest_157 : decode cX10_digest 157 = .ok (.goto (-19), 3) := by decide +kernel
theorem dX10_digest_160 : decode cX10_digest 160 = .ok (.aload_n 0, 1) := by decide +kernel
theorem dX10_digest_161 : decode cX10_digest 161 = .ok (.getfield 230, 3) := by decide +kernel
theorem dX10_digest_164 : decode cX10_digest 164 = .ok (.lreturn, 1) := by decide +kernel
theorem dJ6_bitCount_0f7a4_0 : decode cJ6_bitCount_0f7a4 0 = .ok (.iload_n 0, 1) := by decide +kernel
theorem dJ6_bitCount_0f7a4_1 : decode cJ6_bitCount_0f7a4 1 = .ok (.iload_n 0, 1) := by decide +kernel
theorem dJ6_bitCount_0f7a4_2 : decode cJ6_bitCount_0f7a4 2 = .ok (.iconst 1, 1) := by decide +kernel
theorem dJ6_bitCount_0f7a4_3 : decode cJ6_bitCount_0f7a4 3 = .ok (.iushr, 1) := by decide +kernel
theorem dJ6_bitCount_0f7a4_4 : decode cJ6_bitCount_0f7a4 4 = .ok (.ldc_w 265, 3) := by decide +kernel
theorem dJ6_bitCount_0f7a4_7 : decode cJ6_bitCount_0f7a4 7 = .ok (.iand, 1) := by decide +kernel
theorem dJ6_bitCount_0f7a4_8 : decode cJ6_bitCount_0f7a4 8 = .ok (.isub, 1) := by decide +kernel
theorem dJ6_bitCount_0f7a4_9 : decode cJ6_bitCount_0f7a4 9 = .ok (.istore_n 0, 1) := by decide +kernel
theorem dJ6_bitCount_0f7a4_10 : decode cJ6_bitCount_0f7a4 10 = .ok (.iload_n 0, 1) := by decide +kernel
theorem dJ6_bitCount_0f7a4_11 : decode cJ6_bitCount_0f7a4 11 = .ok (.ldc_w 266, 3) := by decide +kernel
theorem dJ6_bitCount_0f7a4_14 : decode cJ6_bitCount_0f7a4 14 = .ok (.iand, 1) := by decide +kernel
theorem dJ6_bitCount_0f7a4_15 : decode cJ6_bitCount_0f7a4 15 = .ok (.iload_n 0, 1) := by decide +kernel
theorem dJ6_bitCount_0f7a4_16 : decode cJ6_bitCount_0f7a4 16 = .ok (.iconst 2, 1) := by decide +kernel
theorem dJ6_bitCount_0f7a4_17 : decode cJ6_bitCount_0f7a4 17 = .ok (.iushr, 1) := by decide +kernel
theorem dJ6_bitCount_0f7a4_18 : decode cJ6_bitCount_0f7a4 18 = .ok (.ldc_w 266, 3) := by decide +kernel
theorem dJ6_bitCount_0f7a4_21 : decode cJ6_bitCount_0f7a4 21 = .ok (.iand, 1) := by decide +kernel
theorem dJ6_bitCount_0f7a4_22 : decode cJ6_bitCount_0f7a4 22 = .ok (.iadd, 1) := by decide +kernel
theorem dJ6_bitCount_0f7a4_23 : decode cJ6_bitCount_0f7a4 23 = .ok (.istore_n 0, 1) := by decide +kernel
theorem dJ6_bitCount_0f7a4_24 : decode cJ6_bitCount_0f7a4 24 = .ok (.iload_n 0, 1) := by decide +kernel
theorem dJ6_bitCount_0f7a4_25 : decode cJ6_bitCount_0f7a4 25 = .ok (.iload_n 0, 1) := by decide +kernel
theorem dJ6_bitCount_0f7a4_26 : decode cJ6_bitCount_0f7a4 26 = .ok (.iconst 4, 1) := by decide +kernel
theorem dJ6_bitCount_0f7a4_27 : decode cJ6_bitCount_0f7a4 27 = .ok (.iushr, 1) := by decide +kernel
theorem dJ6_bitCount_0f7a4_28 : decode cJ6_bitCount_0f7a4 28 = .ok (.iadd, 1) := by decide +kernel
theorem dJ6_bitCount_0f7a4_29 : decode cJ6_bitCount_0f7a4 29 = .ok (.ldc_w 267, 3) := by decide +kernel
theorem dJ6_bitCount_0f7a4_32 : decode cJ6_bitCount_0f7a4 32 = .ok (.iand, 1) := by decide +kernel
theorem dJ6_bitCount_0f7a4_33 : decode cJ6_bitCount_0f7a4 33 = .ok (.istore_n 0, 1) := by decide +kernel
theorem dJ6_bitCount_0f7a4_34 : decode cJ6_bitCount_0f7a4 34 = .ok (.iload_n 0, 1) := by decide +kernel
theorem dJ6_bitCount_0f7a4_35 : decode cJ6_bitCount_0f7a4 35 = .ok (.iload_n 0, 1) := by decide +kernel
theorem dJ6_bitCount_0f7a4_36 : decode cJ6_bitCount_0f7a4 36 = .ok (.bipush 8, 2) := by decide +kernel
theorem dJ6_bitCount_0f7a4_38 : decode cJ6_bitCount_0f7a4 38 = .ok (.iushr, 1) := by decide +kernel
theorem dJ6_bitCount_0f7a4_39 : decode cJ6_bitCount_0f7a4 39 = .ok (.iadd, 1) := by decide +kernel
theorem dJ6_bitCount_0f7a4_40 : decode cJ6_bitCount_0f7a4 40 = .ok (.istore_n 0, 1) := by decide +kernel
theorem dJ6_bitCount_0f7a4_41 : decode cJ6_bitCount_0f7a4 41 = .ok (.iload_n 0, 1) := by decide +kernel
theorem dJ6_bitCount_0f7a4_42 : decode cJ6_bitCount_0f7a4 42 = .ok (.iload_n 0, 1) := by decide +kernel
theorem dJ6_bitCount_0f7a4_43 : decode cJ6_bitCount_0f7a4 43 = .ok (.bipush 16, 2) := by decide +kernel
theorem dJ6_bitCount_0f7a4_45 : decode cJ6_bitCount_0f7a4 45 = .ok (.iushr, 1) := by decide +kernel
theorem dJ6_bitCount_0f7a4_46 : decode cJ6_bitCount_0f7a4 46 = .ok (.iadd, 1) := by decide +kernel
theorem dJ6_bitCount_0f7a4_47 : decode cJ6_bitCount_0f7a4 47 = .ok (.istore_n 0, 1) := by decide +kernel
theorem dJ6_bitCount_0f7a4_48 : decode cJ6_bitCount_0f7a4 48 = .ok (.iload_n 0, 1) := by decide +kernel
theorem dJ6_bitCount_0f7a4_49 : decode cJ6_bitCount_0f7a4 49 = .ok (.bipush 63, 2) := by decide +kernel
theorem dJ6_bitCount_0f7a4_51 : decode cJ6_bitCount_0f7a4 51 = .ok (.iand, 1) := by decide +kernel
theorem dJ6_bitCount_0f7a4_52 : decode cJ6_bitCount_0f7a4 52 = .ok (.ireturn, 1) := by decide +kernel
theorem dJ9_max_7cf53_0 : decode cJ9_max_7cf53 0 = .ok (.iload_n 0, 1) := by decide +kernel
theorem dJ9_max_7cf53_1 : decode cJ9_max_7cf53 1 = .ok (.iload_n 1, 1) := by decide +kernel
theorem dJ9_max_7cf53_2 : decode cJ9_max_7cf53 2 = .ok (.if_icmp .lt 7, 3) := by decide +kernel
theorem dJ9_max_7cf53_5 : decode cJ9_max_7cf53 5 = .ok (.iload_n 0, 1) := by decide +kernel
theorem dJ9_max_7cf53_6 : decode cJ9_max_7cf53 6 = .ok (.goto 4, 3) := by decide +kernel
theorem dJ9_max_7cf53_9 : decode cJ9_max_7cf53 9 = .ok (.iload_n 1, 1) := by decide +kernel
theorem dJ9_max_7cf53_10 : decode cJ9_max_7cf53 10 = .ok (.ireturn, 1) := by decide +kernel
theorem dJ9_min_7cf53_0 : decode cJ9_min_7cf53 0 = .ok (.iload_n 0, 1) := by decide +kernel
theorem dJ9_min_7cf53_1 : decode cJ9_min_7cf53 1 = .ok (.iload_n 1, 1) := by decide +kernel
theorem dJ9_min_7cf53_2 : decode cJ9_min_7cf53 2 = .ok (.if_icmp .gt 7, 3) := by decide +kernel
theorem dJ9_min_7cf53_5 : decode cJ9_min_7cf53 5 = .ok (.iload_n 0, 1) := by decide +kernel
theorem dJ9_min_7cf53_6 : decode cJ9_min_7cf53 6 = .ok (.goto 4, 3) := by decide +kernel
theorem dJ9_min_7cf53_9 : decode cJ9_min_7cf53 9 = .ok (.iload_n 1, 1) := by decide +kernel
theorem dJ9_min_7cf53_10 : decode cJ9_min_7cf53 10 = .ok (.ireturn, 1) := by decide +kernel
set_option maxRecDepth 20000 in
theorem ggL_law_X9_init : GoodIn wsL_law wsX9_init := goodIn_r _ [8, 9, 10, 11, 12, 13, 14, 15, 16, 17, 18, 19, 20, 21, 22, 23, 24, 25, 26, 27, 28, 29, 30, 31, 32, 33, 34, 35, 36, 37, 38, 39, 40, 41, 42, 43, 44, 45, 46, 47, 48, 49, 50, 51, 819, 820, 762, 763, 764, 765, 766, 767, 768, 769, 770, 771, 772, 773, 774, 775, 776, 777, 778, 779, 821, 822, 823, 824, 825, 826, 827, 828, 829, 830, 831, 832, 833, 834] (by decide +kernel) (by decide +kernel)
set_option maxRecDepth 20000 in
theorem gL_law_X9_init : GoodIn wsL_law (wsX9_init) := ggL_law_X9_init
set_option maxRecDepth 20000 in
theorem ggL_law_X10_init : GoodIn wsL_law wsX10_init := goodIn_r _ [54, 55, 10, 11, 34, 56, 57, 58, 59, 60, 61, 62, 63, 64, 65, 66, 67, 68, 69, 70, 71, 72, 73, 74, 75, 780, 781, 782, 783, 784, 785, 786, 787, 788, 789, 790, 791, 792, 793, 794, 795, 796, 797, 798, 799, 800, 801, 802, 803, 804, 805, 806, 807, 808, 809, 810, 811, 812, 813, 814, 815, 816, 817, 818] (by decide +kernel) (by decide +kernel)
set_option maxRecDepth 20000 in
theorem gL_law_X10_init : GoodIn wsL_law (wsX10_init) := ggL_law_X10_init
set_option maxRecDepth 20000 in
theorem ggL_law_X9_letter : GoodIn wsL_law wsX9_letter := goodIn_r _ [79, 15, 80, 81, 82, 83, 14, 84, 85, 35, 762, 763, 764, 765, 766, 767, 768, 769, 770, 771, 772, 773, 774, 775, 776, 777, 778, 779, 819, 820] (by decide +kernel) (by decide +kernel)
set_option maxRecDepth 20000 in
theorem gL_law_X9_letter : GoodIn wsL_law (wsV RL 13 RX9 yX9_letter wsX9_letter) := goodIn_app (goodIn_of _ (by decide +kernel)) ggL_law_X9_letter
set_option maxRecDepth 20000 in
theorem ggL_law_X10_letter : GoodIn wsL_law wsX10_letter := goodIn_r _ [89, 90, 66, 91, 92, 5, 93, 780, 781, 782, 783, 784, 785, 786, 787, 788, 789, 790, 791, 792, 793, 794, 795, 796, 797, 798, 799, 800, 801, 802, 803, 804, 805, 806, 807, 808, 809, 810, 811, 812, 813, 814, 815, 816, 817, 818] (by decide +kernel) (by decide +kernel)
set_option maxRecDepth 20000 in
theorem gL_law_X10_letter : GoodIn wsL_law (wsV RL 17 RX10 yX10_letter wsX10_letter) := goodIn_app (goodIn_of _ (by decide +kernel)) ggL_law_X10_letter
set_option maxRecDepth 20000 in
theorem ggL_law_X9_blank : GoodIn wsL_law wsX9_blank := goodIn_r _ [97, 15, 80, 762, 763, 764, 765, 766, 767, 768, 769, 770, 771, 772, 773, 774, 775, 776, 777, 778, 779, 819, 820] (by decide +kernel) (by decide +kernel)
set_option maxRecDepth 20000 in
theorem gL_law_X9_blank : GoodIn wsL_law (wsV RL 18 RX9 yX9_blank wsX9_blank) := goodIn_app (goodIn_of _ (by decide +kernel)) ggL_law_X9_blank
set_option maxRecDepth 20000 in
theorem ggL_law_X10_blank : GoodIn wsL_law wsX10_blank := goodIn_r _ [101, 90, 780, 781, 782, 783, 784, 785, 786, 787, 788, 789, 790, 791, 792, 793, 794, 795, 796, 797, 798, 799, 800, 801, 802, 803, 804, 805, 806, 807, 808, 809, 810, 811, 812, 813, 814, 815, 816, 817, 818] (by decide +kernel) (by decide +kernel)
set_option maxRecDepth 20000 in
theorem gL_law_X10_blank : GoodIn wsL_law (wsV RL 22 RX10 yX10_blank wsX10_blank) := goodIn_app (goodIn_of _ (by decide +kernel)) ggL_law_X10_blank
set_option maxRecDepth 20000 in
theorem ggL_law_X9_fault : GoodIn wsL_law wsX9_fault := goodIn_r _ [105, 15, 106, 107, 108, 14, 109, 85, 110, 111, 112, 113, 114, 115, 116, 117, 35, 118, 119, 120, 121, 122, 123, 124, 125, 126, 127, 762, 763, 764, 765, 766, 767, 768, 769, 770, 771, 772, 773, 774, 775, 776, 777, 778, 779, 819, 820] (by decide +kernel) (by decide +kernel)
set_option maxRecDepth 20000 in
theorem gL_law_X9_fault : GoodIn wsL_law (wsV RL 23 RX9 yX9_fault wsX9_fault) := goodIn_app (goodIn_of _ (by decide +kernel)) ggL_law_X9_fault
set_option maxRecDepth 20000 in
theorem ggL_law_X10_fault : GoodIn wsL_law wsX10_fault := goodIn_r _ [131, 132, 133, 134, 5, 135, 136, 137, 90, 66, 138, 139, 140, 141, 142, 143, 144, 145, 146, 147, 148, 91, 92, 93, 149, 150, 151, 152, 780, 781, 782, 783, 784, 785, 786, 787, 788, 789, 790, 791, 792, 793, 794, 795, 796, 797, 798, 799, 800, 801, 802, 803, 804, 805, 806, 807, 808, 809, 810, 811, 812, 813, 814, 815, 816, 817, 818] (by decide +kernel) (by decide +kernel)
set_option maxRecDepth 20000 in
theorem gL_law_X10_fault : GoodIn wsL_law (wsV RL 26 RX10 yX10_fault wsX10_fault) := goodIn_app (goodIn_of _ (by decide +kernel)) ggL_law_X10_fault
set_option maxRecDepth 20000 in
theorem ggL_law_X9_kitchen : GoodIn wsL_law wsX9_kitchen := goodIn_r _ [156, 15, 157, 158, 80, 159, 160, 161, 162, 163, 14, 164, 85, 114, 115, 116, 117, 35, 165, 107, 108, 109, 110, 111, 112, 113, 118, 119, 120, 121, 122, 123, 124, 125, 126, 127, 166, 167, 168, 2, 169, 170, 171, 172, 173, 17, 174, 175, 176, 177, 178, 179, 180, 181, 182, 183, 184, 185, 186, 187, 188, 189, 190, 191, 192, 193, 194, 195, 196, 197, 198, 199, 200, 201, 202, 203, 204, 16, 205, 206, 207, 208, 209, 210, 211, 212, 213, 10, 11, 214, 215, 216, 217, 218, 219, 220, 221, 222, 223, 224, 225, 226, 227, 228, 229, 230, 231, 232, 233, 234, 235, 236, 237, 238, 239, 240, 241, 242, 243, 244, 245, 246, 21, 247, 248, 762, 763, 764, 765, 766, 767, 768, 769, 770, 771, 772, 773, 774, 775, 776, 777, 778, 779, 819, 820, 835, 836, 837, 838, 839, 840, 841, 842, 843, 844, 845, 846, 847, 848, 849, 850, 851, 852, 853, 854, 855, 856, 857, 858, 859, 860, 861, 862, 863, 864, 865, 866, 867, 868, 869, 821, 822, 823, 824] (by decide +kernel) (by decide +kernel)
set_option maxRecDepth 20000 in
theorem gL_law_X9_kitchen : GoodIn wsL_law (wsV RL 27 RX9 yX9_kitchen wsX9_kitchen) := goodIn_app (goodIn_of _ (by decide +kernel)) ggL_law_X9_kitchen
set_option maxRecDepth 20000 in
theorem ggL_law_X10_kitchen : GoodIn wsL_law wsX10_kitchen := goodIn_r _ [252, 136, 137, 253, 254, 66, 255, 56, 57, 58, 59, 60, 256, 257, 258, 259, 260, 90, 132, 133, 134, 5, 135, 138, 139, 140, 141, 142, 143, 144, 145, 146, 147, 148, 91, 92, 93, 149, 150, 151, 152, 261, 262, 263, 264, 780, 781, 782, 783, 784, 785, 786, 787, 788, 789, 790, 791, 792, 793, 794, 795, 796, 797, 798, 799, 800, 801, 802, 803, 804, 805, 806, 807, 808, 809, 810, 811, 812, 813, 814, 815, 816, 817, 818] (by decide +kernel) (by decide +kernel)
set_option maxRecDepth 20000 in
theorem gL_law_X10_kitchen : GoodIn wsL_law (wsV RL 30 RX10 yX10_kitchen wsX10_kitchen) := goodIn_app (goodIn_of _ (by decide +kernel)) ggL_law_X10_kitchen
set_option maxRecDepth 20000 in
theorem ggL_law_X9_about : GoodIn wsL_law wsX9_about := goodIn_r _ [268, 269, 270, 244, 271, 272, 273, 274, 275, 2, 276, 160, 17, 277, 278, 279, 280, 281, 204, 282, 283, 284, 285, 195, 286, 287, 288, 289, 206, 290, 291, 198, 292, 293, 294, 201, 295, 296, 297, 298, 299, 300, 301, 302, 303, 304, 305, 306, 307, 308, 309, 310, 311, 312, 313, 314, 315, 316, 317, 318, 319, 320, 321, 322, 214, 323, 324, 325, 326, 327, 328, 329, 330, 331, 332, 218, 333, 334, 335, 336, 337, 338, 339, 340, 341, 342, 343, 344, 345, 346, 347, 348, 349, 350, 351, 352, 353, 856, 857, 858, 859, 860, 861, 862, 835, 836, 837, 838, 839, 840, 841, 863, 864, 865, 866, 867, 868, 869, 842, 843, 844, 845, 846, 847, 848, 849, 850, 851, 852, 853, 854, 855, 762, 763, 764, 765, 766, 767, 768, 769, 770, 771, 772, 773, 774, 775, 776, 777, 778, 779] (by decide +kernel) (by decide +kernel)
set_option maxRecDepth 20000 in
theorem gL_law_X9_about : GoodIn wsL_law (wsV RL 31 RX9 yX9_about wsX9_about) := goodIn_app (goodIn_of _ (by decide +kernel)) ggL_law_X9_about
set_option maxRecDepth 20000 in
theorem ggL_law_X10_about : GoodIn wsL_law wsX10_about := goodIn_r _ [357, 358, 359, 360, 5, 361, 253, 91, 92, 93, 362, 363, 364, 365, 56, 57, 58, 257, 59, 60, 366, 367, 368, 369, 370, 371, 372, 373, 374, 375, 376, 377, 378, 379, 380, 381, 382, 383, 384, 780, 781, 782, 783, 784, 785, 786, 787, 788, 789, 790, 791, 792, 793, 794, 795, 796, 797, 798, 799, 800, 801, 802, 803, 804, 805, 806, 807, 808, 809, 810, 811, 812, 813, 814, 815, 816, 817, 818] (by decide +kernel) (by decide +kernel)
set_option maxRecDepth 20000 in
theorem gL_law_X10_about : GoodIn wsL_law (wsV RL 35 RX10 yX10_about wsX10_about) := goodIn_app (goodIn_of _ (by decide +kernel)) ggL_law_X10_about
set_option maxRecDepth 20000 in
theorem ggL_law_X9_as : GoodIn wsL_law wsX9_as := goodIn_r _ [388, 273, 274, 275, 2, 276, 160, 17, 389, 390, 391, 392, 393, 394, 395, 762, 763, 764, 765, 766, 767, 768, 769, 770, 771, 772, 773, 774, 775, 776, 777, 778, 779] (by decide +kernel) (by decide +kernel)
set_option maxRecDepth 20000 in
theorem gL_law_X9_as : GoodIn wsL_law (wsV RL 36 RX9 yX9_as wsX9_as) := goodIn_app (goodIn_of _ (by decide +kernel)) ggL_law_X9_as
set_option maxRecDepth 20000 in
theorem ggL_law_X10_as : GoodIn wsL_law wsX10_as := goodIn_r _ [399, 56, 358, 359, 360, 5, 361, 253, 91, 92, 93, 780, 781, 782, 783, 784, 785, 786, 787, 788, 789, 790, 791, 792, 793, 794, 795, 796, 797, 798, 799, 800, 801, 802, 803, 804, 805, 806, 807, 808, 809, 810, 811, 812, 813, 814, 815, 816, 817, 818] (by decide +kernel) (by decide +kernel)
set_option maxRecDepth 20000 in
theorem gL_law_X10_as : GoodIn wsL_law (wsV RL 39 RX10 yX10_as wsX10_as) := goodIn_app (goodIn_of _ (by decide +kernel)) ggL_law_X10_as
set_option maxRecDepth 20000 in
theorem ggL_law_X9_boil : GoodIn wsL_law wsX9_boil := goodIn_r _ [403, 244, 270, 273, 274, 275, 2, 276, 160, 17, 318, 319, 320, 321, 206, 322, 214, 323, 324, 325, 326, 327, 328, 329, 330, 331, 332, 218, 333, 334, 335, 336, 337, 762, 763, 764, 765, 766, 767, 768, 769, 770, 771, 772, 773, 774, 775, 776, 777, 778, 779, 856, 857, 858, 859, 860, 861, 862, 835, 836, 837, 838, 839, 840, 841, 863, 864, 865, 866, 867, 868, 869, 842, 843, 844, 845, 846, 847, 848, 849, 850, 851, 852, 853, 854, 855] (by decide +kernel) (by decide +kernel)
set_option maxRecDepth 20000 in
theorem gL_law_X9_boil : GoodIn wsL_law (wsV RL 40 RX9 yX9_boil wsX9_boil) := goodIn_app (goodIn_of _ (by decide +kernel)) ggL_law_X9_boil
set_option maxRecDepth 20000 in
theorem ggL_law_X10_boil : GoodIn wsL_law wsX10_boil := goodIn_r _ [407, 58, 257, 358, 359, 360, 5, 361, 253, 91, 92, 93, 370, 371, 372, 373, 374, 375, 376, 377, 57, 780, 781, 782, 783, 784, 785, 786, 787, 788, 789, 790, 791, 792, 793, 794, 795, 796, 797, 798, 799, 800, 801, 802, 803, 804, 805, 806, 807, 808, 809, 810, 811, 812, 813, 814, 815, 816, 817, 818] (by decide +kernel) (by decide +kernel)
set_option maxRecDepth 20000 in
theorem gL_law_X10_boil : GoodIn wsL_law (wsV RL 43 RX10 yX10_boil wsX10_boil) := goodIn_app (goodIn_of _ (by decide +kernel)) ggL_law_X10_boil
set_option maxRecDepth 20000 in
theorem ggL_law_X9_wind : GoodIn wsL_law wsX9_wind := goodIn_r _ [411, 157, 244, 158, 245, 246, 412, 413, 414, 2, 415, 160, 762, 763, 764, 765, 766, 767, 768, 769, 770, 771, 772, 773, 774, 775, 776, 777, 778, 779] (by decide +kernel) (by decide +kernel)
set_option maxRecDepth 20000 in
theorem gL_law_X9_wind : GoodIn wsL_law (wsV RL 44 RX9 yX9_wind wsX9_wind) := goodIn_app (goodIn_of _ (by decide +kernel)) ggL_law_X9_wind
set_option maxRecDepth 20000 in
theorem ggL_law_X10_wind : GoodIn wsL_law wsX10_wind := goodIn_r _ [419, 253, 254, 257, 255, 258, 259, 91, 92, 5, 93, 780, 781, 782, 783, 784, 785, 786, 787, 788, 789, 790, 791, 792, 793, 794, 795, 796, 797, 798, 799, 800, 801, 802, 803, 804, 805, 806, 807, 808, 809, 810, 811, 812, 813, 814, 815, 816, 817, 818] (by decide +kernel) (by decide +kernel)
set_option maxRecDepth 20000 in
theorem gL_law_X10_wind : GoodIn wsL_law (wsV RL 47 RX10 yX10_wind wsX10_wind) := goodIn_app (goodIn_of _ (by decide +kernel)) ggL_law_X10_wind
set_option maxRecDepth 20000 in
theorem ggL_law_X9_take : GoodIn wsL_law wsX9_take := goodIn_r _ [423, 245, 244, 272, 273, 274, 275, 2, 276, 160, 17, 318, 319, 320, 321, 206, 322, 214, 323, 324, 325, 326, 327, 424, 425, 426, 427, 428, 215, 429, 430, 339, 340, 341, 342, 343, 329, 330, 331, 332, 218, 333, 344, 335, 336, 337, 345, 297, 298, 299, 300, 204, 301, 302, 303, 304, 305, 198, 306, 307, 308, 309, 195, 310, 346, 312, 313, 314, 315, 316, 201, 317, 347, 348, 349, 431, 351, 352, 353, 432, 433, 434, 435, 436, 762, 763, 764, 765, 766, 767, 768, 769, 770, 771, 772, 773, 774, 775, 776, 777, 778, 779, 856, 857, 858, 859, 860, 861, 862, 835, 836, 837, 838, 839, 840, 841, 863, 864, 865, 866, 867, 868, 869, 842, 843, 844, 845, 846, 847, 848, 849, 850, 851, 852, 853, 854, 855] (by decide +kernel) (by decide +kernel)
set_option maxRecDepth 20000 in
theorem gL_law_X9_take : GoodIn wsL_law (wsV RL 48 RX9 yX9_take wsX9_take) := goodIn_app (goodIn_of _ (by decide +kernel)) ggL_law_X9_take
set_option maxRecDepth 20000 in
theorem ggL_law_X10_take : GoodIn wsL_law wsX10_take := goodIn_r _ [440, 258, 60, 257, 58, 59, 358, 359, 360, 5, 361, 253, 91, 92, 93, 370, 371, 372, 373, 378, 379, 380, 381, 374, 375, 376, 377, 57, 366, 367, 368, 369, 56, 382, 383, 384, 780, 781, 782, 783, 784, 785, 786, 787, 788, 789, 790, 791, 792, 793, 794, 795, 796, 797, 798, 799, 800, 801, 802, 803, 804, 805, 806, 807, 808, 809, 810, 811, 812, 813, 814, 815, 816, 817, 818] (by decide +kernel) (by decide +kernel)
set_option maxRecDepth 20000 in
theorem gL_law_X10_take : GoodIn wsL_law (wsV RL 51 RX10 yX10_take wsX10_take) := goodIn_app (goodIn_of _ (by decide +kernel)) ggL_law_X10_take
set_option maxRecDepth 20000 in
theorem ggL_law_X9_plan : GoodIn wsL_law wsX9_plan := goodIn_r _ [444, 445, 26, 157, 158, 245, 160, 244, 412, 413, 414, 2, 415, 446, 447, 448, 25, 449, 450, 451, 452, 453, 454, 273, 274, 275, 276, 17, 318, 319, 320, 321, 206, 322, 214, 323, 324, 325, 326, 327, 328, 329, 330, 331, 332, 218, 333, 334, 335, 336, 337, 296, 297, 298, 299, 300, 204, 301, 302, 303, 304, 305, 198, 306, 307, 308, 309, 195, 310, 311, 312, 313, 314, 315, 316, 201, 317, 455, 456, 457, 458, 47, 48, 459, 460, 172, 461, 462, 171, 173, 463, 464, 465, 466, 467, 468, 469, 470, 46, 45, 471, 472, 473, 474, 475, 476, 477, 478, 479, 480, 481, 482, 483, 484, 485, 486, 487, 488, 489, 490, 491, 492, 493, 494, 495, 496, 497, 498, 499, 500, 501, 502, 503, 504, 505, 506, 507, 508, 509, 762, 763, 764, 765, 766, 767, 768, 769, 770, 771, 772, 773, 774, 775, 776, 777, 778, 779, 825, 826, 827, 828, 829, 830, 831, 832, 833, 856, 857, 858, 859, 860, 861, 862, 835, 836, 837, 838, 839, 840, 841, 863, 864, 865, 866, 867, 868, 869, 842, 843, 844, 845, 846, 847, 848, 849, 850, 851, 852, 853, 854, 855] (by decide +kernel) (by decide +kernel)
set_option maxRecDepth 20000 in
theorem gL_law_X9_plan : GoodIn wsL_law (wsV RL 52 RX9 yX9_plan wsX9_plan) := goodIn_app (goodIn_of _ (by decide +kernel)) ggL_law_X9_plan
set_option maxRecDepth 20000 in
theorem ggL_law_X10_plan : GoodIn wsL_law wsX10_plan := goodIn_r _ [513, 253, 514, 91, 92, 5, 93, 515, 516, 517, 518, 67, 68, 257, 258, 519, 370, 371, 372, 373, 58, 520, 521, 522, 523, 378, 379, 380, 381, 374, 375, 376, 377, 57, 366, 367, 368, 369, 56, 382, 383, 384, 524, 525, 526, 527, 528, 529, 530, 531, 532, 533, 534, 254, 255, 780, 781, 782, 783, 784, 785, 786, 787, 788, 789, 790, 791, 792, 793, 794, 795, 796, 797, 798, 799, 800, 801, 802, 803, 804, 805, 806, 807, 808, 809, 810, 811, 812, 813, 814, 815, 816, 817, 818] (by decide +kernel) (by decide +kernel)
set_option maxRecDepth 20000 in
theorem gL_law_X10_plan : GoodIn wsL_law (wsV RL 55 RX10 yX10_plan wsX10_plan) := goodIn_app (goodIn_of _ (by decide +kernel)) ggL_law_X10_plan
set_option maxRecDepth 20000 in
theorem ggL_law_X9_sure : GoodIn wsL_law wsX9_sure := goodIn_r _ [538, 157, 244, 273, 274, 275, 2, 276, 160, 17, 318, 319, 320, 321, 206, 322, 214, 323, 324, 325, 326, 327, 539, 540, 541, 542, 543, 430, 339, 340, 341, 342, 343, 329, 330, 331, 332, 218, 333, 344, 335, 336, 337, 345, 297, 298, 299, 300, 204, 301, 302, 303, 304, 305, 198, 306, 307, 308, 309, 195, 310, 346, 312, 313, 314, 315, 316, 201, 317, 347, 348, 349, 431, 351, 352, 353, 544, 545, 546, 547, 548, 762, 763, 764, 765, 766, 767, 768, 769, 770, 771, 772, 773, 774, 775, 776, 777, 778, 779, 856, 857, 858, 859, 860, 861, 862, 835, 836, 837, 838, 839, 840, 841, 863, 864, 865, 866, 867, 868, 869, 842, 843, 844, 845, 846, 847, 848, 849, 850, 851, 852, 853, 854, 855] (by decide +kernel) (by decide +kernel)
set_option maxRecDepth 20000 in
theorem gL_law_X9_sure : GoodIn wsL_law (wsV RL 56 RX9 yX9_sure wsX9_sure) := goodIn_app (goodIn_of _ (by decide +kernel)) ggL_law_X9_sure
set_option maxRecDepth 20000 in
theorem ggL_law_X10_sure : GoodIn wsL_law wsX10_sure := goodIn_r _ [552, 254, 358, 359, 360, 5, 361, 253, 91, 92, 93, 370, 371, 372, 373, 58, 553, 554, 555, 556, 257, 378, 379, 380, 381, 374, 375, 376, 377, 57, 366, 367, 368, 369, 56, 382, 383, 384, 780, 781, 782, 783, 784, 785, 786, 787, 788, 789, 790, 791, 792, 793, 794, 795, 796, 797, 798, 799, 800, 801, 802, 803, 804, 805, 806, 807, 808, 809, 810, 811, 812, 813, 814, 815, 816, 817, 818] (by decide +kernel) (by decide +kernel)
set_option maxRecDepth 20000 in
theorem gL_law_X10_sure : GoodIn wsL_law (wsV RL 59 RX10 yX10_sure wsX10_sure) := goodIn_app (goodIn_of _ (by decide +kernel)) ggL_law_X10_sure
set_option maxRecDepth 20000 in
theorem ggL_law_X9_best : GoodIn wsL_law wsX9_best := goodIn_r _ [560, 273, 274, 275, 2, 276, 160, 17, 318, 319, 320, 321, 206, 322, 214, 323, 324, 325, 326, 327, 561, 562, 563, 564, 244, 157, 539, 540, 541, 542, 543, 430, 339, 340, 341, 342, 343, 329, 330, 331, 332, 218, 333, 344, 335, 336, 337, 345, 297, 298, 299, 300, 204, 301, 302, 303, 304, 305, 198, 306, 307, 308, 309, 195, 310, 346, 312, 313, 314, 315, 316, 201, 317, 347, 348, 349, 431, 351, 352, 353, 544, 545, 546, 547, 548, 762, 763, 764, 765, 766, 767, 768, 769, 770, 771, 772, 773, 774, 775, 776, 777, 778, 779, 856, 857, 858, 859, 860, 861, 862, 835, 836, 837, 838, 839, 840, 841, 863, 864, 865, 866, 867, 868, 869, 842, 843, 844, 845, 846, 847, 848, 849, 850, 851, 852, 853, 854, 855] (by decide +kernel) (by decide +kernel)
set_option maxRecDepth 20000 in
theorem gL_law_X9_best : GoodIn wsL_law (wsV RL 60 RX9 yX9_best wsX9_best) := goodIn_app (goodIn_of _ (by decide +kernel)) ggL_law_X9_best
set_option maxRecDepth 20000 in
theorem ggL_law_X10_best : GoodIn wsL_law wsX10_best := goodIn_r _ [568, 358, 359, 360, 5, 361, 253, 91, 92, 93, 370, 371, 372, 373, 58, 569, 570, 571, 572, 254, 553, 554, 555, 556, 257, 378, 379, 380, 381, 374, 375, 376, 377, 57, 366, 367, 368, 369, 56, 382, 383, 384, 780, 781, 782, 783, 784, 785, 786, 787, 788, 789, 790, 791, 792, 793, 794, 795, 796, 797, 798, 799, 800, 801, 802, 803, 804, 805, 806, 807, 808, 809, 810, 811, 812, 813, 814, 815, 816, 817, 818] (by decide +kernel) (by decide +kernel)
set_option maxRecDepth 20000 in
theorem gL_law_X10_best : GoodIn wsL_law (wsV RL 63 RX10 yX10_best wsX10_best) := goodIn_app (goodIn_of _ (by decide +kernel)) ggL_law_X10_best
set_option maxRecDepth 20000 in
theorem ggL_law_X9_together : GoodIn wsL_law wsX9_together := goodIn_r _ [576, 269, 244, 273, 274, 275, 2, 276, 160, 17, 856, 857, 858, 859, 860, 861, 862, 835, 836, 837, 838, 839, 840, 841, 863, 864, 865, 866, 867, 868, 869, 842, 843, 844, 845, 846, 847, 848, 849, 850, 851, 852, 853, 854, 855, 762, 763, 764, 765, 766, 767, 768, 769, 770, 771, 772, 773, 774, 775, 776, 777, 778, 779] (by decide +kernel) (by decide +kernel)
set_option maxRecDepth 20000 in
theorem gL_law_X9_together : GoodIn wsL_law (wsV RL 64 RX9 yX9_together wsX9_together) := goodIn_app (goodIn_of _ (by decide +kernel)) ggL_law_X9_together
set_option maxRecDepth 20000 in
theorem ggL_law_X10_together : GoodIn wsL_law wsX10_together := goodIn_r _ [580, 358, 359, 360, 5, 361, 253, 91, 92, 93, 581, 582, 583, 584, 57, 257, 780, 781, 782, 783, 784, 785, 786, 787, 788, 789, 790, 791, 792, 793, 794, 795, 796, 797, 798, 799, 800, 801, 802, 803, 804, 805, 806, 807, 808, 809, 810, 811, 812, 813, 814, 815, 816, 817, 818] (by decide +kernel) (by decide +kernel)
set_option maxRecDepth 20000 in
theorem gL_law_X10_together : GoodIn wsL_law (wsV RL 67 RX10 yX10_together wsX10_together) := goodIn_app (goodIn_of _ (by decide +kernel)) ggL_law_X10_together
set_option maxRecDepth 20000 in
theorem ggL_law_X9_tell : GoodIn wsL_law wsX9_tell := goodIn_r _ [588, 21, 244, 247, 273, 274, 275, 2, 276, 160, 17, 318, 319, 320, 321, 206, 322, 214, 323, 324, 325, 326, 327, 328, 329, 330, 331, 332, 218, 333, 334, 335, 336, 337, 296, 297, 298, 299, 300, 204, 301, 302, 303, 304, 305, 198, 306, 307, 308, 309, 195, 310, 311, 312, 313, 314, 315, 316, 201, 317, 589, 590, 591, 20, 592, 593, 39, 40, 41, 762, 763, 764, 765, 766, 767, 768, 769, 770, 771, 772, 773, 774, 775, 776, 777, 778, 779, 821, 822, 823, 824, 856, 857, 858, 859, 860, 861, 862, 835, 836, 837, 838, 839, 840, 841, 863, 864, 865, 866, 867, 868, 869, 842, 843, 844, 845, 846, 847, 848, 849, 850, 851, 852, 853, 854, 855] (by decide +kernel) (by decide +kernel)
set_option maxRecDepth 20000 in
theorem gL_law_X9_tell : GoodIn wsL_law (wsV RL 68 RX9 yX9_tell wsX9_tell) := goodIn_app (goodIn_of _ (by decide +kernel)) ggL_law_X9_tell
set_option maxRecDepth 20000 in
theorem ggL_law_X10_tell : GoodIn wsL_law wsX10_tell := goodIn_r _ [597, 260, 61, 257, 62, 63, 64, 358, 359, 360, 5, 361, 253, 91, 92, 93, 370, 371, 372, 373, 58, 374, 375, 376, 377, 57, 366, 367, 368, 369, 56, 780, 781, 782, 783, 784, 785, 786, 787, 788, 789, 790, 791, 792, 793, 794, 795, 796, 797, 798, 799, 800, 801, 802, 803, 804, 805, 806, 807, 808, 809, 810, 811, 812, 813, 814, 815, 816, 817, 818] (by decide +kernel) (by decide +kernel)
set_option maxRecDepth 20000 in
theorem gL_law_X10_tell : GoodIn wsL_law (wsV RL 71 RX10 yX10_tell wsX10_tell) := goodIn_app (goodIn_of _ (by decide +kernel)) ggL_law_X10_tell
set_option maxRecDepth 20000 in
theorem ggL_law_X9_forget : GoodIn wsL_law wsX9_forget := goodIn_r _ [601, 21, 247, 762, 763, 764, 765, 766, 767, 768, 769, 770, 771, 772, 773, 774, 775, 776, 777, 778, 779, 821, 822, 823, 824] (by decide +kernel) (by decide +kernel)
set_option maxRecDepth 20000 in
theorem gL_law_X9_forget : GoodIn wsL_law (wsV RL 72 RX9 yX9_forget wsX9_forget) := goodIn_app (goodIn_of _ (by decide +kernel)) ggL_law_X9_forget
set_option maxRecDepth 20000 in
theorem ggL_law_X10_forget : GoodIn wsL_law wsX10_forget := goodIn_r _ [605, 260, 780, 781, 782, 783, 784, 785, 786, 787, 788, 789, 790, 791, 792, 793, 794, 795, 796, 797, 798, 799, 800, 801, 802, 803, 804, 805, 806, 807, 808, 809, 810, 811, 812, 813, 814, 815, 816, 817, 818] (by decide +kernel) (by decide +kernel)
set_option maxRecDepth 20000 in
theorem gL_law_X10_forget : GoodIn wsL_law (wsV RL 75 RX10 yX10_forget wsX10_forget) := goodIn_app (goodIn_of _ (by decide +kernel)) ggL_law_X10_forget
set_option maxRecDepth 20000 in
theorem ggL_law_X9_wound : GoodIn wsL_law wsX9_wound := goodIn_r _ [609, 412, 413, 414, 2, 415, 160, 610, 611, 612, 613, 157, 21, 614, 615, 616, 20, 617, 593, 39, 40, 41, 347, 348, 618, 619, 620, 621, 762, 763, 764, 765, 766, 767, 768, 769, 770, 771, 772, 773, 774, 775, 776, 777, 778, 779, 821, 822, 823, 824] (by decide +kernel) (by decide +kernel)
set_option maxRecDepth 20000 in
theorem gL_law_X9_wound : GoodIn wsL_law (wsV RL 76 RX9 yX9_wound wsX9_wound) := goodIn_app (goodIn_of _ (by decide +kernel)) ggL_law_X9_wound
set_option maxRecDepth 20000 in
theorem ggL_law_X10_wound : GoodIn wsL_law wsX10_wound := goodIn_r _ [625, 253, 91, 92, 5, 93, 626, 627, 628, 629, 254, 630, 631, 632, 633, 260, 61, 62, 63, 64, 382, 383, 384, 780, 781, 782, 783, 784, 785, 786, 787, 788, 789, 790, 791, 792, 793, 794, 795, 796, 797, 798, 799, 800, 801, 802, 803, 804, 805, 806, 807, 808, 809, 810, 811, 812, 813, 814, 815, 816, 817, 818] (by decide +kernel) (by decide +kernel)
set_option maxRecDepth 20000 in
theorem gL_law_X10_wound : GoodIn wsL_law (wsV RL 79 RX10 yX10_wound wsX10_wound) := goodIn_app (goodIn_of _ (by decide +kernel)) ggL_law_X10_wound
set_option maxRecDepth 20000 in
theorem ggL_law_X9_evenings : GoodIn wsL_law wsX9_evenings := goodIn_r _ [637, 30, 638, 157, 160, 269, 412, 413, 414, 2, 415, 639, 640, 641, 29, 642, 643, 644, 645, 646, 647, 273, 274, 275, 276, 17, 296, 297, 298, 299, 300, 204, 301, 302, 303, 304, 305, 198, 306, 307, 308, 309, 195, 310, 311, 312, 313, 206, 314, 315, 316, 201, 317, 648, 347, 348, 762, 763, 764, 765, 766, 767, 768, 769, 770, 771, 772, 773, 774, 775, 776, 777, 778, 779, 834, 856, 857, 858, 859, 860, 861, 862, 835, 836, 837, 838, 839, 840, 841, 863, 864, 865, 866, 867, 868, 869, 842, 843, 844, 845, 846, 847, 848, 849, 850, 851, 852, 853, 854, 855] (by decide +kernel) (by decide +kernel)
set_option maxRecDepth 20000 in
theorem gL_law_X9_evenings : GoodIn wsL_law (wsV RL 80 RX9 yX9_evenings wsX9_evenings) := goodIn_app (goodIn_of _ (by decide +kernel)) ggL_law_X9_evenings
set_option maxRecDepth 20000 in
theorem ggL_law_X10_evenings : GoodIn wsL_law wsX10_evenings := goodIn_r _ [652, 253, 91, 92, 5, 93, 653, 654, 655, 656, 657, 254, 57, 658, 659, 660, 661, 662, 663, 664, 665, 366, 367, 368, 369, 56, 382, 383, 384, 780, 781, 782, 783, 784, 785, 786, 787, 788, 789, 790, 791, 792, 793, 794, 795, 796, 797, 798, 799, 800, 801, 802, 803, 804, 805, 806, 807, 808, 809, 810, 811, 812, 813, 814, 815, 816, 817, 818] (by decide +kernel) (by decide +kernel)
set_option maxRecDepth 20000 in
theorem gL_law_X10_evenings : GoodIn wsL_law (wsV RL 84 RX10 yX10_evenings wsX10_evenings) := goodIn_app (goodIn_of _ (by decide +kernel)) ggL_law_X10_evenings
set_option maxRecDepth 20000 in
theorem ggL_law_X9_image : GoodIn wsL_law wsX9_image := goodIn_r _ [669, 248, 244, 670, 245, 671, 246, 672, 22, 21, 160, 412, 413, 414, 2, 415, 673, 674, 675, 20, 676, 39, 40, 41, 593, 273, 274, 275, 276, 17, 677, 678, 679, 680, 206, 681, 214, 216, 429, 682, 215, 217, 683, 684, 685, 686, 687, 762, 763, 764, 765, 766, 767, 768, 769, 770, 771, 772, 773, 774, 775, 776, 777, 778, 779, 821, 822, 823, 824, 856, 857, 858, 859, 860, 861, 862, 835, 836, 837, 838, 839, 840, 841, 863, 864, 865, 866, 867, 868, 869, 842, 843, 844, 845, 846, 847, 848, 849, 850, 851, 852, 853, 854, 855] (by decide +kernel) (by decide +kernel)
set_option maxRecDepth 20000 in
theorem gL_law_X9_image : GoodIn wsL_law (wsV RL 85 RX9 yX9_image wsX9_image) := goodIn_app (goodIn_of _ (by decide +kernel)) ggL_law_X9_image
set_option maxRecDepth 20000 in
theorem ggL_law_X10_image : GoodIn wsL_law wsX10_image := goodIn_r _ [691, 253, 692, 256, 693, 257, 694, 258, 695, 259, 696, 260, 697, 69, 58, 70, 59, 71, 60, 72, 61, 73, 62, 74, 63, 75, 64, 780, 781, 782, 783, 784, 785, 786, 787, 788, 789, 790, 791, 792, 793, 794, 795, 796, 797, 798, 799, 800, 801, 802, 803, 804, 805, 806, 807, 808, 809, 810, 811, 812, 813, 814, 815, 816, 817, 818] (by decide +kernel) (by decide +kernel)
set_option maxRecDepth 20000 in
theorem gL_law_X10_image : GoodIn wsL_law (wsV RL 88 RX10 yX10_image wsX10_image) := goodIn_app (goodIn_of _ (by decide +kernel)) ggL_law_X10_image
set_option maxRecDepth 20000 in
theorem ggL_law_X9_restore : GoodIn wsL_law wsX9_restore := goodIn_r _ [701, 248, 670, 244, 671, 245, 672, 246, 21, 22, 160, 673, 674, 675, 20, 676, 39, 40, 41, 593, 273, 274, 275, 2, 276, 17, 702, 703, 704, 705, 206, 706, 216, 214, 682, 429, 217, 215, 707, 708, 709, 710, 711, 762, 763, 764, 765, 766, 767, 768, 769, 770, 771, 772, 773, 774, 775, 776, 777, 778, 779, 821, 822, 823, 824, 856, 857, 858, 859, 860, 861, 862, 835, 836, 837, 838, 839, 840, 841, 863, 864, 865, 866, 867, 868, 869, 842, 843, 844, 845, 846, 847, 848, 849, 850, 851, 852, 853, 854, 855] (by decide +kernel) (by decide +kernel)
set_option maxRecDepth 20000 in
theorem gL_law_X9_restore : GoodIn wsL_law (wsV RL 89 RX9 yX9_restore wsX9_restore) := goodIn_app (goodIn_of _ (by decide +kernel)) ggL_law_X9_restore
set_option maxRecDepth 20000 in
theorem ggL_law_X10_restore : GoodIn wsL_law wsX10_restore := goodIn_r _ [715, 692, 693, 256, 694, 257, 695, 258, 696, 259, 697, 260, 58, 69, 59, 70, 60, 71, 61, 72, 62, 73, 63, 74, 64, 75, 780, 781, 782, 783, 784, 785, 786, 787, 788, 789, 790, 791, 792, 793, 794, 795, 796, 797, 798, 799, 800, 801, 802, 803, 804, 805, 806, 807, 808, 809, 810, 811, 812, 813, 814, 815, 816, 817, 818] (by decide +kernel) (by decide +kernel)
set_option maxRecDepth 20000 in
theorem gL_law_X10_restore : GoodIn wsL_law (wsV RL 92 RX10 yX10_restore wsX10_restore) := goodIn_app (goodIn_of _ (by decide +kernel)) ggL_law_X10_restore
set_option maxRecDepth 20000 in
theorem ggL_law_X9_count : GoodIn wsL_law wsX9_count := goodIn_r _ [719, 160, 157, 158, 244, 245, 246, 21, 247, 15, 80, 159, 445, 720, 721, 722, 2, 723, 273, 274, 275, 276, 17, 318, 319, 320, 321, 206, 322, 214, 323, 324, 325, 326, 327, 762, 763, 764, 765, 766, 767, 768, 769, 770, 771, 772, 773, 774, 775, 776, 777, 778, 779, 821, 822, 823, 824, 819, 820, 856, 857, 858, 859, 860, 861, 862, 835, 836, 837, 838, 839, 840, 841, 863, 864, 865, 866, 867, 868, 869, 842, 843, 844, 845, 846, 847, 848, 849, 850, 851, 852, 853, 854, 855] (by decide +kernel) (by decide +kernel)
set_option maxRecDepth 20000 in
theorem gL_law_X9_count : GoodIn wsL_law (wsV RL 93 RX9 yX9_count wsX9_count) := goodIn_app (goodIn_of _ (by decide +kernel)) ggL_law_X9_count
set_option maxRecDepth 20000 in
theorem ggL_law_X10_count : GoodIn wsL_law wsX10_count := goodIn_r _ [727, 728, 729, 730, 5, 731, 253, 254, 255, 257, 258, 259, 260, 90, 256, 514, 732, 733, 734, 735, 370, 371, 372, 373, 58, 780, 781, 782, 783, 784, 785, 786, 787, 788, 789, 790, 791, 792, 793, 794, 795, 796, 797, 798, 799, 800, 801, 802, 803, 804, 805, 806, 807, 808, 809, 810, 811, 812, 813, 814, 815, 816, 817, 818] (by decide +kernel) (by decide +kernel)
set_option maxRecDepth 20000 in
theorem gL_law_X10_count : GoodIn wsL_law (wsV RL 96 RX10 yX10_count wsX10_count) := goodIn_app (goodIn_of _ (by decide +kernel)) ggL_law_X10_count
set_option maxRecDepth 20000 in
theorem ggL_law_X9_digest : GoodIn wsL_law wsX9_digest := goodIn_r _ [739, 740, 160, 741, 15, 80, 742, 743, 744, 2, 745, 746, 266, 267, 268, 269, 270, 244, 271, 272, 273, 274, 275, 276, 17, 277, 278, 279, 280, 281, 204, 282, 283, 284, 285, 195, 286, 287, 288, 289, 206, 290, 291, 198, 292, 293, 294, 201, 295, 296, 297, 298, 299, 300, 301, 302, 303, 304, 305, 306, 307, 308, 309, 310, 311, 312, 313, 314, 315, 316, 317, 318, 319, 320, 321, 322, 214, 323, 324, 325, 326, 327, 328, 329, 330, 331, 332, 218, 333, 334, 335, 336, 337, 338, 339, 340, 341, 342, 343, 344, 345, 346, 347, 348, 349, 350, 351, 352, 353, 561, 562, 563, 564, 157, 539, 540, 541, 542, 543, 430, 431, 544, 545, 546, 547, 548, 747, 574, 575, 576, 412, 413, 414, 415, 748, 607, 608, 609, 610, 611, 612, 613, 21, 614, 615, 616, 20, 617, 593, 39, 40, 41, 618, 619, 620, 621, 749, 115, 116, 14, 117, 85, 35, 750, 717, 718, 719, 158, 245, 246, 247, 159, 445, 720, 721, 722, 723, 762, 763, 764, 765, 766, 767, 768, 769, 770, 771, 772, 773, 774, 775, 776, 777, 778, 779, 819, 820, 856, 857, 858, 859, 860, 861, 862, 835, 836, 837, 838, 839, 840, 841, 863, 864, 865, 866, 867, 868, 869, 842, 843, 844, 845, 846, 847, 848, 849, 850, 851, 852, 853, 854, 855, 821, 822, 823, 824] (by decide +kernel) (by decide +kernel)
set_option maxRecDepth 20000 in
theorem gL_law_X9_digest : GoodIn wsL_law (wsV RL 97 RX9 yX9_digest wsX9_digest) := goodIn_app (goodIn_of _ (by decide +kernel)) ggL_law_X9_digest
set_option maxRecDepth 20000 in
theorem ggL_law_X10_digest : GoodIn wsL_law wsX10_digest := goodIn_r _ [754, 755, 756, 253, 90, 66, 362, 363, 364, 5, 365, 56, 57, 58, 257, 59, 60, 366, 367, 368, 369, 370, 371, 372, 373, 374, 375, 376, 377, 378, 379, 380, 381, 382, 383, 384, 757, 758, 759, 760, 761, 569, 570, 571, 572, 254, 553, 554, 555, 556, 581, 582, 583, 584, 626, 627, 628, 629, 630, 631, 632, 633, 260, 61, 62, 63, 64, 728, 729, 730, 731, 255, 258, 259, 256, 514, 732, 733, 734, 735, 780, 781, 782, 783, 784, 785, 786, 787, 788, 789, 790, 791, 792, 793, 794, 795, 796, 797, 798, 799, 800, 801, 802, 803, 804, 805, 806, 807, 808, 809, 810, 811, 812, 813, 814, 815, 816, 817, 818] (by decide +kernel) (by decide +kernel)
set_option maxRecDepth 20000 in
theorem gL_law_X10_digest : GoodIn wsL_law (wsV RL 101 RX10 yX10_digest wsX10_digest) := goodIn_app (goodIn_of _ (by decide +kernel)) ggL_law_X10_digest
theorem dL_law_0 : decode cL_law 0 = .ok (.new 7, 3) := by decide +kernel
theorem dL_law_3 : decode cL_law 3 = .ok (.dup, 1) := by decide +kernel
theorem dL_law_4 : decode cL_law 4 = .ok (.invokespecial 9, 3) := by decide +kernel
theorem dL_law_7 : decode cL_law 7 = .ok (.astore_n 1, 1) := by decide +kernel
theorem dL_law_8 : decode cL_law 8 = .ok (.new 10, 3) := by decide +kernel
theorem dL_law_11 : decode cL_law 11 = .ok (.dup, 1) := by decide +kernel
theorem dL_law_12 : decode cL_law 12 = .ok (.invokespecial 12, 3) := by decide +kernel
theorem dL_law_15 : decode cL_law 15 = .ok (.astore_n 2, 1) := by decide +kernel
theorem dL_law_16 : decode cL_law 16 = .ok (.iconst 0, 1) := by decide +kernel
theorem dL_law_17 : decode cL_law 17 = .ok (.istore_n 3, 1) := by decide +kernel
theorem dL_law_18 : decode cL_law 18 = .ok (.iload_n 3, 1) := by decide +kernel
theorem dL_law_19 : decode cL_law 19 = .ok (.aload_n 0, 1) := by decide +kernel
theorem dL_law_20 : decode cL_law 20 = .ok (.arraylength, 1) := by decide +kernel
theorem dL_law_21 : decode cL_law 21 = .ok (.iconst 4, 1) := by decide +kernel
theorem dL_law_22 : decode cL_law 22 = .ok (.isub, 1) := by decide +kernel
theorem dL_law_23 : decode cL_law 23 = .ok (.if_icmp .gt 599, 3) := by decide +kernel
theorem dL_law_26 : decode cL_law 26 = .ok (.aload_n 0, 1) := by decide +kernel
theorem dL_law_27 : decode cL_law 27 = .ok (.iload_n 3, 1) := by decide +kernel
theorem dL_law_28 : decode cL_law 28 = .ok (.iaload, 1) := by decide +kernel
theorem dL_law_29 : decode cL_law 29 = .ok (.bipush 31, 2) := by decide +kernel
theorem dL_law_31 : decode cL_law 31 = .ok (.iand, 1) := by decide +kernel
theorem dL_law_32 : decode cL_law 32 = .ok (.tableswitch 584 0 20 #[100, 123, 136, 149, 162, 195, 228, 251, 274, 297, 320, 353, 376, 409, 442, 455, 478, 521, 534, 547, 570], 100) := by decide +kernel
theorem dL_law_132 : decode cL_law 132 = .ok (.aload_n 1, 1) := by decide +kernel
theorem dL_law_133 : decode cL_law 133 = .ok (.aload_n 0, 1) := by decide +kernel
theorem dL_law_134 : decode cL_law 134 = .ok (.iload_n 3, 1) := by decide +kernel
theorem dL_law_135 : decode cL_law 135 = .ok (.iconst 1, 1) := by decide +kernel
theorem dL_law_136 : decode cL_law 136 = .ok (.iadd, 1) := by decide +kernel
theorem dL_law_137 : decode cL_law 137 = .ok (.iaload, 1) := by decide +kernel
theorem dL_law_138 : decode cL_law 138 = .ok (.invokevirtual 13, 3) := by decide +kernel
theorem dL_law_141 : decode cL_law 141 = .ok (.aload_n 2, 1) := by decide +kernel
theorem dL_law_142 : decode cL_law 142 = .ok (.aload_n 0, 1) := by decide +kernel
theorem dL_law_143 : decode cL_law 143 = .ok (.iload_n 3, 1) := by decide +kernel
theorem dL_law_144 : decode cL_law 144 = .ok (.iconst 1, 1) := by decide +kernel
theorem dL_law_145 : decode cL_law 145 = .ok (.iadd, 1) := by decide +kernel
theorem dL_law_146 : decode cL_law 146 = .ok (.iaload, 1) := by decide +kernel
theorem dL_law_147 : decode cL_law 147 = .ok (.invokevirtual 17, 3) := by decide +kernel
theorem dL_law_150 : decode cL_law 150 = .ok (.if_icmp .eq 466, 3) := by decide +kernel
theorem dL_law_153 : decode cL_law 153 = .ok (.iconst 0, 1) := by decide +kernel
theorem dL_law_154 : decode cL_law 154 = .ok (.ireturn, 1) := by decide +kernel
theorem dL_law_155 : decode cL_law 155 = .ok (.aload_n 1, 1) := by decide +kernel
theorem dL_law_156 : decode cL_law 156 = .ok (.invokevirtual 18, 3) := by decide +kernel
theorem dL_law_159 : decode cL_law 159 = .ok (.aload_n 2, 1) := by decide +kernel
theorem dL_law_160 : decode cL_law 160 = .ok (.invokevirtual 22, 3) := by decide +kernel
theorem dL_law_163 : decode cL_law 163 = .ok (.if_icmp .eq 453, 3) := by decide +kernel
theorem dL_law_166 : decode cL_law 166 = .ok (.iconst 0, 1) := by decide +kernel
theorem dL_law_167 : decode cL_law 167 = .ok (.ireturn, 1) := by decide +kernel
theorem dL_law_168 : decode cL_law 168 = .ok (.aload_n 1, 1) := by decide +kernel
theorem dL_law_169 : decode cL_law 169 = .ok (.invokevirtual 23, 3) := by decide +kernel
theorem dL_law_172 : decode cL_law 172 = .ok (.aload_n 2, 1) := by decide +kernel
theorem dL_law_173 : decode cL_law 173 = .ok (.invokevirtual 26, 3) := by decide +kernel
theorem dL_law_176 : decode cL_law 176 = .ok (.if_icmp .eq 440, 3) := by decide +kernel
theorem dL_law_179 : decode cL_law 179 = .ok (.iconst 0, 1) := by decide +kernel
theorem dL_law_180 : decode cL_law 180 = .ok (.ireturn, 1) := by decide +kernel
theorem dL_law_181 : decode cL_law 181 = .ok (.aload_n 1, 1) := by decide +kernel
theorem dL_law_182 : decode cL_law 182 = .ok (.invokevirtual 27, 3) := by decide +kernel
theorem dL_law_185 : decode cL_law 185 = .ok (.aload_n 2, 1) := by decide +kernel
theorem dL_law_186 : decode cL_law 186 = .ok (.invokevirtual 30, 3) := by decide +kernel
theorem dL_law_189 : decode cL_law 189 = .ok (.if_icmp .eq 427, 3) := by decide +kernel
theorem dL_law_192 : decode cL_law 192 = .ok (.iconst 0, 1) := by decide +kernel
theorem dL_law_193 : decode cL_law 193 = .ok (.ireturn, 1) := by decide +kernel
theorem dL_law_194 : decode cL_law 194 = .ok (.aload_n 1, 1) := by decide +kernel
theorem dL_law_195 : decode cL_law 195 = .ok (.aload_n 0, 1) := by decide +kernel
theorem dL_law_196 : decode cL_law 196 = .ok (.iload_n 3, 1) := by decide +kernel
theorem dL_law_197 : decode cL_law 197 = .ok (.iconst 1, 1) := by decide +kernel
theorem dL_law_198 : decode cL_law 198 = .ok (.iadd, 1) := by decide +kernel
theorem dL_law_199 : decode cL_law 199 = .ok (.iaload, 1) := by decide +kernel
theorem dL_law_200 : decode cL_law 200 = .ok (.aload_n 0, 1) := by decide +kernel
theorem dL_law_201 : decode cL_law 201 = .ok (.iload_n 3, 1) := by decide +kernel
theorem dL_law_202 : decode cL_law 202 = .ok (.iconst 2, 1) := by decide +kernel
theorem dL_law_203 : decode cL_law 203 = .ok (.iadd, 1) := by decide +kernel
theorem dL_law_204 : decode cL_law 204 = .ok (.iaload, 1) := by decide +kernel
theorem dL_law_205 : decode cL_law 205 = .ok (.invokevirtual 31, 3) := by decide +kernel
theorem dL_law_208 : decode cL_law 208 = .ok (.aload_n 2, 1) := by decide +kernel
theorem dL_law_209 : decode cL_law 209 = .ok (.aload_n 0, 1) := by decide +kernel
theorem dL_law_210 : decode cL_law 210 = .ok (.iload_n 3, 1) := by decide +kernel
theorem dL_law_211 : decode cL_law 211 = .ok (.iconst 1, 1) := by decide +kernel
theorem dL_law_212 : decode cL_law 212 = .ok (.iadd, 1) := by decide +kernel
theorem dL_law_213 : decode cL_law 213 = .ok (.iaload, 1) := by decide +kernel
theorem dL_law_214 : decode cL_law 214 = .ok (.aload_n 0, 1) := by decide +kernel
theorem dL_law_215 : decode cL_law 215 = .ok (.iload_n 3, 1) := by decide +kernel
theorem dL_law_216 : decode cL_law 216 = .ok (.iconst 2, 1) := by decide +kernel
theorem dL_law_217 : decode cL_law 217 = .ok (.iadd, 1) := by decide +kernel
theorem dL_law_218 : decode cL_law 218 = .ok (.iaload, 1) := by decide +kernel
theorem dL_law_219 : decode cL_law 219 = .ok (.invokevirtual 35, 3) := by decide +kernel
theorem dL_law_222 : decode cL_law 222 = .ok (.if_icmp .eq 394, 3) := by decide +kernel
theorem dL_law_225 : decode cL_law 225 = .ok (.iconst 0, 1) := by decide +kernel
theorem dL_law_226 : decode cL_law 226 = .ok (.ireturn, 1) := by decide +kernel
theorem dL_law_227 : decode cL_law 227 = .ok (.aload_n 1, 1) := by decide +kernel
theorem dL_law_228 : decode cL_law 228 = .ok (.aload_n 0, 1) := by decide +kernel
theorem dL_law_229 : decode cL_law 229 = .ok (.iload_n 3, 1) := by decide +kernel
theorem dL_law_230 : decode cL_law 230 = .ok (.iconst 1, 1) := by decide +kernel
theorem dL_law_231 : decode cL_law 231 = .ok (.iadd, 1) := by decide +kernel
theorem dL_law_232 : decode cL_law 232 = .ok (.iaload, 1) := by decide +kernel
theorem dL_law_233 : decode cL_law 233 = .ok (.aload_n 0, 1) := by decide +kernel
theorem dL_law_234 : decode cL_law 234 = .ok (.iload_n 3, 1) := by decide +kernel
theorem dL_law_235 : decode cL_law 235 = .ok (.iconst 2, 1) := by decide +kernel
theorem dL_law_236 : decode cL_law 236 = .ok (.iadd, 1) := by decide +kernel
theorem dL_law_237 : decode cL_law 237 = .ok (.iaload, 1) := by decide +kernel
theorem dL_law_238 : decode cL_law 238 = .ok (.invokevirtual 36, 3) := by decide +kernel
theorem dL_law_241 : decode cL_law 241 = .ok (.aload_n 2, 1) := by decide +kernel
theorem dL_law_242 : decode cL_law 242 = .ok (.aload_n 0, 1) := by decide +kernel
theorem dL_law_243 : decode cL_law 243 = .ok (.iload_n 3, 1) := by decide +kernel
theorem dL_law_244 : decode cL_law 244 = .ok (.iconst 1, 1) := by decide +kernel
theorem dL_law_245 : decode cL_law 245 = .ok (.iadd, 1) := by decide +kernel
theorem dL_law_246 : decode cL_law 246 = .ok (.iaload, 1) := by decide +kernel
theorem dL_law_247 : decode cL_law 247 = .ok (.aload_n 0, 1) := by decide +kernel
theorem dL_law_248 : decode cL_law 248 = .ok (.iload_n 3, 1) := by decide +kernel
theorem dL_law_249 : decode cL_law 249 = .ok (.iconst 2, 1) := by decide +kernel
theorem dL_law_250 : decode cL_law 250 = .ok (.iadd, 1) := by decide +kernel
theorem dL_law_251 : decode cL_law 251 = .ok (.iaload, 1) := by decide +kernel
theorem dL_law_252 : decode cL_law 252 = .ok (.invokevirtual 39, 3) := by decide +kernel
theorem dL_law_255 : decode cL_law 255 = .ok (.if_icmp .eq 361, 3) := by decide +kernel
theorem dL_law_258 : decode cL_law 258 = .ok (.iconst 0, 1) := by decide +kernel
theorem dL_law_259 : decode cL_law 259 = .ok (.ireturn, 1) := by decide +kernel
theorem dL_law_260 : decode cL_law 260 = .ok (.aload_n 1, 1) := by decide +kernel
theorem dL_law_261 : decode cL_law 261 = .ok (.aload_n 0, 1) := by decide +kernel
theorem dL_law_262 : decode cL_law 262 = .ok (.iload_n 3, 1) := by decide +kernel
theorem dL_law_263 : decode cL_law 263 = .ok (.iconst 1, 1) := by decide +kernel
theorem dL_law_264 : decode cL_law 264 = .ok (.iadd, 1) := by decide +kernel
theorem dL_law_265 : decode cL_law 265 = .ok (.iaload, 1) := by decide +kernel
theorem dL_law_266 : decode cL_law 266 = .ok (.invokevirtual 40, 3) := by decide +kernel
theorem dL_law_269 : decode cL_law 269 = .ok (.aload_n 2, 1) := by decide +kernel
theorem dL_law_270 : decode cL_law 270 = .ok (.aload_n 0, 1) := by decide +kernel
theorem dL_law_271 : decode cL_law 271 = .ok (.iload_n 3, 1) := by decide +kernel
theorem dL_law_272 : decode cL_law 272 = .ok (.iconst 1, 1) := by decide +kernel
theorem dL_law_273 : decode cL_law 273 = .ok (.iadd, 1) := by decide +kernel
theorem dL_law_274 : decode cL_law 274 = .ok (.iaload, 1) := by decide +kernel
theorem dL_law_275 : decode cL_law 275 = .ok (.invokevirtual 43, 3) := by decide +kernel
theorem dL_law_278 : decode cL_law 278 = .ok (.if_icmp .eq 338, 3) := by decide +kernel
theorem dL_law_281 : decode cL_law 281 = .ok (.iconst 0, 1) := by decide +kernel
theorem dL_law_282 : decode cL_law 282 = .ok (.ireturn, 1) := by decide +kernel
theorem dL_law_283 : decode cL_law 283 = .ok (.aload_n 1, 1) := by decide +kernel
theorem dL_law_284 : decode cL_law 284 = .ok (.aload_n 0, 1) := by decide +kernel
theorem dL_law_285 : decode cL_law 285 = .ok (.iload_n 3, 1) := by decide +kernel
theorem dL_law_286 : decode cL_law 286 = .ok (.iconst 1, 1) := by decide +kernel
theorem dL_law_287 : decode cL_law 287 = .ok (.iadd, 1) := by decide +kernel
theorem dL_law_288 : decode cL_law 288 = .ok (.iaload, 1) := by decide +kernel
theorem dL_law_289 : decode cL_law 289 = .ok (.invokevirtual 44, 3) := by decide +kernel
theorem dL_law_292 : decode cL_law 292 = .ok (.aload_n 2, 1) := by decide +kernel
theorem dL_law_293 : decode cL_law 293 = .ok (.aload_n 0, 1) := by decide +kernel
theorem dL_law_294 : decode cL_law 294 = .ok (.iload_n 3, 1) := by decide +kernel
theorem dL_law_295 : decode cL_law 295 = .ok (.iconst 1, 1) := by decide +kernel
theorem dL_law_296 : decode cL_law 296 = .ok (.iadd, 1) := by decide +kernel
theorem dL_law_297 : decode cL_law 297 = .ok (.iaload, 1) := by decide +kernel
theorem dL_law_298 : decode cL_law 298 = .ok (.invokevirtual 47, 3) := by decide +kernel
theorem dL_law_301 : decode cL_law 301 = .ok (.if_icmp .eq 315, 3) := by decide +kernel
theorem dL_law_304 : decode cL_law 304 = .ok (.iconst 0, 1) := by decide +kernel
theorem dL_law_305 : decode cL_law 305 = .ok (.ireturn, 1) := by decide +kernel
theorem dL_law_306 : decode cL_law 306 = .ok (.aload_n 1, 1) := by decide +kernel
theorem dL_law_307 : decode cL_law 307 = .ok (.aload_n 0, 1) := by decide +kernel
theorem dL_law_308 : decode cL_law 308 = .ok (.iload_n 3, 1) := by decide +kernel
theorem dL_law_309 : decode cL_law 309 = .ok (.iconst 1, 1) := by decide +kernel
theorem dL_law_310 : decode cL_law 310 = .ok (.iadd, 1) := by decide +kernel
theorem dL_law_311 : decode cL_law 311 = .ok (.iaload, 1) := by decide +kernel
theorem dL_law_312 : decode cL_law 312 = .ok (.invokevirtual 48, 3) := by decide +kernel
theorem dL_law_315 : decode cL_law 315 = .ok (.aload_n 2, 1) := by decide +kernel
theorem dL_law_316 : decode cL_law 316 = .ok (.aload_n 0, 1) := by decide +kernel
theorem dL_law_317 : decode cL_law 317 = .ok (.iload_n 3, 1) := by decide +kernel
theorem dL_law_318 : decode cL_law 318 = .ok (.iconst 1, 1) := by decide +kernel
theorem dL_law_319 : decode cL_law 319 = .ok (.iadd, 1) := by decide +kernel
theorem dL_law_320 : decode cL_law 320 = .ok (.iaload, 1) := by decide +kernel
theorem dL_law_321 : decode cL_law 321 = .ok (.invokevirtual 51, 3) := by decide +kernel
theorem dL_law_324 : decode cL_law 324 = .ok (.if_icmp .eq 292, 3) := by decide +kernel
theorem dL_law_327 : decode cL_law 327 = .ok (.iconst 0, 1) := by decide +kernel
theorem dL_law_328 : decode cL_law 328 = .ok (.ireturn, 1) := by decide +kernel
theorem dL_law_329 : decode cL_law 329 = .ok (.aload_n 1, 1) := by decide +kernel
theorem dL_law_330 : decode cL_law 330 = .ok (.aload_n 0, 1) := by decide +kernel
theorem dL_law_331 : decode cL_law 331 = .ok (.iload_n 3, 1) := by decide +kernel
theorem dL_law_332 : decode cL_law 332 = .ok (.iconst 1, 1) := by decide +kernel
theorem dL_law_333 : decode cL_law 333 = .ok (.iadd, 1) := by decide +kernel
theorem dL_law_334 : decode cL_law 334 = .ok (.iaload, 1) := by decide +kernel
theorem dL_law_335 : decode cL_law 335 = .ok (.invokevirtual 52, 3) := by decide +kernel
theorem dL_law_338 : decode cL_law 338 = .ok (.aload_n 2, 1) := by decide +kernel
theorem dL_law_339 : decode cL_law 339 = .ok (.aload_n 0, 1) := by decide +kernel
theorem dL_law_340 : decode cL_law 340 = .ok (.iload_n 3, 1) := by decide +kernel
theorem dL_law_341 : decode cL_law 341 = .ok (.iconst 1, 1) := by decide +kernel
theorem dL_law_342 : decode cL_law 342 = .ok (.iadd, 1) := by decide +kernel
theorem dL_law_343 : decode cL_law 343 = .ok (.iaload, 1) := by decide +kernel
theorem dL_law_344 : decode cL_law 344 = .ok (.invokevirtual 55, 3) := by decide +kernel
theorem dL_law_347 : decode cL_law 347 = .ok (.if_icmp .eq 269, 3) := by decide +kernel
theorem dL_law_350 : decode cL_law 350 = .ok (.iconst 0, 1) := by decide +kernel
theorem dL_law_351 : decode cL_law 351 = .ok (.ireturn, 1) := by decide +kernel
theorem dL_law_352 : decode cL_law 352 = .ok (.aload_n 1, 1) := by decide +kernel
theorem dL_law_353 : decode cL_law 353 = .ok (.aload_n 0, 1) := by decide +kernel
theorem dL_law_354 : decode cL_law 354 = .ok (.iload_n 3, 1) := by decide +kernel
theorem dL_law_355 : decode cL_law 355 = .ok (.iconst 1, 1) := by decide +kernel
theorem dL_law_356 : decode cL_law 356 = .ok (.iadd, 1) := by decide +kernel
theorem dL_law_357 : decode cL_law 357 = .ok (.iaload, 1) := by decide +kernel
theorem dL_law_358 : decode cL_law 358 = .ok (.aload_n 0, 1) := by decide +kernel
theorem dL_law_359 : decode cL_law 359 = .ok (.iload_n 3, 1) := by decide +kernel
theorem dL_law_360 : decode cL_law 360 = .ok (.iconst 2, 1) := by decide +kernel
theorem dL_law_361 : decode cL_law 361 = .ok (.iadd, 1) := by decide +kernel
theorem dL_law_362 : decode cL_law 362 = .ok (.iaload, 1) := by decide +kernel
theorem dL_law_363 : decode cL_law 363 = .ok (.invokevirtual 56, 3) := by decide +kernel
theorem dL_law_366 : decode cL_law 366 = .ok (.aload_n 2, 1) := by decide +kernel
theorem dL_law_367 : decode cL_law 367 = .ok (.aload_n 0, 1) := by decide +kernel
theorem dL_law_368 : decode cL_law 368 = .ok (.iload_n 3, 1) := by decide +kernel
theorem dL_law_369 : decode cL_law 369 = .ok (.iconst 1, 1) := by decide +kernel
theorem dL_law_370 : decode cL_law 370 = .ok (.iadd, 1) := by decide +kernel
theorem dL_law_371 : decode cL_law 371 = .ok (.iaload, 1) := by decide +kernel
theorem dL_law_372 : decode cL_law 372 = .ok (.aload_n 0, 1) := by decide +kernel
theorem dL_law_373 : decode cL_law 373 = .ok (.iload_n 3, 1) := by decide +kernel
theorem dL_law_374 : decode cL_law 374 = .ok (.iconst 2, 1) := by decide +kernel
theorem dL_law_375 : decode cL_law 375 = .ok (.iadd, 1) := by decide +kernel
theorem dL_law_376 : decode cL_law 376 = .ok (.iaload, 1) := by decide +kernel
theorem dL_law_377 : decode cL_law 377 = .ok (.invokevirtual 59, 3) := by decide +kernel
theorem dL_law_380 : decode cL_law 380 = .ok (.if_icmp .eq 236, 3) := by decide +kernel
theorem dL_law_383 : decode cL_law 383 = .ok (.iconst 0, 1) := by decide +kernel
theorem dL_law_384 : decode cL_law 384 = .ok (.ireturn, 1) := by decide +kernel
theorem dL_law_385 : decode cL_law 385 = .ok (.aload_n 1, 1) := by decide +kernel
theorem dL_law_386 : decode cL_law 386 = .ok (.aload_n 0, 1) := by decide +kernel
theorem dL_law_387 : decode cL_law 387 = .ok (.iload_n 3, 1) := by decide +kernel
theorem dL_law_388 : decode cL_law 388 = .ok (.iconst 1, 1) := by decide +kernel
theorem dL_law_389 : decode cL_law 389 = .ok (.iadd, 1) := by decide +kernel
theorem dL_law_390 : decode cL_law 390 = .ok (.iaload, 1) := by decide +kernel
theorem dL_law_391 : decode cL_law 391 = .ok (.invokevirtual 60, 3) := by decide +kernel
theorem dL_law_394 : decode cL_law 394 = .ok (.aload_n 2, 1) := by decide +kernel
theorem dL_law_395 : decode cL_law 395 = .ok (.aload_n 0, 1) := by decide +kernel
theorem dL_law_396 : decode cL_law 396 = .ok (.iload_n 3, 1) := by decide +kernel
theorem dL_law_397 : decode cL_law 397 = .ok (.iconst 1, 1) := by decide +kernel
theorem dL_law_398 : decode cL_law 398 = .ok (.iadd, 1) := by decide +kernel
theorem dL_law_399 : decode cL_law 399 = .ok (.iaload, 1) := by decide +kernel
theorem dL_law_400 : decode cL_law 400 = .ok (.invokevirtual 63, 3) := by decide +kernel
theorem dL_law_403 : decode cL_law 403 = .ok (.if_icmp .eq 213, 3) := by decide +kernel
theorem dL_law_406 : decode cL_law 406 = .ok (.iconst 0, 1) := by decide +kernel
theorem dL_law_407 : decode cL_law 407 = .ok (.ireturn, 1) := by decide +kernel
theorem dL_law_408 : decode cL_law 408 = .ok (.aload_n 1, 1) := by decide +kernel
theorem dL_law_409 : decode cL_law 409 = .ok (.aload_n 0, 1) := by decide +kernel
theorem dL_law_410 : decode cL_law 410 = .ok (.iload_n 3, 1) := by decide +kernel
theorem dL_law_411 : decode cL_law 411 = .ok (.iconst 1, 1) := by decide +kernel
theorem dL_law_412 : decode cL_law 412 = .ok (.iadd, 1) := by decide +kernel
theorem dL_law_413 : decode cL_law 413 = .ok (.iaload, 1) := by decide +kernel
theorem dL_law_414 : decode cL_law 414 = .ok (.aload_n 0, 1) := by decide +kernel
theorem dL_law_415 : decode cL_law 415 = .ok (.iload_n 3, 1) := by decide +kernel
theorem dL_law_416 : decode cL_law 416 = .ok (.iconst 2, 1) := by decide +kernel
theorem dL_law_417 : decode cL_law 417 = .ok (.iadd, 1) := by decide +kernel
theorem dL_law_418 : decode cL_law 418 = .ok (.iaload, 1) := by decide +kernel
theorem dL_law_419 : decode cL_law 419 = .ok (.invokevirtual 64, 3) := by decide +kernel
theorem dL_law_422 : decode cL_law 422 = .ok (.aload_n 2, 1) := by decide +kernel
theorem dL_law_423 : decode cL_law 423 = .ok (.aload_n 0, 1) := by decide +kernel
theorem dL_law_424 : decode cL_law 424 = .ok (.iload_n 3, 1) := by decide +kernel
theorem dL_law_425 : decode cL_law 425 = .ok (.iconst 1, 1) := by decide +kernel
theorem dL_law_426 : decode cL_law 426 = .ok (.iadd, 1) := by decide +kernel
theorem dL_law_427 : decode cL_law 427 = .ok (.iaload, 1) := by decide +kernel
theorem dL_law_428 : decode cL_law 428 = .ok (.aload_n 0, 1) := by decide +kernel
theorem dL_law_429 : decode cL_law 429 = .ok (.iload_n 3, 1) := by decide +kernel
theorem dL_law_430 : decode cL_law 430 = .ok (.iconst 2, 1) := by decide +kernel
theorem dL_law_431 : decode cL_law 431 = .ok (.iadd, 1) := by decide +kernel
theorem dL_law_432 : decode cL_law 432 = .ok (.iaload, 1) := by decide +kernel
theorem dL_law_433 : decode cL_law 433 = .ok (.invokevirtual 67, 3) := by decide +kernel
theorem dL_law_436 : decode cL_law 436 = .ok (.if_icmp .eq 180, 3) := by decide +kernel
theorem dL_law_439 : decode cL_law 439 = .ok (.iconst 0, 1) := by decide +kernel
theorem dL_law_440 : decode cL_law 440 = .ok (.ireturn, 1) := by decide +kernel
theorem dL_law_441 : decode cL_law 441 = .ok (.aload_n 1, 1) := by decide +kernel
theorem dL_law_442 : decode cL_law 442 = .ok (.aload_n 0, 1) := by decide +kernel
theorem dL_law_443 : decode cL_law 443 = .ok (.iload_n 3, 1) := by decide +kernel
theorem dL_law_444 : decode cL_law 444 = .ok (.iconst 1, 1) := by decide +kernel
theorem dL_law_445 : decode cL_law 445 = .ok (.iadd, 1) := by decide +kernel
theorem dL_law_446 : decode cL_law 446 = .ok (.iaload, 1) := by decide +kernel
theorem dL_law_447 : decode cL_law 447 = .ok (.aload_n 0, 1) := by decide +kernel
theorem dL_law_448 : decode cL_law 448 = .ok (.iload_n 3, 1) := by decide +kernel
theorem dL_law_449 : decode cL_law 449 = .ok (.iconst 2, 1) := by decide +kernel
theorem dL_law_450 : decode cL_law 450 = .ok (.iadd, 1) := by decide +kernel
theorem dL_law_451 : decode cL_law 451 = .ok (.iaload, 1) := by decide +kernel
theorem dL_law_452 : decode cL_law 452 = .ok (.invokevirtual 68, 3) := by decide +kernel
theorem dL_law_455 : decode cL_law 455 = .ok (.aload_n 2, 1) := by decide +kernel
theorem dL_law_456 : decode cL_law 456 = .ok (.aload_n 0, 1) := by decide +kernel
theorem dL_law_457 : decode cL_law 457 = .ok (.iload_n 3, 1) := by decide +kernel
theorem dL_law_458 : decode cL_law 458 = .ok (.iconst 1, 1) := by decide +kernel
theorem dL_law_459 : decode cL_law 459 = .ok (.iadd, 1) := by decide +kernel
theorem dL_law_460 : decode cL_law 460 = .ok (.iaload, 1) := by decide +kernel
theorem dL_law_461 : decode cL_law 461 = .ok (.aload_n 0, 1) := by decide +kernel
theorem dL_law_462 : decode cL_law 462 = .ok (.iload_n 3, 1) := by decide +kernel
theorem dL_law_463 : decode cL_law 463 = .ok (.iconst 2, 1) := by decide +kernel
theorem dL_law_464 : decode cL_law 464 = .ok (.iadd, 1) := by decide +kernel
theorem dL_law_465 : decode cL_law 465 = .ok (.iaload, 1) := by decide +kernel
theorem dL_law_466 : decode cL_law 466 = .ok (.invokevirtual 71, 3) := by decide +kernel
theorem dL_law_469 : decode cL_law 469 = .ok (.if_icmp .eq 147, 3) := by decide +kernel
theorem dL_law_472 : decode cL_law 472 = .ok (.iconst 0, 1) := by decide +kernel
theorem dL_law_473 : decode cL_law 473 = .ok (.ireturn, 1) := by decide +kernel
theorem dL_law_474 : decode cL_law 474 = .ok (.aload_n 1, 1) := by decide +kernel
theorem dL_law_475 : decode cL_law 475 = .ok (.invokevirtual 72, 3) := by decide +kernel
theorem dL_law_478 : decode cL_law 478 = .ok (.aload_n 2, 1) := by decide +kernel
theorem dL_law_479 : decode cL_law 479 = .ok (.invokevirtual 75, 3) := by decide +kernel
theorem dL_law_482 : decode cL_law 482 = .ok (.if_icmp .eq 134, 3) := by decide +kernel
theorem dL_law_485 : decode cL_law 485 = .ok (.iconst 0, 1) := by decide +kernel
theorem dL_law_486 : decode cL_law 486 = .ok (.ireturn, 1) := by decide +kernel
theorem dL_law_487 : decode cL_law 487 = .ok (.aload_n 1, 1) := by decide +kernel
theorem dL_law_488 : decode cL_law 488 = .ok (.aload_n 0, 1) := by decide +kernel
theorem dL_law_489 : decode cL_law 489 = .ok (.iload_n 3, 1) := by decide +kernel
theorem dL_law_490 : decode cL_law 490 = .ok (.iconst 1, 1) := by decide +kernel
theorem dL_law_491 : decode cL_law 491 = .ok (.iadd, 1) := by decide +kernel
theorem dL_law_492 : decode cL_law 492 = .ok (.iaload, 1) := by decide +kernel
theorem dL_law_493 : decode cL_law 493 = .ok (.invokevirtual 76, 3) := by decide +kernel
theorem dL_law_496 : decode cL_law 496 = .ok (.aload_n 2, 1) := by decide +kernel
theorem dL_law_497 : decode cL_law 497 = .ok (.aload_n 0, 1) := by decide +kernel
theorem dL_law_498 : decode cL_law 498 = .ok (.iload_n 3, 1) := by decide +kernel
theorem dL_law_499 : decode cL_law 499 = .ok (.iconst 1, 1) := by decide +kernel
theorem dL_law_500 : decode cL_law 500 = .ok (.iadd, 1) := by decide +kernel
theorem dL_law_501 : decode cL_law 501 = .ok (.iaload, 1) := by decide +kernel
theorem dL_law_502 : decode cL_law 502 = .ok (.invokevirtual 79, 3) := by decide +kernel
theorem dL_law_505 : decode cL_law 505 = .ok (.if_icmp .eq 111, 3) := by decide +kernel
theorem dL_law_508 : decode cL_law 508 = .ok (.iconst 0, 1) := by decide +kernel
theorem dL_law_509 : decode cL_law 509 = .ok (.ireturn, 1) := by decide +kernel
theorem dL_law_510 : decode cL_law 510 = .ok (.aload_n 1, 1) := by decide +kernel
theorem dL_law_511 : decode cL_law 511 = .ok (.aload_n 0, 1) := by decide +kernel
theorem dL_law_512 : decode cL_law 512 = .ok (.iload_n 3, 1) := by decide +kernel
theorem dL_law_513 : decode cL_law 513 = .ok (.iconst 1, 1) := by decide +kernel
theorem dL_law_514 : decode cL_law 514 = .ok (.iadd, 1) := by decide +kernel
theorem dL_law_515 : decode cL_law 515 = .ok (.iaload, 1) := by decide +kernel
theorem dL_law_516 : decode cL_law 516 = .ok (.aload_n 0, 1) := by decide +kernel
theorem dL_law_517 : decode cL_law 517 = .ok (.iload_n 3, 1) := by decide +kernel
theorem dL_law_518 : decode cL_law 518 = .ok (.iconst 2, 1) := by decide +kernel
theorem dL_law_519 : decode cL_law 519 = .ok (.iadd, 1) := by decide +kernel
theorem dL_law_520 : decode cL_law 520 = .ok (.iaload, 1) := by decide +kernel
theorem dL_law_521 : decode cL_law 521 = .ok (.aload_n 0, 1) := by decide +kernel
theorem dL_law_522 : decode cL_law 522 = .ok (.iload_n 3, 1) := by decide +kernel
theorem dL_law_523 : decode cL_law 523 = .ok (.iconst 3, 1) := by decide +kernel
theorem dL_law_524 : decode cL_law 524 = .ok (.iadd, 1) := by decide +kernel
theorem dL_law_525 : decode cL_law 525 = .ok (.iaload, 1) := by decide +kernel
theorem dL_law_526 : decode cL_law 526 = .ok (.invokevirtual 80, 3) := by decide +kernel
theorem dL_law_529 : decode cL_law 529 = .ok (.aload_n 2, 1) := by decide +kernel
theorem dL_law_530 : decode cL_law 530 = .ok (.aload_n 0, 1) := by decide +kernel
theorem dL_law_531 : decode cL_law 531 = .ok (.iload_n 3, 1) := by decide +kernel
theorem dL_law_532 : decode cL_law 532 = .ok (.iconst 1, 1) := by decide +kernel
theorem dL_law_533 : decode cL_law 533 = .ok (.iadd, 1) := by decide +kernel
theorem dL_law_534 : decode cL_law 534 = .ok (.iaload, 1) := by decide +kernel
theorem dL_law_535 : decode cL_law 535 = .ok (.aload_n 0, 1) := by decide +kernel
theorem dL_law_536 : decode cL_law 536 = .ok (.iload_n 3, 1) := by decide +kernel
theorem dL_law_537 : decode cL_law 537 = .ok (.iconst 2, 1) := by decide +kernel
theorem dL_law_538 : decode cL_law 538 = .ok (.iadd, 1) := by decide +kernel
theorem dL_law_539 : decode cL_law 539 = .ok (.iaload, 1) := by decide +kernel
theorem dL_law_540 : decode cL_law 540 = .ok (.aload_n 0, 1) := by decide +kernel
theorem dL_law_541 : decode cL_law 541 = .ok (.iload_n 3, 1) := by decide +kernel
theorem dL_law_542 : decode cL_law 542 = .ok (.iconst 3, 1) := by decide +kernel
theorem dL_law_543 : decode cL_law 543 = .ok (.iadd, 1) := by decide +kernel
theorem dL_law_544 : decode cL_law 544 = .ok (.iaload, 1) := by decide +kernel
theorem dL_law_545 : decode cL_law 545 = .ok (.invokevirtual 84, 3) := by decide +kernel
theorem dL_law_548 : decode cL_law 548 = .ok (.if_icmp .eq 68, 3) := by decide +kernel
theorem dL_law_551 : decode cL_law 551 = .ok (.iconst 0, 1) := by decide +kernel
theorem dL_law_552 : decode cL_law 552 = .ok (.ireturn, 1) := by decide +kernel
theorem dL_law_553 : decode cL_law 553 = .ok (.aload_n 1, 1) := by decide +kernel
theorem dL_law_554 : decode cL_law 554 = .ok (.invokevirtual 85, 3) := by decide +kernel
theorem dL_law_557 : decode cL_law 557 = .ok (.aload_n 2, 1) := by decide +kernel
theorem dL_law_558 : decode cL_law 558 = .ok (.invokevirtual 88, 3) := by decide +kernel
theorem dL_law_561 : decode cL_law 561 = .ok (.if_icmp .eq 55, 3) := by decide +kernel
theorem dL_law_564 : decode cL_law 564 = .ok (.iconst 0, 1) := by decide +kernel
theorem dL_law_565 : decode cL_law 565 = .ok (.ireturn, 1) := by decide +kernel
theorem dL_law_566 : decode cL_law 566 = .ok (.aload_n 1, 1) := by decide +kernel
theorem dL_law_567 : decode cL_law 567 = .ok (.invokevirtual 89, 3) := by decide +kernel
theorem dL_law_570 : decode cL_law 570 = .ok (.aload_n 2, 1) := by decide +kernel
theorem dL_law_571 : decode cL_law 571 = .ok (.invokevirtual 92, 3) := by decide +kernel
theorem dL_law_574 : decode cL_law 574 = .ok (.if_icmp .eq 42, 3) := by decide +kernel
theorem dL_law_577 : decode cL_law 577 = .ok (.iconst 0, 1) := by decide +kernel
theorem dL_law_578 : decode cL_law 578 = .ok (.ireturn, 1) := by decide +kernel
theorem dL_law_579 : decode cL_law 579 = .ok (.aload_n 1, 1) := by decide +kernel
theorem dL_law_580 : decode cL_law 580 = .ok (.aload_n 0, 1) := by decide +kernel
theorem dL_law_581 : decode cL_law 581 = .ok (.iload_n 3, 1) := by decide +kernel
theorem dL_law_582 : decode cL_law 582 = .ok (.iconst 1, 1) := by decide +kernel
theorem dL_law_583 : decode cL_law 583 = .ok (.iadd, 1) := by decide +kernel
theorem dL_law_584 : decode cL_law 584 = .ok (.iaload, 1) := by decide +kernel
theorem dL_law_585 : decode cL_law 585 = .ok (.invokevirtual 93, 3) := by decide +kernel
theorem dL_law_588 : decode cL_law 588 = .ok (.aload_n 2, 1) := by decide +kernel
theorem dL_law_589 : decode cL_law 589 = .ok (.aload_n 0, 1) := by decide +kernel
theorem dL_law_590 : decode cL_law 590 = .ok (.iload_n 3, 1) := by decide +kernel
theorem dL_law_591 : decode cL_law 591 = .ok (.iconst 1, 1) := by decide +kernel
theorem dL_law_592 : decode cL_law 592 = .ok (.iadd, 1) := by decide +kernel
theorem dL_law_593 : decode cL_law 593 = .ok (.iaload, 1) := by decide +kernel
theorem dL_law_594 : decode cL_law 594 = .ok (.invokevirtual 96, 3) := by decide +kernel
theorem dL_law_597 : decode cL_law 597 = .ok (.if_icmp .eq 19, 3) := by decide +kernel
theorem dL_law_600 : decode cL_law 600 = .ok (.iconst 0, 1) := by decide +kernel
theorem dL_law_601 : decode cL_law 601 = .ok (.ireturn, 1) := by decide +kernel
theorem dL_law_602 : decode cL_law 602 = .ok (.aload_n 1, 1) := by decide +kernel
theorem dL_law_603 : decode cL_law 603 = .ok (.invokevirtual 97, 3) := by decide +kernel
theorem dL_law_606 : decode cL_law 606 = .ok (.aload_n 2, 1) := by decide +kernel
theorem dL_law_607 : decode cL_law 607 = .ok (.invokevirtual 101, 3) := by decide +kernel
theorem dL_law_610 : decode cL_law 610 = .ok (.lcmp, 1) := by decide +kernel
theorem dL_law_611 : decode cL_law 611 = .ok (.ifCond .eq 5, 3) := by decide +kernel
theorem dL_law_614 : decode cL_law 614 = .ok (.iconst 0, 1) := by decide +kernel
theorem dL_law_615 : decode cL_law 615 = .ok (.ireturn, 1) := by decide +kernel
theorem dL_law_616 : decode cL_law 616 = .ok (.iinc 3 4, 3) := by decide +kernel
theorem dL_law_619 : decode cL_law 619 = .ok (.goto (-601), 3) := by decide +kernel
theorem dL_law_622 : decode cL_law 622 = .ok (.iconst 1, 1) := by decide +kernel
theorem dL_law_623 : decode cL_law 623 = .ok (.ireturn, 1) := by decide +kernel
end
section
/-! ===== the ids of a launch, what the tables say beyond the words, worlds as lists ===== -/
abbrev zGT : Type := va_G × ClassId × ClassId × ClassId
def z_tys (G : zGT) : List (ClassId × FieldType) := [(G.2.1, .int), (G.2.2.1, .byte), (G.2.2.2, .object "OneTimer$Pot")]
def zN1 : List (String × Nat × MethodName) := [(RX9, 9, yX3_init), (RX9, 24, yX8_init), (RX9, 34, yX4_init), (RX9, 41, yX1_init), (RX5, 34, yX9_outBy), (RX8, 23, yX9_outBy)]
def zN2 : List (String × String) := [(RX0, "OneTimer$Pot"), (RX2, "OneTimer$Pot"), (RX6, "OneTimer$Pot"), (RX7, "OneTimer$Pot"), (RX0, "OneTimer$Rice")]
def zN3 : List (String × String) := [(RX0, "OneTimer$Eggs"), (RX0, "OneTimer$Stew"), (RX2, "OneTimer$Rice"), (RX2, "OneTimer$Stew"), (RX2, "OneTimer$Beans"), (RX5, "OneTimer$Eggs"), (RX5, "OneTimer$Rice"), (RX5, "OneTimer$Stew"), (RX5, "OneTimer$Beans"), (RX6, "OneTimer$Eggs"), (RX6, "OneTimer$Stew"), (RX6, "OneTimer$Beans"), (RX7, "OneTimer$Eggs"), (RX7, "OneTimer$Rice"), (RX7, "OneTimer$Beans")]
def zG (G : zGT) (U : State) : Prop := va_K G.1 vwCl (z_tys G) U ∧ (∀ q ∈ zN1, va_Nw (.methodLinkNest q.1 q.2.1 q.2.2 "OneTimer") U) ∧ (∀ q ∈ zN2, va_Nw (.castable q.1 q.2) U) ∧ va_AO "OneTimer$Pot" U ∧ ∀ q ∈ zN3, va_Nc q.1 q.2 U
theorem zG.warm {G : zGT} {s U : State} (hW : s.WarmedH U.vm) (h : zG G s) : zG G U := ⟨va_K.moved hW.alike h.1, fun q hq => va_Nw.warmM hW (h.2.1 q hq), fun q hq => va_Nw.warmC hW (h.2.2.1 q hq), va_AO.moved hW.alike h.2.2.2.1, fun q hq => va_Nc.moved hW.alike (h.2.2.2.2 q hq)⟩
theorem zG.call {G : zGT} {U : State} (g : JFrame) (mk : MethodId) (a : Array Value) (h : zG G U) : zG G (U.calling g mk a) := ⟨va_K.moved (u := U) (U := U.calling g mk a) (Vm.Alike.refl U.vm) h.1, fun q hq => va_Nw.same (u := U) rfl rfl (h.2.1 q hq), fun q hq => va_Nw.same (u := U) rfl rfl (h.2.2.1 q hq), va_AO.moved (u := U) (U := U.calling g mk a) (Vm.Alike.refl U.vm) h.2.2.2.1, fun q hq => va_Nc.moved (u := U) (U := U.calling g mk a) (Vm.Alike.refl U.vm) (h.2.2.2.2 q hq)⟩
abbrev zo (a ci : Nat) (fs : List Value) : Nat × va_E := (a, .inr (ci, fs))
abbrev zi (G : zGT) (a n : Nat) (f : Nat → Int32) : Nat × va_E := (a, .inl (G.2.1, n, .inl f))
abbrev zb (G : zGT) (a n : Nat) (f : Nat → Int32) : Nat × va_E := (a, .inl (G.2.2.1, n, .inl f))
abbrev zq (G : zGT) (a n : Nat) (f : Nat → Option Nat) : Nat × va_E := (a, .inl (G.2.2.2, n, .inr (.inr (.inr (.inr f)))))
/-- what stays the same all through a method's body -/
def zC (p : Program) (s : State) (m : MethodId) (args : Array Value) (meth : Method) (c : Code) (A : Nat → Prop) (G : zGT) (cc : ByteArray) (nL : Nat) (rt : Option FieldType) (own nm : String) (Ts : List Cond) : Prop :=
  p.tables.exec = Jvm.exec ∧ c.code = cc ∧ c.maxLocals = nL ∧ s.vm.findClass own = some m.cls ∧ (∀ w ∈ Ts, w.before args s = true) ∧ zG G s ∧ (∀ q : Nat, s.heap.size ≤ q → A q) ∧ meth.locks = false ∧ meth.sig.returnType = rt ∧ meth.name = nm
/-- the machine at pc, in every heap that holds the world w and every frame that holds the locals lv, comes to Q -/
def Z (p : Program) (l : Launch) (e : Env) (R : Room) (s : State) (m : MethodId) (args : Array Value) (below : List Frame) (meth : Method) (c : Code) (A : Nat → Prop) (G : zGT) (nL : Nat) (Q : State → Prop) (cs ss : Nat) (w : va_W) (lv : List (Nat × Value)) (pc : Nat) (st : List Value) : Prop :=
  ∀ (H : Heap) (locs : List Loc) (ls : Array Slot), va_P G.1 vwCl w H → va_D A w → va_S A s.heap H locs → lv_has ls nL lv → W p l e R s m args below meth c H locs cs ss Q (F0 m pc ls st)
/-- a method's start and end, in worlds -/
def zPre (G : zGT) (w : va_W) (sz : Nat) : State → Prop := fun U => U.heap.size = sz ∧ va_P G.1 vwCl w U.heap ∧ zG G U ∧ va_D (fun _ => True) w
def zPost (G : zGT) (A : Nat → Prop) : va_W → State → Prop := fun u t => va_P G.1 vwCl u t.heap ∧ va_D A u
def MG (l : Launch) (y : MethodName) (ws : List Cond) (rm : Room) (G : zGT) (as : List Value) (w : va_W) (Qk : (va_W → State → Prop) → (Nat → Prop) → Array Value → State → Outcome → State → Prop) : Prop := ∀ sz : Nat, Met l y ws rm (va_Pc as (zPre G w sz)) (Qk (zPost G (va_A w sz)) (va_A w sz)) rm.cells rm.slots (va_A w sz)
theorem MG.of {l : Launch} {y : MethodName} {ws ws' : List Cond} {rm : Room} {G : zGT} {as : List Value} {w : va_W} {Qk : (va_W → State → Prop) → (Nat → Prop) → Array Value → State → Outcome → State → Prop} {cc : ByteArray} {maxL : Nat} {ret : Option FieldType} {own nm : String} (hy : plainName y.cls = true) (hw : ws = Cond.code y cc maxL ret :: ws') (ho : y.cls = own) (hn : y.name = nm) (hlen : (lg_sl as).length ≤ maxL)
    (body : ∀ (p : Program) (e : Env) (s : State) (m : MethodId) (args : Array Value) (below : List Frame) (meth : Method) (c : Code) (A : Nat → Prop), zC p s m args meth c A G cc maxL ret own nm ws → Z p l e rm s m args below meth c A G maxL (MQ below (Qk (zPost G A) A) args s rm.cells rm.slots A) 0 0 w (lv_args 0 as) 0 []) : MG l y ws rm G as w Qk := by
  subst ho
  subst hn
  intro sz
  refine Met.ofW (cc := cc) (maxL := maxL) (ret := ret) hy hw ?_
  intro p e s m args below meth c s₁ B hml hv
  obtain ⟨rfl, hsz, hP, hG, hD0⟩ := hv
  subst hsz
  have hl := lv_entry as (n := maxL) hlen
  rw [lg_entry_eq]
  exact body p e s m _ below meth c (va_A w s.heap.size) ⟨B.exec, B.bytes, hml, findClass_of_methodNamed B.named, atoms_spec (ws := ws) B.pre, hG, fun q h => Or.inr h, B.notSynchronized, B.returns, (name_of_methodNamed B.named B.method).1⟩ s.heap [] _ hP hD0.self va_S.rf hl
theorem zfree {A : Nat → Prop} {w : va_W} {H0 H : Heap} {locs : List Loc} (hD : va_D A w) (hS : va_S A H0 H locs) (hA : ∀ q : Nat, H0.size ≤ q → A q) : ∀ q, va_A w H.size q → A q := by
  intro q h
  rcases h with ⟨k, e, h⟩ | h
  · exact hD.2 k (q, e) h
  · exact hA q (Nat.le_trans hS.1 h)
section ZR
variable {p : Program} {l : Launch} {e : Env} {R : Room} {s : State} {m : MethodId} {args : Array Value} {below : List Frame} {meth : Method} {c : Code} {A : Nat → Prop} {G : zGT} {cc : ByteArray} {nL : Nat} {rt : Option FieldType} {own nm : String} {Ts : List Cond} {Q : State → Prop} {cs ss : Nat} {w : va_W} {lv : List (Nat × Value)} {pc : Nat} {st : List Value}
theorem zC.hx (C : zC p s m args meth c A G cc nL rt own nm Ts) : p.tables.exec = Jvm.exec := C.1
theorem zC.hb (C : zC p s m args meth c A G cc nL rt own nm Ts) : c.code = cc := C.2.1
theorem zC.hml (C : zC p s m args meth c A G cc nL rt own nm Ts) : c.maxLocals = nL := C.2.2.1
theorem zC.hown (C : zC p s m args meth c A G cc nL rt own nm Ts) : s.vm.findClass own = some m.cls := C.2.2.2.1
theorem zC.hts (C : zC p s m args meth c A G cc nL rt own nm Ts) : ∀ w ∈ Ts, w.before args s = true := C.2.2.2.2.1
theorem zC.hG (C : zC p s m args meth c A G cc nL rt own nm Ts) : zG G s := C.2.2.2.2.2.1
theorem zC.hA (C : zC p s m args meth c A G cc nL rt own nm Ts) : ∀ q : Nat, s.heap.size ≤ q → A q := C.2.2.2.2.2.2.1
theorem zC.hlk (C : zC p s m args meth c A G cc nL rt own nm Ts) : meth.locks = false := C.2.2.2.2.2.2.2.1
theorem zC.hr (C : zC p s m args meth c A G cc nL rt own nm Ts) : meth.sig.returnType = rt := C.2.2.2.2.2.2.2.2.1
theorem zC.hnm (C : zC p s m args meth c A G cc nL rt own nm Ts) : meth.name = nm := C.2.2.2.2.2.2.2.2.2
theorem zC.fix (C : zC p s m args meth c A G cc nL rt own nm Ts) : CallFix p m c cc nL s args Ts own := ⟨C.hx, C.hb, C.hml, C.hown, C.hts⟩
theorem z_iconst (C : zC p s m args meth c A G cc nL rt own nm Ts) {n : Int} {v : Int32} (hd : decode cc pc = .ok (.iconst n, 1)) (hv : Int32.ofInt n = v) (kk : Z p l e R s m args below meth c A G nL Q cs ss w lv (pc + 1) (.int v :: st)) : Z p l e R s m args below meth c A G nL Q cs ss w lv pc st := fun H locs ls hP hD hS hl => lv_iconst C.hx C.hb hd hv (kk H locs ls hP hD hS hl)
theorem z_bipush (C : zC p s m args meth c A G cc nL rt own nm Ts) {n : Int} {v : Int32} (hd : decode cc pc = .ok (.bipush n, 2)) (hv : (Int8.ofInt n).toInt32 = v) (kk : Z p l e R s m args below meth c A G nL Q cs ss w lv (pc + 2) (.int v :: st)) : Z p l e R s m args below meth c A G nL Q cs ss w lv pc st := fun H locs ls hP hD hS hl => lv_bipush C.hx C.hb hd hv (kk H locs ls hP hD hS hl)
theorem z_sipush (C : zC p s m args meth c A G cc nL rt own nm Ts) {n : Int} {v : Int32} (hd : decode cc pc = .ok (.sipush n, 3)) (hv : (Int16.ofInt n).toInt32 = v) (kk : Z p l e R s m args below meth c A G nL Q cs ss w lv (pc + 3) (.int v :: st)) : Z p l e R s m args below meth c A G nL Q cs ss w lv pc st := fun H locs ls hP hD hS hl => lv_sipush C.hx C.hb hd hv (kk H locs ls hP hD hS hl)
theorem z_lconst (C : zC p s m args meth c A G cc nL rt own nm Ts) {n : Fin 2} {v : Int64} (hd : decode cc pc = .ok (.lconst n, 1)) (hv : Int64.ofNat (n : Nat) = v) (kk : Z p l e R s m args below meth c A G nL Q cs ss w lv (pc + 1) (.long v :: st)) : Z p l e R s m args below meth c A G nL Q cs ss w lv pc st := fun H locs ls hP hD hS hl => lv_lconst C.hx C.hb hd hv (kk H locs ls hP hD hS hl)
theorem z_ldc (C : zC p s m args meth c A G cc nL rt own nm Ts) {index : Nat} {v : Int32} (hc : Cond.constant own index v ∈ Ts) (hd : decode cc pc = .ok (.ldc index, 2)) (kk : Z p l e R s m args below meth c A G nL Q cs ss w lv (pc + 2) (.int v :: st)) : Z p l e R s m args below meth c A G nL Q cs ss w lv pc st := fun H locs ls hP hD hS hl => lv_ldc C.hx C.hb C.hown (C.hts _ hc) hd (kk H locs ls hP hD hS hl)
theorem z_ldcw (C : zC p s m args meth c A G cc nL rt own nm Ts) {index : Nat} {v : Int32} (hc : Cond.constant own index v ∈ Ts) (hd : decode cc pc = .ok (.ldc_w index, 3)) (kk : Z p l e R s m args below meth c A G nL Q cs ss w lv (pc + 3) (.int v :: st)) : Z p l e R s m args below meth c A G nL Q cs ss w lv pc st := fun H locs ls hP hD hS hl => lv_ldcw C.hx C.hb C.hown (C.hts _ hc) hd (kk H locs ls hP hD hS hl)
theorem z_ldc2 (C : zC p s m args meth c A G cc nL rt own nm Ts) {index : Nat} {v : Int64} (hc : Cond.constantLong own index v ∈ Ts) (hd : decode cc pc = .ok (.ldc2_w index, 3)) (kk : Z p l e R s m args below meth c A G nL Q cs ss w lv (pc + 3) (.long v :: st)) : Z p l e R s m args below meth c A G nL Q cs ss w lv pc st := fun H locs ls hP hD hS hl => lv_ldc2 C.hx C.hb C.hown (C.hts _ hc) hd (kk H locs ls hP hD hS hl)
theorem z_null (C : zC p s m args meth c A G cc nL rt own nm Ts) (hd : decode cc pc = .ok (.aconst_null, 1)) (kk : Z p l e R s m args below meth c A G nL Q cs ss w lv (pc + 1) (.null :: st)) : Z p l e R s m args below meth c A G nL Q cs ss w lv pc st := fun H locs ls hP hD hS hl => lv_null C.hx C.hb hd (kk H locs ls hP hD hS hl)
theorem z_iload (C : zC p s m args meth c A G cc nL rt own nm Ts) {i : Nat} {x : Int32} (j : Nat) (hd : decode cc pc = .ok (.iload i, 2)) (hj : lv[j]? = some (i, .int x)) (kk : Z p l e R s m args below meth c A G nL Q cs ss w lv (pc + 2) (.int x :: st)) : Z p l e R s m args below meth c A G nL Q cs ss w lv pc st := fun H locs ls hP hD hS hl => lv_iload C.hx C.hb hd (lv_at hl j hj) (kk H locs ls hP hD hS hl)
theorem z_iload_n (C : zC p s m args meth c A G cc nL rt own nm Ts) {k : Fin 4} {i : Nat} {x : Int32} (j : Nat) (hd : decode cc pc = .ok (.iload_n k, 1)) (hi : (k : Nat) = i) (hj : lv[j]? = some (i, .int x)) (kk : Z p l e R s m args below meth c A G nL Q cs ss w lv (pc + 1) (.int x :: st)) : Z p l e R s m args below meth c A G nL Q cs ss w lv pc st := fun H locs ls hP hD hS hl => lv_iload_n C.hx C.hb hd hi (lv_at hl j hj) (kk H locs ls hP hD hS hl)
theorem z_lload (C : zC p s m args meth c A G cc nL rt own nm Ts) {i : Nat} {x : Int64} (j : Nat) (hd : decode cc pc = .ok (.lload i, 2)) (hj : lv[j]? = some (i, .long x)) (kk : Z p l e R s m args below meth c A G nL Q cs ss w lv (pc + 2) (.long x :: st)) : Z p l e R s m args below meth c A G nL Q cs ss w lv pc st := fun H locs ls hP hD hS hl => lv_lload C.hx C.hb hd (lv_at hl j hj) (kk H locs ls hP hD hS hl)
theorem z_lload_n (C : zC p s m args meth c A G cc nL rt own nm Ts) {k : Fin 4} {i : Nat} {x : Int64} (j : Nat) (hd : decode cc pc = .ok (.lload_n k, 1)) (hi : (k : Nat) = i) (hj : lv[j]? = some (i, .long x)) (kk : Z p l e R s m args below meth c A G nL Q cs ss w lv (pc + 1) (.long x :: st)) : Z p l e R s m args below meth c A G nL Q cs ss w lv pc st := fun H locs ls hP hD hS hl => lv_lload_n C.hx C.hb hd hi (lv_at hl j hj) (kk H locs ls hP hD hS hl)
theorem z_aload (C : zC p s m args meth c A G cc nL rt own nm Ts) {i : Nat} {x : Nat} (j : Nat) (hd : decode cc pc = .ok (.aload i, 2)) (hj : lv[j]? = some (i, .ref x)) (kk : Z p l e R s m args below meth c A G nL Q cs ss w lv (pc + 2) (.ref x :: st)) : Z p l e R s m args below meth c A G nL Q cs ss w lv pc st := fun H locs ls hP hD hS hl => lv_aload C.hx C.hb hd (lv_at hl j hj) (kk H locs ls hP hD hS hl)
theorem z_aload_n (C : zC p s m args meth c A G cc nL rt own nm Ts) {k : Fin 4} {i : Nat} {x : Nat} (j : Nat) (hd : decode cc pc = .ok (.aload_n k, 1)) (hi : (k : Nat) = i) (hj : lv[j]? = some (i, .ref x)) (kk : Z p l e R s m args below meth c A G nL Q cs ss w lv (pc + 1) (.ref x :: st)) : Z p l e R s m args below meth c A G nL Q cs ss w lv pc st := fun H locs ls hP hD hS hl => lv_aload_n C.hx C.hb hd hi (lv_at hl j hj) (kk H locs ls hP hD hS hl)
theorem z_aloadN (C : zC p s m args meth c A G cc nL rt own nm Ts) {i : Nat} (j : Nat) (hd : decode cc pc = .ok (.aload i, 2)) (hj : lv[j]? = some (i, .null)) (kk : Z p l e R s m args below meth c A G nL Q cs ss w lv (pc + 2) (.null :: st)) : Z p l e R s m args below meth c A G nL Q cs ss w lv pc st := fun H locs ls hP hD hS hl => lv_aloadN C.hx C.hb hd (lv_at hl j hj) (kk H locs ls hP hD hS hl)
theorem z_aload_nN (C : zC p s m args meth c A G cc nL rt own nm Ts) {k : Fin 4} {i : Nat} (j : Nat) (hd : decode cc pc = .ok (.aload_n k, 1)) (hi : (k : Nat) = i) (hj : lv[j]? = some (i, .null)) (kk : Z p l e R s m args below meth c A G nL Q cs ss w lv (pc + 1) (.null :: st)) : Z p l e R s m args below meth c A G nL Q cs ss w lv pc st := fun H locs ls hP hD hS hl => lv_aload_nN C.hx C.hb hd hi (lv_at hl j hj) (kk H locs ls hP hD hS hl)
theorem z_istore (C : zC p s m args meth c A G cc nL rt own nm Ts) {i : Nat} {x : Int32} {lv2 : List (Nat × Value)} (hd : decode cc pc = .ok (.istore i, 2)) (hn : i < nL) (hv : (i, Value.int x) :: lv.filter (fun q => !(q.1 == i) && !(q.1 + 1 == i && q.2.category == 2)) = lv2) (kk : Z p l e R s m args below meth c A G nL Q cs ss w lv2 (pc + 2) st) : Z p l e R s m args below meth c A G nL Q cs ss w lv pc (.int x :: st) := fun H locs ls hP hD hS hl => lv_istore C.hx C.hb hd hl hn hv (fun ls2 hl2 => kk H locs ls2 hP hD hS hl2)
theorem z_istore_n (C : zC p s m args meth c A G cc nL rt own nm Ts) {k : Fin 4} {i : Nat} {x : Int32} {lv2 : List (Nat × Value)} (hd : decode cc pc = .ok (.istore_n k, 1)) (hi : (k : Nat) = i) (hn : i < nL) (hv : (i, Value.int x) :: lv.filter (fun q => !(q.1 == i) && !(q.1 + 1 == i && q.2.category == 2)) = lv2) (kk : Z p l e R s m args below meth c A G nL Q cs ss w lv2 (pc + 1) st) : Z p l e R s m args below meth c A G nL Q cs ss w lv pc (.int x :: st) := fun H locs ls hP hD hS hl => lv_istore_n C.hx C.hb hd hi hl hn hv (fun ls2 hl2 => kk H locs ls2 hP hD hS hl2)
theorem z_lstore (C : zC p s m args meth c A G cc nL rt own nm Ts) {i : Nat} {x : Int64} {lv2 : List (Nat × Value)} (hd : decode cc pc = .ok (.lstore i, 2)) (hn : i + 1 < nL) (hv : (i, Value.long x) :: lv.filter (fun q => !(q.1 == i) && (!(q.1 == i + 1) && !(q.1 + 1 == i && q.2.category == 2))) = lv2) (kk : Z p l e R s m args below meth c A G nL Q cs ss w lv2 (pc + 2) st) : Z p l e R s m args below meth c A G nL Q cs ss w lv pc (.long x :: st) := fun H locs ls hP hD hS hl => lv_lstore C.hx C.hb hd hl hn hv (fun ls2 hl2 => kk H locs ls2 hP hD hS hl2)
theorem z_lstore_n (C : zC p s m args meth c A G cc nL rt own nm Ts) {k : Fin 4} {i : Nat} {x : Int64} {lv2 : List (Nat × Value)} (hd : decode cc pc = .ok (.lstore_n k, 1)) (hi : (k : Nat) = i) (hn : i + 1 < nL) (hv : (i, Value.long x) :: lv.filter (fun q => !(q.1 == i) && (!(q.1 == i + 1) && !(q.1 + 1 == i && q.2.category == 2))) = lv2) (kk : Z p l e R s m args below meth c A G nL Q cs ss w lv2 (pc + 1) st) : Z p l e R s m args below meth c A G nL Q cs ss w lv pc (.long x :: st) := fun H locs ls hP hD hS hl => lv_lstore_n C.hx C.hb hd hi hl hn hv (fun ls2 hl2 => kk H locs ls2 hP hD hS hl2)
theorem z_astore (C : zC p s m args meth c A G cc nL rt own nm Ts) {i : Nat} {x : Nat} {lv2 : List (Nat × Value)} (hd : decode cc pc = .ok (.astore i, 2)) (hn : i < nL) (hv : (i, Value.ref x) :: lv.filter (fun q => !(q.1 == i) && !(q.1 + 1 == i && q.2.category == 2)) = lv2) (kk : Z p l e R s m args below meth c A G nL Q cs ss w lv2 (pc + 2) st) : Z p l e R s m args below meth c A G nL Q cs ss w lv pc (.ref x :: st) := fun H locs ls hP hD hS hl => lv_astore C.hx C.hb hd hl hn hv (fun ls2 hl2 => kk H locs ls2 hP hD hS hl2)
theorem z_astore_n (C : zC p s m args meth c A G cc nL rt own nm Ts) {k : Fin 4} {i : Nat} {x : Nat} {lv2 : List (Nat × Value)} (hd : decode cc pc = .ok (.astore_n k, 1)) (hi : (k : Nat) = i) (hn : i < nL) (hv : (i, Value.ref x) :: lv.filter (fun q => !(q.1 == i) && !(q.1 + 1 == i && q.2.category == 2)) = lv2) (kk : Z p l e R s m args below meth c A G nL Q cs ss w lv2 (pc + 1) st) : Z p l e R s m args below meth c A G nL Q cs ss w lv pc (.ref x :: st) := fun H locs ls hP hD hS hl => lv_astore_n C.hx C.hb hd hi hl hn hv (fun ls2 hl2 => kk H locs ls2 hP hD hS hl2)
theorem z_astoreN (C : zC p s m args meth c A G cc nL rt own nm Ts) {i : Nat} {lv2 : List (Nat × Value)} (hd : decode cc pc = .ok (.astore i, 2)) (hn : i < nL) (hv : (i, Value.null) :: lv.filter (fun q => !(q.1 == i) && !(q.1 + 1 == i && q.2.category == 2)) = lv2) (kk : Z p l e R s m args below meth c A G nL Q cs ss w lv2 (pc + 2) st) : Z p l e R s m args below meth c A G nL Q cs ss w lv pc (.null :: st) := fun H locs ls hP hD hS hl => lv_astoreN C.hx C.hb hd hl hn hv (fun ls2 hl2 => kk H locs ls2 hP hD hS hl2)
theorem z_astore_nN (C : zC p s m args meth c A G cc nL rt own nm Ts) {k : Fin 4} {i : Nat} {lv2 : List (Nat × Value)} (hd : decode cc pc = .ok (.astore_n k, 1)) (hi : (k : Nat) = i) (hn : i < nL) (hv : (i, Value.null) :: lv.filter (fun q => !(q.1 == i) && !(q.1 + 1 == i && q.2.category == 2)) = lv2) (kk : Z p l e R s m args below meth c A G nL Q cs ss w lv2 (pc + 1) st) : Z p l e R s m args below meth c A G nL Q cs ss w lv pc (.null :: st) := fun H locs ls hP hD hS hl => lv_astore_nN C.hx C.hb hd hi hl hn hv (fun ls2 hl2 => kk H locs ls2 hP hD hS hl2)
theorem z_iinc (C : zC p s m args meth c A G cc nL rt own nm Ts) {i : Nat} {n : Int} {x v : Int32} {lv2 : List (Nat × Value)} (j : Nat) (hd : decode cc pc = .ok (.iinc i n, 3)) (hj : lv[j]? = some (i, .int x)) (hx : x + Int32.ofInt n = v) (hn : i < nL) (hv : (i, Value.int v) :: lv.filter (fun q => !(q.1 == i) && !(q.1 + 1 == i && q.2.category == 2)) = lv2) (kk : Z p l e R s m args below meth c A G nL Q cs ss w lv2 (pc + 3) st) : Z p l e R s m args below meth c A G nL Q cs ss w lv pc st := fun H locs ls hP hD hS hl => lv_iinc C.hx C.hb hd hl hj hx hn hv (fun ls2 hl2 => kk H locs ls2 hP hD hS hl2)
theorem z_lv (ks : List Nat) {lv2 : List (Nat × Value)} (h : lv_pick lv ks = lv2) (kk : Z p l e R s m args below meth c A G nL Q cs ss w lv2 pc st) : Z p l e R s m args below meth c A G nL Q cs ss w lv pc st := fun H locs ls hP hD hS hl => kk H locs ls hP hD hS (lv_sub hl ks h)
theorem z_iadd (C : zC p s m args meth c A G cc nL rt own nm Ts) {x y : Int32} (hd : decode cc pc = .ok (.iadd, 1)) (kk : Z p l e R s m args below meth c A G nL Q cs ss w lv (pc + 1) (.int (x + y) :: st)) : Z p l e R s m args below meth c A G nL Q cs ss w lv pc (.int y :: .int x :: st) := fun H locs ls hP hD hS hl => lv_iadd C.hx C.hb hd (kk H locs ls hP hD hS hl)
theorem z_isub (C : zC p s m args meth c A G cc nL rt own nm Ts) {x y : Int32} (hd : decode cc pc = .ok (.isub, 1)) (kk : Z p l e R s m args below meth c A G nL Q cs ss w lv (pc + 1) (.int (x - y) :: st)) : Z p l e R s m args below meth c A G nL Q cs ss w lv pc (.int y :: .int x :: st) := fun H locs ls hP hD hS hl => lv_isub C.hx C.hb hd (kk H locs ls hP hD hS hl)
theorem z_imul (C : zC p s m args meth c A G cc nL rt own nm Ts) {x y : Int32} (hd : decode cc pc = .ok (.imul, 1)) (kk : Z p l e R s m args below meth c A G nL Q cs ss w lv (pc + 1) (.int (x * y) :: st)) : Z p l e R s m args below meth c A G nL Q cs ss w lv pc (.int y :: .int x :: st) := fun H locs ls hP hD hS hl => lv_imul C.hx C.hb hd (kk H locs ls hP hD hS hl)
theorem z_iand (C : zC p s m args meth c A G cc nL rt own nm Ts) {x y : Int32} (hd : decode cc pc = .ok (.iand, 1)) (kk : Z p l e R s m args below meth c A G nL Q cs ss w lv (pc + 1) (.int (x &&& y) :: st)) : Z p l e R s m args below meth c A G nL Q cs ss w lv pc (.int y :: .int x :: st) := fun H locs ls hP hD hS hl => lv_iand C.hx C.hb hd (kk H locs ls hP hD hS hl)
theorem z_ior (C : zC p s m args meth c A G cc nL rt own nm Ts) {x y : Int32} (hd : decode cc pc = .ok (.ior, 1)) (kk : Z p l e R s m args below meth c A G nL Q cs ss w lv (pc + 1) (.int (x ||| y) :: st)) : Z p l e R s m args below meth c A G nL Q cs ss w lv pc (.int y :: .int x :: st) := fun H locs ls hP hD hS hl => lv_ior C.hx C.hb hd (kk H locs ls hP hD hS hl)
theorem z_ixor (C : zC p s m args meth c A G cc nL rt own nm Ts) {x y : Int32} (hd : decode cc pc = .ok (.ixor, 1)) (kk : Z p l e R s m args below meth c A G nL Q cs ss w lv (pc + 1) (.int (x ^^^ y) :: st)) : Z p l e R s m args below meth c A G nL Q cs ss w lv pc (.int y :: .int x :: st) := fun H locs ls hP hD hS hl => lv_ixor C.hx C.hb hd (kk H locs ls hP hD hS hl)
theorem z_ishl (C : zC p s m args meth c A G cc nL rt own nm Ts) {x y : Int32} (hd : decode cc pc = .ok (.ishl, 1)) (kk : Z p l e R s m args below meth c A G nL Q cs ss w lv (pc + 1) (.int (x <<< (y &&& 31)) :: st)) : Z p l e R s m args below meth c A G nL Q cs ss w lv pc (.int y :: .int x :: st) := fun H locs ls hP hD hS hl => lv_ishl C.hx C.hb hd (kk H locs ls hP hD hS hl)
theorem z_ishr (C : zC p s m args meth c A G cc nL rt own nm Ts) {x y : Int32} (hd : decode cc pc = .ok (.ishr, 1)) (kk : Z p l e R s m args below meth c A G nL Q cs ss w lv (pc + 1) (.int (x >>> (y &&& 31)) :: st)) : Z p l e R s m args below meth c A G nL Q cs ss w lv pc (.int y :: .int x :: st) := fun H locs ls hP hD hS hl => lv_ishr C.hx C.hb hd (kk H locs ls hP hD hS hl)
theorem z_iushr (C : zC p s m args meth c A G cc nL rt own nm Ts) {x y : Int32} (hd : decode cc pc = .ok (.iushr, 1)) (kk : Z p l e R s m args below meth c A G nL Q cs ss w lv (pc + 1) (.int (x.toUInt32 >>> (y.toUInt32 &&& Int32.toUInt32 31)).toInt32 :: st)) : Z p l e R s m args below meth c A G nL Q cs ss w lv pc (.int y :: .int x :: st) := fun H locs ls hP hD hS hl => lv_iushr C.hx C.hb hd rfl (kk H locs ls hP hD hS hl)
theorem z_idiv (C : zC p s m args meth c A G cc nL rt own nm Ts) {x y : Int32} (hd : decode cc pc = .ok (.idiv, 1)) (hne : ¬ y = 0) (kk : Z p l e R s m args below meth c A G nL Q cs ss w lv (pc + 1) (.int (x / y) :: st)) : Z p l e R s m args below meth c A G nL Q cs ss w lv pc (.int y :: .int x :: st) := fun H locs ls hP hD hS hl => lv_idiv C.hx C.hb hd hne (kk H locs ls hP hD hS hl)
theorem z_irem (C : zC p s m args meth c A G cc nL rt own nm Ts) {x y : Int32} (hd : decode cc pc = .ok (.irem, 1)) (hne : ¬ y = 0) (kk : Z p l e R s m args below meth c A G nL Q cs ss w lv (pc + 1) (.int (x - x / y * y) :: st)) : Z p l e R s m args below meth c A G nL Q cs ss w lv pc (.int y :: .int x :: st) := fun H locs ls hP hD hS hl => lv_irem C.hx C.hb hd hne (kk H locs ls hP hD hS hl)
theorem z_ladd (C : zC p s m args meth c A G cc nL rt own nm Ts) {x y : Int64} (hd : decode cc pc = .ok (.ladd, 1)) (kk : Z p l e R s m args below meth c A G nL Q cs ss w lv (pc + 1) (.long (x + y) :: st)) : Z p l e R s m args below meth c A G nL Q cs ss w lv pc (.long y :: .long x :: st) := fun H locs ls hP hD hS hl => lv_ladd C.hx C.hb hd (kk H locs ls hP hD hS hl)
theorem z_lmul (C : zC p s m args meth c A G cc nL rt own nm Ts) {x y : Int64} (hd : decode cc pc = .ok (.lmul, 1)) (kk : Z p l e R s m args below meth c A G nL Q cs ss w lv (pc + 1) (.long (x * y) :: st)) : Z p l e R s m args below meth c A G nL Q cs ss w lv pc (.long y :: .long x :: st) := fun H locs ls hP hD hS hl => lv_lmul C.hx C.hb hd (kk H locs ls hP hD hS hl)
theorem z_land (C : zC p s m args meth c A G cc nL rt own nm Ts) {x y : Int64} (hd : decode cc pc = .ok (.land, 1)) (kk : Z p l e R s m args below meth c A G nL Q cs ss w lv (pc + 1) (.long (x &&& y) :: st)) : Z p l e R s m args below meth c A G nL Q cs ss w lv pc (.long y :: .long x :: st) := fun H locs ls hP hD hS hl => lv_land C.hx C.hb hd (kk H locs ls hP hD hS hl)
theorem z_ldiv (C : zC p s m args meth c A G cc nL rt own nm Ts) {x y : Int64} (hd : decode cc pc = .ok (.ldiv, 1)) (hne : ¬ y = 0) (kk : Z p l e R s m args below meth c A G nL Q cs ss w lv (pc + 1) (.long (x / y) :: st)) : Z p l e R s m args below meth c A G nL Q cs ss w lv pc (.long y :: .long x :: st) := fun H locs ls hP hD hS hl => lv_ldiv C.hx C.hb hd hne (kk H locs ls hP hD hS hl)
theorem z_lrem (C : zC p s m args meth c A G cc nL rt own nm Ts) {x y : Int64} (hd : decode cc pc = .ok (.lrem, 1)) (hne : ¬ y = 0) (kk : Z p l e R s m args below meth c A G nL Q cs ss w lv (pc + 1) (.long (x - x / y * y) :: st)) : Z p l e R s m args below meth c A G nL Q cs ss w lv pc (.long y :: .long x :: st) := fun H locs ls hP hD hS hl => lv_lrem C.hx C.hb hd hne (kk H locs ls hP hD hS hl)
theorem z_i2l (C : zC p s m args meth c A G cc nL rt own nm Ts) {x : Int32} (hd : decode cc pc = .ok (.i2l, 1)) (kk : Z p l e R s m args below meth c A G nL Q cs ss w lv (pc + 1) (.long x.toInt64 :: st)) : Z p l e R s m args below meth c A G nL Q cs ss w lv pc (.int x :: st) := fun H locs ls hP hD hS hl => lv_i2l C.hx C.hb hd rfl (kk H locs ls hP hD hS hl)
theorem z_l2i (C : zC p s m args meth c A G cc nL rt own nm Ts) {x : Int64} (hd : decode cc pc = .ok (.l2i, 1)) (kk : Z p l e R s m args below meth c A G nL Q cs ss w lv (pc + 1) (.int x.toInt32 :: st)) : Z p l e R s m args below meth c A G nL Q cs ss w lv pc (.long x :: st) := fun H locs ls hP hD hS hl => lv_l2i C.hx C.hb hd rfl (kk H locs ls hP hD hS hl)
theorem z_i2b (C : zC p s m args meth c A G cc nL rt own nm Ts) {x : Int32} (hd : decode cc pc = .ok (.i2b, 1)) (kk : Z p l e R s m args below meth c A G nL Q cs ss w lv (pc + 1) (.int x.toInt8.toInt32 :: st)) : Z p l e R s m args below meth c A G nL Q cs ss w lv pc (.int x :: st) := fun H locs ls hP hD hS hl => lv_i2b C.hx C.hb hd rfl (kk H locs ls hP hD hS hl)
theorem z_lcmp (C : zC p s m args meth c A G cc nL rt own nm Ts) {x y : Int64} (hd : decode cc pc = .ok (.lcmp, 1)) (kk : Z p l e R s m args below meth c A G nL Q cs ss w lv (pc + 1) (.int (lg_cmp x y) :: st)) : Z p l e R s m args below meth c A G nL Q cs ss w lv pc (.long y :: .long x :: st) := fun H locs ls hP hD hS hl => W.lcmp C.hx C.hb hd (kk H locs ls hP hD hS hl)
theorem z_dup (C : zC p s m args meth c A G cc nL rt own nm Ts) {a : Value} (hd : decode cc pc = .ok (.dup, 1)) (ha : a.category = 1) (kk : Z p l e R s m args below meth c A G nL Q cs ss w lv (pc + 1) (a :: a :: st)) : Z p l e R s m args below meth c A G nL Q cs ss w lv pc (a :: st) := fun H locs ls hP hD hS hl => lv_dup C.hx C.hb hd ha (kk H locs ls hP hD hS hl)
theorem z_dup2 (C : zC p s m args meth c A G cc nL rt own nm Ts) {a b : Value} (hd : decode cc pc = .ok (.dup2, 1)) (ha : a.category = 1) (hb : b.category = 1) (kk : Z p l e R s m args below meth c A G nL Q cs ss w lv (pc + 1) (a :: b :: a :: b :: st)) : Z p l e R s m args below meth c A G nL Q cs ss w lv pc (a :: b :: st) := fun H locs ls hP hD hS hl => lv_dup2_11 C.hx C.hb hd ha hb (kk H locs ls hP hD hS hl)
theorem z_pop (C : zC p s m args meth c A G cc nL rt own nm Ts) {a : Value} (hd : decode cc pc = .ok (.pop, 1)) (ha : a.category = 1) (kk : Z p l e R s m args below meth c A G nL Q cs ss w lv (pc + 1) st) : Z p l e R s m args below meth c A G nL Q cs ss w lv pc (a :: st) := fun H locs ls hP hD hS hl => lv_pop C.hx C.hb hd ha (kk H locs ls hP hD hS hl)
theorem z_goto (C : zC p s m args meth c A G cc nL rt own nm Ts) {off : Int} {tgt : Nat} (hd : decode cc pc = .ok (.goto off, 3)) (ht : (pc : Int) + off = (tgt : Int)) (kk : Z p l e R s m args below meth c A G nL Q cs ss w lv tgt st) : Z p l e R s m args below meth c A G nL Q cs ss w lv pc st := fun H locs ls hP hD hS hl => lv_goto C.hx C.hb hd ht (kk H locs ls hP hD hS hl)
theorem z_icmp_eq (C : zC p s m args meth c A G cc nL rt own nm Ts) {x y : Int32} {off : Int} {tgt : Nat} (hd : decode cc pc = .ok (.if_icmp .eq off, 3)) (ht : (pc : Int) + off = (tgt : Int)) (kt : x = y → Z p l e R s m args below meth c A G nL Q cs ss w lv tgt st) (kf : ¬ x = y → Z p l e R s m args below meth c A G nL Q cs ss w lv (pc + 3) st) : Z p l e R s m args below meth c A G nL Q cs ss w lv pc (.int y :: .int x :: st) := fun H locs ls hP hD hS hl => lv_icmp_eq C.hx C.hb hd ht (fun h => kt h H locs ls hP hD hS hl) (fun h => kf h H locs ls hP hD hS hl)
theorem z_if_eq (C : zC p s m args meth c A G cc nL rt own nm Ts) {x : Int32} {off : Int} {tgt : Nat} (hd : decode cc pc = .ok (.ifCond .eq off, 3)) (ht : (pc : Int) + off = (tgt : Int)) (kt : x = 0 → Z p l e R s m args below meth c A G nL Q cs ss w lv tgt st) (kf : ¬ x = 0 → Z p l e R s m args below meth c A G nL Q cs ss w lv (pc + 3) st) : Z p l e R s m args below meth c A G nL Q cs ss w lv pc (.int x :: st) := fun H locs ls hP hD hS hl => lv_if_eq C.hx C.hb hd ht (fun h => kt h H locs ls hP hD hS hl) (fun h => kf h H locs ls hP hD hS hl)
theorem z_icmp_ne (C : zC p s m args meth c A G cc nL rt own nm Ts) {x y : Int32} {off : Int} {tgt : Nat} (hd : decode cc pc = .ok (.if_icmp .ne off, 3)) (ht : (pc : Int) + off = (tgt : Int)) (kt : ¬ x = y → Z p l e R s m args below meth c A G nL Q cs ss w lv tgt st) (kf : x = y → Z p l e R s m args below meth c A G nL Q cs ss w lv (pc + 3) st) : Z p l e R s m args below meth c A G nL Q cs ss w lv pc (.int y :: .int x :: st) := fun H locs ls hP hD hS hl => lv_icmp_ne C.hx C.hb hd ht (fun h => kt h H locs ls hP hD hS hl) (fun h => kf h H locs ls hP hD hS hl)
theorem z_if_ne (C : zC p s m args meth c A G cc nL rt own nm Ts) {x : Int32} {off : Int} {tgt : Nat} (hd : decode cc pc = .ok (.ifCond .ne off, 3)) (ht : (pc : Int) + off = (tgt : Int)) (kt : ¬ x = 0 → Z p l e R s m args below meth c A G nL Q cs ss w lv tgt st) (kf : x = 0 → Z p l e R s m args below meth c A G nL Q cs ss w lv (pc + 3) st) : Z p l e R s m args below meth c A G nL Q cs ss w lv pc (.int x :: st) := fun H locs ls hP hD hS hl => lv_if_ne C.hx C.hb hd ht (fun h => kt h H locs ls hP hD hS hl) (fun h => kf h H locs ls hP hD hS hl)
theorem z_icmp_lt (C : zC p s m args meth c A G cc nL rt own nm Ts) {x y : Int32} {off : Int} {tgt : Nat} (hd : decode cc pc = .ok (.if_icmp .lt off, 3)) (ht : (pc : Int) + off = (tgt : Int)) (kt : x < y → Z p l e R s m args below meth c A G nL Q cs ss w lv tgt st) (kf : ¬ x < y → Z p l e R s m args below meth c A G nL Q cs ss w lv (pc + 3) st) : Z p l e R s m args below meth c A G nL Q cs ss w lv pc (.int y :: .int x :: st) := fun H locs ls hP hD hS hl => lv_icmp_lt C.hx C.hb hd ht (fun h => kt h H locs ls hP hD hS hl) (fun h => kf h H locs ls hP hD hS hl)
theorem z_if_lt (C : zC p s m args meth c A G cc nL rt own nm Ts) {x : Int32} {off : Int} {tgt : Nat} (hd : decode cc pc = .ok (.ifCond .lt off, 3)) (ht : (pc : Int) + off = (tgt : Int)) (kt : x < 0 → Z p l e R s m args below meth c A G nL Q cs ss w lv tgt st) (kf : ¬ x < 0 → Z p l e R s m args below meth c A G nL Q cs ss w lv (pc + 3) st) : Z p l e R s m args below meth c A G nL Q cs ss w lv pc (.int x :: st) := fun H locs ls hP hD hS hl => lv_if_lt C.hx C.hb hd ht (fun h => kt h H locs ls hP hD hS hl) (fun h => kf h H locs ls hP hD hS hl)
theorem z_icmp_ge (C : zC p s m args meth c A G cc nL rt own nm Ts) {x y : Int32} {off : Int} {tgt : Nat} (hd : decode cc pc = .ok (.if_icmp .ge off, 3)) (ht : (pc : Int) + off = (tgt : Int)) (kt : y ≤ x → Z p l e R s m args below meth c A G nL Q cs ss w lv tgt st) (kf : ¬ y ≤ x → Z p l e R s m args below meth c A G nL Q cs ss w lv (pc + 3) st) : Z p l e R s m args below meth c A G nL Q cs ss w lv pc (.int y :: .int x :: st) := fun H locs ls hP hD hS hl => lv_icmp_ge C.hx C.hb hd ht (fun h => kt h H locs ls hP hD hS hl) (fun h => kf h H locs ls hP hD hS hl)
theorem z_if_ge (C : zC p s m args meth c A G cc nL rt own nm Ts) {x : Int32} {off : Int} {tgt : Nat} (hd : decode cc pc = .ok (.ifCond .ge off, 3)) (ht : (pc : Int) + off = (tgt : Int)) (kt : 0 ≤ x → Z p l e R s m args below meth c A G nL Q cs ss w lv tgt st) (kf : ¬ 0 ≤ x → Z p l e R s m args below meth c A G nL Q cs ss w lv (pc + 3) st) : Z p l e R s m args below meth c A G nL Q cs ss w lv pc (.int x :: st) := fun H locs ls hP hD hS hl => lv_if_ge C.hx C.hb hd ht (fun h => kt h H locs ls hP hD hS hl) (fun h => kf h H locs ls hP hD hS hl)
theorem z_icmp_gt (C : zC p s m args meth c A G cc nL rt own nm Ts) {x y : Int32} {off : Int} {tgt : Nat} (hd : decode cc pc = .ok (.if_icmp .gt off, 3)) (ht : (pc : Int) + off = (tgt : Int)) (kt : y < x → Z p l e R s m args below meth c A G nL Q cs ss w lv tgt st) (kf : ¬ y < x → Z p l e R s m args below meth c A G nL Q cs ss w lv (pc + 3) st) : Z p l e R s m args below meth c A G nL Q cs ss w lv pc (.int y :: .int x :: st) := fun H locs ls hP hD hS hl => lv_icmp_gt C.hx C.hb hd ht (fun h => kt h H locs ls hP hD hS hl) (fun h => kf h H locs ls hP hD hS hl)
theorem z_if_gt (C : zC p s m args meth c A G cc nL rt own nm Ts) {x : Int32} {off : Int} {tgt : Nat} (hd : decode cc pc = .ok (.ifCond .gt off, 3)) (ht : (pc : Int) + off = (tgt : Int)) (kt : 0 < x → Z p l e R s m args below meth c A G nL Q cs ss w lv tgt st) (kf : ¬ 0 < x → Z p l e R s m args below meth c A G nL Q cs ss w lv (pc + 3) st) : Z p l e R s m args below meth c A G nL Q cs ss w lv pc (.int x :: st) := fun H locs ls hP hD hS hl => lv_if_gt C.hx C.hb hd ht (fun h => kt h H locs ls hP hD hS hl) (fun h => kf h H locs ls hP hD hS hl)
theorem z_icmp_le (C : zC p s m args meth c A G cc nL rt own nm Ts) {x y : Int32} {off : Int} {tgt : Nat} (hd : decode cc pc = .ok (.if_icmp .le off, 3)) (ht : (pc : Int) + off = (tgt : Int)) (kt : x ≤ y → Z p l e R s m args below meth c A G nL Q cs ss w lv tgt st) (kf : ¬ x ≤ y → Z p l e R s m args below meth c A G nL Q cs ss w lv (pc + 3) st) : Z p l e R s m args below meth c A G nL Q cs ss w lv pc (.int y :: .int x :: st) := fun H locs ls hP hD hS hl => lv_icmp_le C.hx C.hb hd ht (fun h => kt h H locs ls hP hD hS hl) (fun h => kf h H locs ls hP hD hS hl)
theorem z_if_le (C : zC p s m args meth c A G cc nL rt own nm Ts) {x : Int32} {off : Int} {tgt : Nat} (hd : decode cc pc = .ok (.ifCond .le off, 3)) (ht : (pc : Int) + off = (tgt : Int)) (kt : x ≤ 0 → Z p l e R s m args below meth c A G nL Q cs ss w lv tgt st) (kf : ¬ x ≤ 0 → Z p l e R s m args below meth c A G nL Q cs ss w lv (pc + 3) st) : Z p l e R s m args below meth c A G nL Q cs ss w lv pc (.int x :: st) := fun H locs ls hP hD hS hl => lv_if_le C.hx C.hb hd ht (fun h => kt h H locs ls hP hD hS hl) (fun h => kf h H locs ls hP hD hS hl)
theorem z_ifnull (C : zC p s m args meth c A G cc nL rt own nm Ts) {x : Nat} {off : Int} (hd : decode cc pc = .ok (.ifnull off, 3)) (kk : Z p l e R s m args below meth c A G nL Q cs ss w lv (pc + 3) st) : Z p l e R s m args below meth c A G nL Q cs ss w lv pc (.ref x :: st) := fun H locs ls hP hD hS hl => lv_ifnull C.hx C.hb hd (kk H locs ls hP hD hS hl)
theorem z_ifnullN (C : zC p s m args meth c A G cc nL rt own nm Ts) {off : Int} {tgt : Nat} (hd : decode cc pc = .ok (.ifnull off, 3)) (ht : (pc : Int) + off = (tgt : Int)) (kk : Z p l e R s m args below meth c A G nL Q cs ss w lv tgt st) : Z p l e R s m args below meth c A G nL Q cs ss w lv pc (.null :: st) := fun H locs ls hP hD hS hl => lv_ifnullN C.hx C.hb hd ht (kk H locs ls hP hD hS hl)
theorem z_ifnonnull (C : zC p s m args meth c A G cc nL rt own nm Ts) {x : Nat} {off : Int} {tgt : Nat} (hd : decode cc pc = .ok (.ifnonnull off, 3)) (ht : (pc : Int) + off = (tgt : Int)) (kk : Z p l e R s m args below meth c A G nL Q cs ss w lv tgt st) : Z p l e R s m args below meth c A G nL Q cs ss w lv pc (.ref x :: st) := fun H locs ls hP hD hS hl => lv_ifnonnull C.hx C.hb hd ht (kk H locs ls hP hD hS hl)
theorem z_ifnonnullN (C : zC p s m args meth c A G cc nL rt own nm Ts) {off : Int} (hd : decode cc pc = .ok (.ifnonnull off, 3)) (kk : Z p l e R s m args below meth c A G nL Q cs ss w lv (pc + 3) st) : Z p l e R s m args below meth c A G nL Q cs ss w lv pc (.null :: st) := fun H locs ls hP hD hS hl => lv_ifnonnullN C.hx C.hb hd (kk H locs ls hP hD hS hl)
theorem z_tableIn (C : zC p s m args meth c A G cc nL rt own nm Ts) {dflt lo hi : Int} {offs : Array Int} {len : Nat} {x : Int32} {off : Int} {tgt : Nat} (hd : decode cc pc = .ok (.tableswitch dflt lo hi offs, len)) (h1 : ¬ x.toInt < lo) (h2 : ¬ hi < x.toInt) (ho : offs[(x.toInt - lo).toNat]? = some off) (ht : (pc : Int) + off = (tgt : Int)) (kk : Z p l e R s m args below meth c A G nL Q cs ss w lv tgt st) : Z p l e R s m args below meth c A G nL Q cs ss w lv pc (.int x :: st) := fun H locs ls hP hD hS hl => lv_tableIn C.hx C.hb hd h1 h2 ho ht (kk H locs ls hP hD hS hl)
theorem z_tableOut (C : zC p s m args meth c A G cc nL rt own nm Ts) {dflt lo hi : Int} {offs : Array Int} {len : Nat} {x : Int32} {tgt : Nat} (hd : decode cc pc = .ok (.tableswitch dflt lo hi offs, len)) (h : x.toInt < lo ∨ hi < x.toInt) (ht : (pc : Int) + dflt = (tgt : Int)) (kk : Z p l e R s m args below meth c A G nL Q cs ss w lv tgt st) : Z p l e R s m args below meth c A G nL Q cs ss w lv pc (.int x :: st) := fun H locs ls hP hD hS hl => lv_tableOut C.hx C.hb hd h ht (kk H locs ls hP hD hS hl)
theorem z_lookup (C : zC p s m args meth c A G cc nL rt own nm Ts) {dflt : Int} {ps : Array (Int × Int)} {len : Nat} {x : Int32} {off : Int} {tgt : Nat} (hd : decode cc pc = .ok (.lookupswitch dflt ps, len)) (hp : (ps.toList.zip (ps.toList.drop 1)).all (fun (a, next) => a.1 < next.1) = true) (ho : Op.lookupswitch.offset ps.toList dflt x.toInt = off) (ht : (pc : Int) + off = (tgt : Int)) (kk : Z p l e R s m args below meth c A G nL Q cs ss w lv tgt st) : Z p l e R s m args below meth c A G nL Q cs ss w lv pc (.int x :: st) := fun H locs ls hP hD hS hl => lv_lookup C.hx C.hb hd hp ho ht (kk H locs ls hP hD hS hl)
theorem z_get (C : zC p s m args meth c A G cc nL rt own nm Ts) {a : Nat} {ref C0 : String} {T : u_T} {N ci index : Nat} (hin : ∀ w ∈ u_ws C0 T N, w ∈ Ts) (q0 : Nat) {fs : List Value} (he : w[q0]? = some (a, .inr (ci, fs))) (hc : vwCl[ci]? = some (C0, T, N)) (k : Nat) (hk : k < N) (hlink : Cond.fieldLink own index ref (T k).2.1 (T k).2.2.1 ∈ Ts) (hsame : ∀ x, s.fieldFound? (T k).1 (T k).2.1 (T k).2.2.1 = some x → s.fieldFound? ref (T k).2.1 (T k).2.2.1 = some x) {v : Value} (hv : fs[k]? = some v) (hd : decode cc pc = .ok (.getfield index, 3)) (kk : Z p l e R s m args below meth c A G nL Q cs ss w lv (pc + 3) (v :: st)) : Z p l e R s m args below meth c A G nL Q cs ss w lv pc (.ref a :: st) := fun H locs ls hP hD hS hl => va_get C.hx C.hb C.hts hin C.hown C.hG.1 hP q0 he hc k hk (C.hts _ hlink) hsame hv hd (kk H locs ls hP hD hS hl)
theorem z_put (C : zC p s m args meth c A G cc nL rt own nm Ts) {a : Nat} {ref C0 : String} {T : u_T} {N ci index : Nat} (hin : ∀ w ∈ u_ws C0 T N, w ∈ Ts) (ty0 : Nat → FieldType) (hty : ∀ k, k < N → parseFieldDescriptor (T k).2.2.1 = some (ty0 k)) (hnm : ∀ a, a < N → ∀ b, b < N → a ≠ b → (T a).2.1 ≠ (T b).2.1) (q0 : Nat) {fs : List Value} (he : w[q0]? = some (a, .inr (ci, fs))) (hc : vwCl[ci]? = some (C0, T, N)) (k : Nat) (hk : k < N) (hlink : Cond.fieldLink own index ref (T k).2.1 (T k).2.2.1 ∈ Ts) (hsame : ∀ x, s.fieldFound? (T k).1 (T k).2.1 (T k).2.2.1 = some x → s.fieldFound? ref (T k).2.1 (T k).2.2.1 = some x) (hfin : (T k).2.2.2 = false) {v : Value} (hn : narrow (ty0 k) v = v) (hfit : fits (ty0 k) v = true) (hlen : k < fs.length) {w2 : va_W} (hw : w.set q0 (a, .inr (ci, fs.set k v)) = w2) (hd : decode cc pc = .ok (.putfield index, 3)) (kk : Z p l e R s m args below meth c A G nL Q cs ss w2 lv (pc + 3) st) : Z p l e R s m args below meth c A G nL Q cs ss w lv pc (v :: .ref a :: st) := fun H locs ls hP hD hS hl => va_put C.hx C.hb C.hts hin ty0 hty hnm C.hown C.hG.1 hP hD hS q0 he hc k hk (C.hts _ hlink) hsame hfin (hty k hk) hn hfit hlen hd (fun H1 locs1 hP1 hD1 hS1 => kk H1 locs1 ls (hw ▸ hP1) (hw ▸ hD1) hS1 hl)
theorem z_putF (C : zC p s m args meth c A G cc nL rt own nm Ts) {a : Nat} {ref C0 : String} {T : u_T} {N ci index : Nat} (hin : ∀ w ∈ u_ws C0 T N, w ∈ Ts) (ty0 : Nat → FieldType) (hty : ∀ k, k < N → parseFieldDescriptor (T k).2.2.1 = some (ty0 k)) (hnm : ∀ a, a < N → ∀ b, b < N → a ≠ b → (T a).2.1 ≠ (T b).2.1) (q0 : Nat) {fs : List Value} (he : w[q0]? = some (a, .inr (ci, fs))) (hc : vwCl[ci]? = some (C0, T, N)) (k : Nat) (hk : k < N) (hlink : Cond.fieldLink own index ref (T k).2.1 (T k).2.2.1 ∈ Ts) (hsame : ∀ x, s.fieldFound? (T k).1 (T k).2.1 (T k).2.2.1 = some x → s.fieldFound? ref (T k).2.1 (T k).2.2.1 = some x) (hfin : (T k).2.2.2 = true) (hnm2 : nm = "<init>") (hdecl : (T k).1 = own) {v : Value} (hn : narrow (ty0 k) v = v) (hfit : fits (ty0 k) v = true) (hlen : k < fs.length) {w2 : va_W} (hw : w.set q0 (a, .inr (ci, fs.set k v)) = w2) (hd : decode cc pc = .ok (.putfield index, 3)) (kk : Z p l e R s m args below meth c A G nL Q cs ss w2 lv (pc + 3) st) : Z p l e R s m args below meth c A G nL Q cs ss w lv pc (v :: .ref a :: st) := fun H locs ls hP hD hS hl => va_putF C.hx C.hb C.hts hin ty0 hty hnm C.hown C.hG.1 hP hD hS q0 he hc k hk (C.hts _ hlink) hsame hfin (C.hnm.trans hnm2) hdecl (hty k hk) hn hfit hlen hd (fun H1 locs1 hP1 hD1 hS1 => kk H1 locs1 ls (hw ▸ hP1) (hw ▸ hD1) hS1 hl)
theorem z_iald (C : zC p s m args meth c A G cc nL rt own nm Ts) {a n : Nat} {f : Nat → Int32} {i : Int32} (q0 : Nat) (he : w[q0]? = some (a, .inl (G.2.1, n, .inl f))) (hin : vp_in i n) (hd : decode cc pc = .ok (.iaload, 1)) (kk : Z p l e R s m args below meth c A G nL Q cs ss w lv (pc + 1) (.int (f i.toNatClampNeg) :: st)) : Z p l e R s m args below meth c A G nL Q cs ss w lv pc (.int i :: .ref a :: st) := fun H locs ls hP hD hS hl => va_iald C.hx C.hb C.hG.1 hP q0 0 he rfl hin hd (kk H locs ls hP hD hS hl)
theorem z_bald (C : zC p s m args meth c A G cc nL rt own nm Ts) {a n : Nat} {f : Nat → Int32} {i : Int32} (q0 : Nat) (he : w[q0]? = some (a, .inl (G.2.2.1, n, .inl f))) (hin : vp_in i n) (hd : decode cc pc = .ok (.baload, 1)) (kk : Z p l e R s m args below meth c A G nL Q cs ss w lv (pc + 1) (.int (f i.toNatClampNeg) :: st)) : Z p l e R s m args below meth c A G nL Q cs ss w lv pc (.int i :: .ref a :: st) := fun H locs ls hP hD hS hl => va_bald C.hx C.hb C.hG.1 hP q0 1 he rfl hin hd (kk H locs ls hP hD hS hl)
theorem z_aldq (C : zC p s m args meth c A G cc nL rt own nm Ts) {a n : Nat} {f : Nat → Option Nat} {i : Int32} (q0 : Nat) (he : w[q0]? = some (a, .inl (G.2.2.2, n, .inr (.inr (.inr (.inr f)))))) (hin : vp_in i n) (hd : decode cc pc = .ok (.aaload, 1)) (kk : Z p l e R s m args below meth c A G nL Q cs ss w lv (pc + 1) (va_rf (f i.toNatClampNeg) :: st)) : Z p l e R s m args below meth c A G nL Q cs ss w lv pc (.int i :: .ref a :: st) := fun H locs ls hP hD hS hl => va_aldq C.hx C.hb C.hG.1 hP q0 2 he rfl hin hd (kk H locs ls hP hD hS hl)
theorem z_iast (C : zC p s m args meth c A G cc nL rt own nm Ts) {a n : Nat} {f : Nat → Int32} {i x : Int32} (q0 : Nat) (he : w[q0]? = some (a, .inl (G.2.1, n, .inl f))) (hin : vp_in i n) {w2 : va_W} (hw : w.set q0 (a, .inl (G.2.1, n, .inl (upd f i.toNatClampNeg x))) = w2) (hd : decode cc pc = .ok (.iastore, 1)) (kk : Z p l e R s m args below meth c A G nL Q cs ss w2 lv (pc + 1) st) : Z p l e R s m args below meth c A G nL Q cs ss w lv pc (.int x :: .int i :: .ref a :: st) := fun H locs ls hP hD hS hl => va_iast C.hx C.hb C.hG.1 hP hD hS q0 0 he rfl hin hd (fun H1 locs1 hP1 hD1 hS1 => kk H1 locs1 ls (hw ▸ hP1) (hw ▸ hD1) hS1 hl)
theorem z_bast (C : zC p s m args meth c A G cc nL rt own nm Ts) {a n : Nat} {f : Nat → Int32} {i x : Int32} (q0 : Nat) (he : w[q0]? = some (a, .inl (G.2.2.1, n, .inl f))) (hin : vp_in i n) {w2 : va_W} (hw : w.set q0 (a, .inl (G.2.2.1, n, .inl (upd f i.toNatClampNeg x.toInt8.toInt32))) = w2) (hd : decode cc pc = .ok (.bastore, 1)) (kk : Z p l e R s m args below meth c A G nL Q cs ss w2 lv (pc + 1) st) : Z p l e R s m args below meth c A G nL Q cs ss w lv pc (.int x :: .int i :: .ref a :: st) := fun H locs ls hP hD hS hl => va_bast C.hx C.hb C.hG.1 hP hD hS q0 1 he rfl hin hd (fun H1 locs1 hP1 hD1 hS1 => by rw [vp_nar_byte] at hP1 hD1; exact kk H1 locs1 ls (hw ▸ hP1) (hw ▸ hD1) hS1 hl)
theorem z_alen (C : zC p s m args meth c A G cc nL rt own nm Ts) {a : Nat} {cA : ClassId} {x : vp_A} {ty : FieldType} {v : Int32} (q0 t0 : Nat) (he : w[q0]? = some (a, .inl (cA, x))) (ht : (z_tys G)[t0]? = some (cA, ty)) (hv : Int32.ofNat x.1 = v) (hd : decode cc pc = .ok (.arraylength, 1)) (kk : Z p l e R s m args below meth c A G nL Q cs ss w lv (pc + 1) (.int v :: st)) : Z p l e R s m args below meth c A G nL Q cs ss w lv pc (.ref a :: st) := fun H locs ls hP hD hS hl => va_alen C.hx C.hb C.hG.1 hP q0 t0 he ht hv hd (kk H locs ls hP hD hS hl)
theorem z_ret (C : zC p s m args meth c A G cc nL rt own nm Ts) {Φ : va_W → Prop} (hrt : rt = none) (hΦ : Φ w) (hd : decode cc pc = .ok (.return_, 1)) : Z p l e R s m args below meth c A G nL (MQ below (va_Qv Φ (zPost G A) A) args s cs ss A) cs ss w lv pc [] := fun H locs ls hP hD hS hl => W.vret C.hx C.hb (C.hr.trans hrt) (fun t ht hW => ⟨⟨w, rfl, hΦ, by rw [ht]; exact hP, hD⟩, hS.F ht⟩) hS.2.2 hd (hlocks := C.hlk)
theorem z_iret (C : zC p s m args meth c A G cc nL rt own nm Ts) {v : Int32} {Φ : Int32 → va_W → Prop} (hrt : rt = some .int) (hΦ : Φ v w) (hd : decode cc pc = .ok (.ireturn, 1)) : Z p l e R s m args below meth c A G nL (MQ below (va_Qi Φ (zPost G A) A) args s cs ss A) cs ss w lv pc [.int v] := fun H locs ls hP hD hS hl => W.iret C.hx C.hb (C.hr.trans hrt) (fun t ht hW => ⟨⟨v, w, rfl, hΦ, by rw [ht]; exact hP, hD⟩, hS.F ht⟩) hS.2.2 hd (hlocks := C.hlk)
theorem z_zret (C : zC p s m args meth c A G cc nL rt own nm Ts) {v : Int32} {Φ : Int32 → va_W → Prop} (hrt : rt = some .boolean) (hv : v = 0 ∨ v = 1) (hΦ : Φ v w) (hd : decode cc pc = .ok (.ireturn, 1)) : Z p l e R s m args below meth c A G nL (MQ below (va_Qi Φ (zPost G A) A) args s cs ss A) cs ss w lv pc [.int v] := fun H locs ls hP hD hS hl => W.zret C.hx C.hb (C.hr.trans hrt) (by rcases hv with rfl | rfl <;> rfl) (fun t ht hW => ⟨⟨v, w, rfl, hΦ, by rw [ht]; exact hP, hD⟩, hS.F ht⟩) hS.2.2 hd (hlocks := C.hlk)
theorem z_lret (C : zC p s m args meth c A G cc nL rt own nm Ts) {v : Int64} {Φ : Int64 → va_W → Prop} (hrt : rt = some .long) (hΦ : Φ v w) (hd : decode cc pc = .ok (.lreturn, 1)) : Z p l e R s m args below meth c A G nL (MQ below (va_Ql Φ (zPost G A) A) args s cs ss A) cs ss w lv pc [.long v] := fun H locs ls hP hD hS hl => W.lret C.hx C.hb (C.hr.trans hrt) (fun t ht hW => ⟨⟨v, w, rfl, hΦ, by rw [ht]; exact hP, hD⟩, hS.F ht⟩) hS.2.2 hd (hlocks := C.hlk)
theorem z_qret (C : zC p s m args meth c A G cc nL rt own nm Ts) {v : Option Nat} {Φ : Option Nat → va_W → Prop} {nn : String} (hrt : rt = some (.object nn)) (hΦ : Φ v w) (hd : decode cc pc = .ok (.areturn, 1)) : Z p l e R s m args below meth c A G nL (MQ below (va_Qq Φ (zPost G A) A) args s cs ss A) cs ss w lv pc [va_rf v] := fun H locs ls hP hD hS hl => W.aret C.hx C.hb (C.hr.trans hrt) (Or.inl ⟨nn, rfl⟩) (by cases v with | none => exact Or.inl rfl | some a => exact Or.inr ⟨a, rfl⟩) (fun t ht hW => ⟨⟨v, w, rfl, hΦ, by rw [ht]; exact hP, hD⟩, hS.F ht⟩) hS.2.2 hd (hlocks := C.hlk)
theorem z_widen {cs2 ss2 : Nat} (h1 : cs ≤ cs2) (h2 : ss ≤ ss2) (kk : Z p l e R s m args below meth c A G nL Q cs2 ss2 w lv pc st) : Z p l e R s m args below meth c A G nL Q cs ss w lv pc st := fun H locs ls hP hD hS hl => W.widen h1 h2 (kk H locs ls hP hD hS hl)
theorem z_world {w2 : va_W} (h1 : ∀ H : Heap, va_P G.1 vwCl w H → va_P G.1 vwCl w2 H) (h2 : va_D A w → va_D A w2) (kk : Z p l e R s m args below meth c A G nL Q cs ss w2 lv pc st) : Z p l e R s m args below meth c A G nL Q cs ss w lv pc st := fun H locs ls hP hD hS hl => kk H locs ls (h1 H hP) (h2 hD) hS hl
theorem z_eq {w2 : va_W} {lv2 : List (Nat × Value)} {pc2 : Nat} {st2 : List Value} (h1 : w = w2) (h2 : lv = lv2) (h3 : pc = pc2) (h4 : st = st2) (kk : Z p l e R s m args below meth c A G nL Q cs ss w2 lv2 pc2 st2) : Z p l e R s m args below meth c A G nL Q cs ss w lv pc st := by subst h1; subst h2; subst h3; subst h4; exact kk
/-- a call, in every heap that holds the world -/
def zRun (p : Program) (l : Launch) (e : Env) (R : Room) (s : State) (m : MethodId) (args : Array Value) (below : List Frame) (meth : Method) (c : Code) (A : Nat → Prop) (G : zGT) (nL : Nat) (cs ss mc ms : Nat) (w : va_W) (lv : List (Nat × Value)) (pc : Nat) (st0 rest : List Value) (Qk : (va_W → State → Prop) → (Nat → Prop) → Array Value → State → Outcome → State → Prop) (aa : Array Value) : Prop :=
  ∀ (H : Heap) (locs : List Loc) (ls : Array Slot), va_P G.1 vwCl w H → va_D A w → va_S A s.heap H locs → lv_has ls nL lv → va_Run p l e R s m args below meth c H locs cs ss mc ms (F0 m pc ls st0) rest (Qk (zPost G (va_A w H.size)) (va_A w H.size) aa) (va_A w H.size)
theorem z_runV (C : zC p s m args meth c A G cc nL rt own nm Ts) {y x : MethodName} {bytes : ByteArray} {maxL n index : Nat} {ret : Option FieldType} {ws : List Cond} {rm : Room} {Qk : (va_W → State → Prop) → (Nat → Prop) → Array Value → State → Outcome → State → Prop} {C0 owner host : String} {b : Addr} {As rest st0 : List Value} {T : u_T} {N ci : Nat} {fs : List Value} (hM : MG l y ws rm G (.ref b :: As) w Qk) (cw : CallW R s args own C0 index y bytes maxL ret ws rm rm.cells rm.slots n) (q0 : Nat) (he : w[q0]? = some (b, .inr (ci, fs))) (hc : vwCl[ci]? = some (C0, T, N)) (hn : As.length = n) (hst : st0 = As.reverse ++ .ref b :: rest) (hW : (rest.map fun v => v.category).sum ≤ 8) (hd : decode cc pc = .ok (.invokevirtual index, 3)) (hf : cs + rm.cells ≤ R.cells ∧ ss + rm.slots ≤ R.slots) : zRun p l e R s m args below meth c A G nL cs ss rm.cells rm.slots w lv pc st0 rest Qk (Value.ref b :: As).toArray := fun H locs ls hP hD hS hl => va_runV C.fix (hM H.size) cw ⟨fun a U g mk q => ⟨q.1, q.2.1, q.2.2.1, q.2.2.2.1.call g mk a, q.2.2.2.2⟩, va_recv C.hG.1 hP hc he, fun U hU hW => ⟨rfl, by rw [hU], by rw [hU]; exact hP, C.hG.warm hW, hD.weaken (fun _ _ _ _ => trivial)⟩⟩ rfl hn hl.1 hst (lv_room hW) hd hf
theorem z_runU (C : zC p s m args meth c A G cc nL rt own nm Ts) {y x : MethodName} {bytes : ByteArray} {maxL n index : Nat} {ret : Option FieldType} {ws : List Cond} {rm : Room} {Qk : (va_W → State → Prop) → (Nat → Prop) → Array Value → State → Outcome → State → Prop} {C0 owner host : String} {b : Addr} {As rest st0 : List Value} {T : u_T} {N ci : Nat} {fs : List Value} (hM : MG l y ws rm G (.ref b :: As) w Qk) (cw : va_CU R s args own C0 owner index x y bytes maxL ret ws rm rm.cells rm.slots n) (q0 : Nat) (he : w[q0]? = some (b, .inr (ci, fs))) (hc : vwCl[ci]? = some (C0, T, N)) (hn : As.length = n) (hst : st0 = As.reverse ++ .ref b :: rest) (hW : (rest.map fun v => v.category).sum ≤ 8) (hd : decode cc pc = .ok (.invokevirtual index, 3)) (hf : cs + rm.cells ≤ R.cells ∧ ss + rm.slots ≤ R.slots) : zRun p l e R s m args below meth c A G nL cs ss rm.cells rm.slots w lv pc st0 rest Qk (Value.ref b :: As).toArray := fun H locs ls hP hD hS hl => va_runU C.fix (hM H.size) cw ⟨fun a U g mk q => ⟨q.1, q.2.1, q.2.2.1, q.2.2.2.1.call g mk a, q.2.2.2.2⟩, va_recv C.hG.1 hP hc he, fun U hU hW => ⟨rfl, by rw [hU], by rw [hU]; exact hP, C.hG.warm hW, hD.weaken (fun _ _ _ _ => trivial)⟩⟩ rfl hn hl.1 hst (lv_room hW) hd hf
theorem z_runSU (C : zC p s m args meth c A G cc nL rt own nm Ts) {y x : MethodName} {bytes : ByteArray} {maxL n index : Nat} {ret : Option FieldType} {ws : List Cond} {rm : Room} {Qk : (va_W → State → Prop) → (Nat → Prop) → Array Value → State → Outcome → State → Prop} {C0 owner host : String} {b : Addr} {As rest st0 : List Value} {T : u_T} {N ci : Nat} {fs : List Value} (hM : MG l y ws rm G (.ref b :: As) w Qk) (cw : va_CS R s args own index y bytes maxL ret ws rm rm.cells rm.slots n) (q0 : Nat) (he : w[q0]? = some (b, .inr (ci, fs))) (hc : vwCl[ci]? = some (C0, T, N)) (hn : As.length = n) (hst : st0 = As.reverse ++ .ref b :: rest) (hW : (rest.map fun v => v.category).sum ≤ 8) (hd : decode cc pc = .ok (.invokespecial index, 3)) (hf : cs + rm.cells ≤ R.cells ∧ ss + rm.slots ≤ R.slots) : zRun p l e R s m args below meth c A G nL cs ss rm.cells rm.slots w lv pc st0 rest Qk (Value.ref b :: As).toArray := fun H locs ls hP hD hS hl => va_runSU (C.hG.1.1 ci _ hc).2 C.fix (hM H.size) cw ⟨fun a U g mk q => ⟨q.1, q.2.1, q.2.2.1, q.2.2.2.1.call g mk a, q.2.2.2.2⟩, va_recv C.hG.1 hP hc he, fun U hU hW => ⟨rfl, by rw [hU], by rw [hU]; exact hP, C.hG.warm hW, hD.weaken (fun _ _ _ _ => trivial)⟩⟩ rfl hn hl.1 hst (lv_room hW) hd hf
theorem z_runS (C : zC p s m args meth c A G cc nL rt own nm Ts) {y x : MethodName} {bytes : ByteArray} {maxL n index : Nat} {ret : Option FieldType} {ws : List Cond} {rm : Room} {Qk : (va_W → State → Prop) → (Nat → Prop) → Array Value → State → Outcome → State → Prop} {C0 owner host : String} {b : Addr} {As rest st0 : List Value} {T : u_T} {N ci : Nat} {fs : List Value} (hM : MG l y ws rm G (As) w Qk) (cw : CallB R s args own index y bytes maxL ret ws rm rm.cells rm.slots n ∧ (Cond.static y).before args s = true) (hn : As.length = n) (hst : st0 = As.reverse ++ rest) (hW : (rest.map fun v => v.category).sum ≤ 8) (hd : decode cc pc = .ok (.invokestatic index, 3)) (hf : cs + rm.cells ≤ R.cells ∧ ss + rm.slots ≤ R.slots) : zRun p l e R s m args below meth c A G nL cs ss rm.cells rm.slots w lv pc st0 rest Qk (As).toArray := fun H locs ls hP hD hS hl => va_runS C.fix (hM H.size) cw ⟨fun a U g mk q => ⟨q.1, q.2.1, q.2.2.1, q.2.2.2.1.call g mk a, q.2.2.2.2⟩, fun U hU hW => ⟨rfl, by rw [hU], by rw [hU]; exact hP, C.hG.warm hW, hD.weaken (fun _ _ _ _ => trivial)⟩⟩ rfl hn hl.1 hst (lv_room hW) hd hf
theorem z_runSN (C : zC p s m args meth c A G cc nL rt own nm Ts) {y x : MethodName} {bytes : ByteArray} {maxL n index : Nat} {ret : Option FieldType} {ws : List Cond} {rm : Room} {Qk : (va_W → State → Prop) → (Nat → Prop) → Array Value → State → Outcome → State → Prop} {C0 owner host : String} {b : Addr} {As rest st0 : List Value} {T : u_T} {N ci : Nat} {fs : List Value} (hM : MG l y ws rm G (As) w Qk) (cw : va_CN R s args own index y host bytes maxL ret ws rm rm.cells rm.slots n ∧ (Cond.static y).before args s = true ∧ True) (hn : As.length = n) (hst : st0 = As.reverse ++ rest) (hW : (rest.map fun v => v.category).sum ≤ 8) (hd : decode cc pc = .ok (.invokestatic index, 3)) (hf : cs + rm.cells ≤ R.cells ∧ ss + rm.slots ≤ R.slots) : zRun p l e R s m args below meth c A G nL cs ss rm.cells rm.slots w lv pc st0 rest Qk (As).toArray := fun H locs ls hP hD hS hl => va_runSN C.fix (hM H.size) cw ⟨fun a U g mk q => ⟨q.1, q.2.1, q.2.2.1, q.2.2.2.1.call g mk a, q.2.2.2.2⟩, fun U hU hW => ⟨rfl, by rw [hU], by rw [hU]; exact hP, C.hG.warm hW, hD.weaken (fun _ _ _ _ => trivial)⟩⟩ rfl hn hl.1 hst (lv_room hW) hd hf
theorem z_runI (C : zC p s m args meth c A G cc nL rt own nm Ts) {y x : MethodName} {bytes : ByteArray} {maxL n index : Nat} {ret : Option FieldType} {ws : List Cond} {rm : Room} {Qk : (va_W → State → Prop) → (Nat → Prop) → Array Value → State → Outcome → State → Prop} {C0 owner host : String} {b : Addr} {As rest st0 : List Value} {T : u_T} {N ci : Nat} {fs : List Value} (hM : MG l y ws rm G (.ref b :: As) w Qk) (cw : CallB R s args own index y bytes maxL none ws rm rm.cells rm.slots n ∧ y.name = "<init>" ∧ (Cond.instanceMethod y).before args s = true) (hn : As.length = n) (hst : st0 = As.reverse ++ .ref b :: rest) (hW : (rest.map fun v => v.category).sum ≤ 8) (hd : decode cc pc = .ok (.invokespecial index, 3)) (hf : cs + rm.cells ≤ R.cells ∧ ss + rm.slots ≤ R.slots) : zRun p l e R s m args below meth c A G nL cs ss rm.cells rm.slots w lv pc st0 rest Qk (Value.ref b :: As).toArray := fun H locs ls hP hD hS hl => va_runI C.fix (hM H.size) cw ⟨fun a U g mk q => ⟨q.1, q.2.1, q.2.2.1, q.2.2.2.1.call g mk a, q.2.2.2.2⟩, fun U hU hW => ⟨rfl, by rw [hU], by rw [hU]; exact hP, C.hG.warm hW, hD.weaken (fun _ _ _ _ => trivial)⟩⟩ rfl hn hl.1 hst (lv_room hW) hd hf
theorem z_runIN (C : zC p s m args meth c A G cc nL rt own nm Ts) {y x : MethodName} {bytes : ByteArray} {maxL n index : Nat} {ret : Option FieldType} {ws : List Cond} {rm : Room} {Qk : (va_W → State → Prop) → (Nat → Prop) → Array Value → State → Outcome → State → Prop} {C0 owner host : String} {b : Addr} {As rest st0 : List Value} {T : u_T} {N ci : Nat} {fs : List Value} (hM : MG l y ws rm G (.ref b :: As) w Qk) (cw : va_CN R s args own index y host bytes maxL none ws rm rm.cells rm.slots n ∧ y.name = "<init>" ∧ (Cond.instanceMethod y).before args s = true) (hn : As.length = n) (hst : st0 = As.reverse ++ .ref b :: rest) (hW : (rest.map fun v => v.category).sum ≤ 8) (hd : decode cc pc = .ok (.invokespecial index, 3)) (hf : cs + rm.cells ≤ R.cells ∧ ss + rm.slots ≤ R.slots) : zRun p l e R s m args below meth c A G nL cs ss rm.cells rm.slots w lv pc st0 rest Qk (Value.ref b :: As).toArray := fun H locs ls hP hD hS hl => va_runIN C.fix (hM H.size) cw ⟨fun a U g mk q => ⟨q.1, q.2.1, q.2.2.1, q.2.2.2.1.call g mk a, q.2.2.2.2⟩, fun U hU hW => ⟨rfl, by rw [hU], by rw [hU]; exact hP, C.hG.warm hW, hD.weaken (fun _ _ _ _ => trivial)⟩⟩ rfl hn hl.1 hst (lv_room hW) hd hf
theorem z_goti (C : zC p s m args meth c A G cc nL rt own nm Ts) {mc ms cs2 ss2 : Nat} {st0 rest : List Value} {aa : Array Value} {Φ : Int32 → va_W → Prop} (hr : zRun p l e R s m args below meth c A G nL cs ss mc ms w lv pc st0 rest (va_Qi Φ) aa) (h1 : cs + mc = cs2) (h2 : ss + ms = ss2) (kk : ∀ (r : Int32) (u : va_W), Φ r u → Z p l e R s m args below meth c A G nL Q cs2 ss2 u lv (pc + 3) (.int r :: rest)) : Z p l e R s m args below meth c A G nL Q cs ss w lv pc st0 := fun H locs ls hP hD hS hl => by
  subst h1
  subst h2
  exact va_calli (hr H locs ls hP hD hS hl) hS (fun q _ h => zfree hD hS C.hA q h) (fun q h => zfree hD hS C.hA q h) (fun r u t H1 locs1 ht _ hp hB _ _ hS1 => kk r u hp H1 locs1 ls (by rw [← ht]; exact hB.1) (hB.2.weaken (fun _ q _ h => zfree hD hS C.hA q.1 h)) hS1 hl)
theorem z_gotl (C : zC p s m args meth c A G cc nL rt own nm Ts) {mc ms cs2 ss2 : Nat} {st0 rest : List Value} {aa : Array Value} {Φ : Int64 → va_W → Prop} (hr : zRun p l e R s m args below meth c A G nL cs ss mc ms w lv pc st0 rest (va_Ql Φ) aa) (h1 : cs + mc = cs2) (h2 : ss + ms = ss2) (kk : ∀ (r : Int64) (u : va_W), Φ r u → Z p l e R s m args below meth c A G nL Q cs2 ss2 u lv (pc + 3) (.long r :: rest)) : Z p l e R s m args below meth c A G nL Q cs ss w lv pc st0 := fun H locs ls hP hD hS hl => by
  subst h1
  subst h2
  exact va_calll (hr H locs ls hP hD hS hl) hS (fun q _ h => zfree hD hS C.hA q h) (fun q h => zfree hD hS C.hA q h) (fun r u t H1 locs1 ht _ hp hB _ _ hS1 => kk r u hp H1 locs1 ls (by rw [← ht]; exact hB.1) (hB.2.weaken (fun _ q _ h => zfree hD hS C.hA q.1 h)) hS1 hl)
theorem z_gotv (C : zC p s m args meth c A G cc nL rt own nm Ts) {mc ms cs2 ss2 : Nat} {st0 rest : List Value} {aa : Array Value} {Φ : va_W → Prop} (hr : zRun p l e R s m args below meth c A G nL cs ss mc ms w lv pc st0 rest (va_Qv Φ) aa) (h1 : cs + mc = cs2) (h2 : ss + ms = ss2) (kk : ∀ (u : va_W), Φ u → Z p l e R s m args below meth c A G nL Q cs2 ss2 u lv (pc + 3) rest) : Z p l e R s m args below meth c A G nL Q cs ss w lv pc st0 := fun H locs ls hP hD hS hl => by
  subst h1
  subst h2
  exact va_callv (hr H locs ls hP hD hS hl) hS (fun q _ h => zfree hD hS C.hA q h) (fun q h => zfree hD hS C.hA q h) (fun u t H1 locs1 ht _ hp hB _ _ hS1 => kk u hp H1 locs1 ls (by rw [← ht]; exact hB.1) (hB.2.weaken (fun _ q _ h => zfree hD hS C.hA q.1 h)) hS1 hl)
theorem z_gotq (C : zC p s m args meth c A G cc nL rt own nm Ts) {mc ms cs2 ss2 : Nat} {st0 rest : List Value} {aa : Array Value} {Φ : Option Nat → va_W → Prop} (hr : zRun p l e R s m args below meth c A G nL cs ss mc ms w lv pc st0 rest (va_Qq Φ) aa) (h1 : cs + mc = cs2) (h2 : ss + ms = ss2) (kk : ∀ (r : Option Nat) (u : va_W), Φ r u → Z p l e R s m args below meth c A G nL Q cs2 ss2 u lv (pc + 3) (va_rf r :: rest)) : Z p l e R s m args below meth c A G nL Q cs ss w lv pc st0 := fun H locs ls hP hD hS hl => by
  subst h1
  subst h2
  exact va_callq (hr H locs ls hP hD hS hl) hS (fun q _ h => zfree hD hS C.hA q h) (fun q h => zfree hD hS C.hA q h) (fun r u t H1 locs1 ht _ hp hB _ _ hS1 => kk r u hp H1 locs1 ls (by rw [← ht]; exact hB.1) (hB.2.weaken (fun _ q _ h => zfree hD hS C.hA q.1 h)) hS1 hl)
theorem z_goti1 (C : zC p s m args meth c A G cc nL rt own nm Ts) {mc ms cs2 ss2 : Nat} {st0 rest : List Value} {aa : Array Value} {r : Int32} {u : va_W} (hr : zRun p l e R s m args below meth c A G nL cs ss mc ms w lv pc st0 rest (va_Qi (fun r' u' => r' = r ∧ u' = u)) aa) (h1 : cs + mc = cs2) (h2 : ss + ms = ss2) (kk : Z p l e R s m args below meth c A G nL Q cs2 ss2 u lv (pc + 3) (.int r :: rest)) : Z p l e R s m args below meth c A G nL Q cs ss w lv pc st0 := z_goti C hr h1 h2 (fun r' u' h => by rw [h.1, h.2]; exact kk)
theorem z_gotl1 (C : zC p s m args meth c A G cc nL rt own nm Ts) {mc ms cs2 ss2 : Nat} {st0 rest : List Value} {aa : Array Value} {r : Int64} {u : va_W} (hr : zRun p l e R s m args below meth c A G nL cs ss mc ms w lv pc st0 rest (va_Ql (fun r' u' => r' = r ∧ u' = u)) aa) (h1 : cs + mc = cs2) (h2 : ss + ms = ss2) (kk : Z p l e R s m args below meth c A G nL Q cs2 ss2 u lv (pc + 3) (.long r :: rest)) : Z p l e R s m args below meth c A G nL Q cs ss w lv pc st0 := z_gotl C hr h1 h2 (fun r' u' h => by rw [h.1, h.2]; exact kk)
theorem z_gotv1 (C : zC p s m args meth c A G cc nL rt own nm Ts) {mc ms cs2 ss2 : Nat} {st0 rest : List Value} {aa : Array Value} {u : va_W} (hr : zRun p l e R s m args below meth c A G nL cs ss mc ms w lv pc st0 rest (va_Qv (fun u' => u' = u)) aa) (h1 : cs + mc = cs2) (h2 : ss + ms = ss2) (kk : Z p l e R s m args below meth c A G nL Q cs2 ss2 u lv (pc + 3) rest) : Z p l e R s m args below meth c A G nL Q cs ss w lv pc st0 := z_gotv C hr h1 h2 (fun u' h => by rw [h]; exact kk)
theorem z_gotq1 (C : zC p s m args meth c A G cc nL rt own nm Ts) {mc ms cs2 ss2 : Nat} {st0 rest : List Value} {aa : Array Value} {r : Option Nat} {u : va_W} (hr : zRun p l e R s m args below meth c A G nL cs ss mc ms w lv pc st0 rest (va_Qq (fun r' u' => r' = r ∧ u' = u)) aa) (h1 : cs + mc = cs2) (h2 : ss + ms = ss2) (kk : Z p l e R s m args below meth c A G nL Q cs2 ss2 u lv (pc + 3) (va_rf r :: rest)) : Z p l e R s m args below meth c A G nL Q cs ss w lv pc st0 := z_gotq C hr h1 h2 (fun r' u' h => by rw [h.1, h.2]; exact kk)
theorem z_objInit (C : zC p s m args meth c A G cc nL rt own nm Ts) {index : Nat} {a : Nat} (h1 : Cond.methodLink own index Lib.objectInit ∈ Ts) (h2 : Cond.instanceMethod Lib.objectInit ∈ Ts) (h3 : Cond.code Lib.objectInit ⟨#[0xb1]⟩ 1 none ∈ Ts) (hd : decode cc pc = .ok (.invokespecial index, 3)) (hf : 1 ≤ R.frames) (hlo : (st.map fun v => v.category).sum + 12 ≤ R.locals) (kk : Z p l e R s m args below meth c A G nL Q cs ss w lv (pc + 3) st) : Z p l e R s m args below meth c A G nL Q cs ss w lv pc (.ref a :: st) := fun H locs ls hP hD hS hl => W.objInit C.hx C.hb C.hown (C.hts _ h1) (C.hts _ h2) (C.hts _ h3) rfl (by rw [C.hml]; exact hl.1) rfl hd hf (by have h0 : (F0 m pc ls (.ref a :: st)).monitorRoom = 0 := rfl; rw [h0]; omega) (W.eq (g2 := F0 m (pc + 3) ls st) rfl (kk H locs ls hP hD hS hl))
theorem z_new (C : zC p s m args meth c A G cc nL rt own nm Ts) {C0 : String} {T : u_T} {N ci index : Nat} {fs : List Value} {cs2 ss2 : Nat} (hin : ∀ w ∈ u_ws C0 T N, w ∈ Ts) (ty : Nat → FieldType) (hty : ∀ k, k < N → parseFieldDescriptor (T k).2.2.1 = some (ty k)) (hcl : Cond.classLink own index C0 ∈ Ts) (hinst : Cond.instantiable C0 N ∈ Ts) (hini : Cond.initialized C0 ∈ Ts) (hc : vwCl[ci]? = some (C0, T, N)) (hfs : ∀ j, j < N → defaultValue (ty j) = vp_V fs j) (hcells : cs + 1 ≤ R.cells) (hslots : ss + N ≤ R.slots) (h1 : cs + 1 = cs2) (h2 : ss + N = ss2) (hd : decode cc pc = .ok (.new index, 3)) (kk : ∀ q : Nat, Z p l e R s m args below meth c A G nL Q cs2 ss2 (w ++ [zo q ci fs]) lv (pc + 3) (.ref q :: st)) : Z p l e R s m args below meth c A G nL Q cs ss w lv pc st := fun H locs ls hP hD hS hl => by
  subst h1
  subst h2
  exact va_new C.hx C.hb C.hts hin ty hty C.hown (C.hts _ hcl) (C.hts _ hinst) (C.hts _ hini) C.hG.1 hP hD hS C.hA hc hfs hcells hslots hd (fun q H1 hP1 hD1 hS1 => kk q H1 locs ls hP1 hD1 hS1 hl)
theorem z_cI {G : zGT} {s : State} {cA : ClassId} {tys : List (ClassId × FieldType)} (h : zG G s) (k : va_K G.1 vwCl (tys ++ [(cA, .int)]) s) : cA = G.2.1 := by
  have h1 := (h.1.2 0 (G.2.1, .int) rfl).2
  have h2 := (k.2 tys.length (cA, .int) (by simp)).2
  have e1 : s.vm.findClass ("[" ++ FieldType.int.toString) = some G.2.1 := h1
  have e2 : s.vm.findClass ("[" ++ FieldType.int.toString) = some cA := h2
  exact Option.some.inj (e2.symm.trans e1)
theorem z_cB {G : zGT} {s : State} {cA : ClassId} {tys : List (ClassId × FieldType)} (h : zG G s) (k : va_K G.1 vwCl (tys ++ [(cA, .byte)]) s) : cA = G.2.2.1 := by
  have h1 := (h.1.2 1 (G.2.2.1, .byte) rfl).2
  have h2 := (k.2 tys.length (cA, .byte) (by simp)).2
  have e1 : s.vm.findClass ("[" ++ FieldType.byte.toString) = some G.2.2.1 := h1
  have e2 : s.vm.findClass ("[" ++ FieldType.byte.toString) = some cA := h2
  exact Option.some.inj (e2.symm.trans e1)
theorem z_cP {G : zGT} {s : State} {cA : ClassId} {tys : List (ClassId × FieldType)} (h : zG G s) (k : va_K G.1 vwCl (tys ++ [(cA, .object "OneTimer$Pot")]) s) : cA = G.2.2.2 := by
  obtain ⟨_, _, _, _, _, e1⟩ := (h.1.2 2 (G.2.2.2, .object "OneTimer$Pot") rfl).2
  obtain ⟨_, _, _, _, _, e2⟩ := (k.2 tys.length (cA, .object "OneTimer$Pot") (by simp)).2
  exact Option.some.inj (e2.symm.trans e1)
theorem z_newi (C : zC p s m args meth c A G cc nL rt own nm Ts) {n : Int32} {N cs2 ss2 : Nat} (harr : Cond.arrayClass .int ∈ Ts) (hn : ¬ n < 0) (hN : n.toNatClampNeg = N) (hby : N * componentBytes .int ≤ 536870912) (hcells : cs + 1 ≤ R.cells) (hslots : ss + N ≤ R.slots) (h1 : cs + 1 = cs2) (h2 : ss + N = ss2) (hd : decode cc pc = .ok (.newarray .int, 2)) (kk : ∀ q : Nat, Z p l e R s m args below meth c A G nL Q cs2 ss2 (w ++ [zi G q N (fun _ => 0)]) lv (pc + 2) (.ref q :: st)) : Z p l e R s m args below meth c A G nL Q cs ss w lv pc (.int n :: st) := fun H locs ls hP hD hS hl => by
  subst h1
  subst h2
  exact va_newa (atype := .int) C.hx C.hb (C.hts _ harr) rfl C.hG.1 hP hD hS C.hA (a0 := (N, .inl (fun _ => 0))) (fun cA => rfl) hn hN hby hcells hslots hd (fun q cA H1 hK1 hP1 hD1 hS1 => by
    have e := z_cI C.hG hK1
    subst e
    exact kk q H1 locs ls hP1 hD1 hS1 hl)
theorem z_newb (C : zC p s m args meth c A G cc nL rt own nm Ts) {n : Int32} {N cs2 ss2 : Nat} (harr : Cond.arrayClass .byte ∈ Ts) (hn : ¬ n < 0) (hN : n.toNatClampNeg = N) (hby : N * componentBytes .byte ≤ 536870912) (hcells : cs + 1 ≤ R.cells) (hslots : ss + N ≤ R.slots) (h1 : cs + 1 = cs2) (h2 : ss + N = ss2) (hd : decode cc pc = .ok (.newarray .byte, 2)) (kk : ∀ q : Nat, Z p l e R s m args below meth c A G nL Q cs2 ss2 (w ++ [zb G q N (fun _ => 0)]) lv (pc + 2) (.ref q :: st)) : Z p l e R s m args below meth c A G nL Q cs ss w lv pc (.int n :: st) := fun H locs ls hP hD hS hl => by
  subst h1
  subst h2
  exact va_newa (atype := .byte) C.hx C.hb (C.hts _ harr) rfl C.hG.1 hP hD hS C.hA (a0 := (N, .inl (fun _ => 0))) (fun cA => rfl) hn hN hby hcells hslots hd (fun q cA H1 hK1 hP1 hD1 hS1 => by
    have e := z_cB C.hG hK1
    subst e
    exact kk q H1 locs ls hP1 hD1 hS1 hl)
theorem z_newq (C : zC p s m args meth c A G cc nL rt own nm Ts) {n : Int32} {N index cs2 ss2 : Nat} (hcl : Cond.classLink own index "OneTimer$Pot" ∈ Ts) (hn : ¬ n < 0) (hN : n.toNatClampNeg = N) (hby : N * 4 ≤ 536870912) (hcells : cs + 1 ≤ R.cells) (hslots : ss + N ≤ R.slots) (h1 : cs + 1 = cs2) (h2 : ss + N = ss2) (hd : decode cc pc = .ok (.anewarray index, 3)) (kk : ∀ q : Nat, Z p l e R s m args below meth c A G nL Q cs2 ss2 (w ++ [zq G q N (fun _ => none)]) lv (pc + 3) (.ref q :: st)) : Z p l e R s m args below meth c A G nL Q cs ss w lv pc (.int n :: st) := fun H locs ls hP hD hS hl => by
  subst h1
  subst h2
  exact va_newq C.hx C.hb C.hown (C.hts _ hcl) C.hG.2.2.2.1 C.hG.1 hP hD hS C.hA hn hN hby hcells hslots hd (fun q cA H1 hK1 hP1 hD1 hS1 => by
    have e := z_cP C.hG hK1
    subst e
    exact kk q H1 locs ls hP1 hD1 hS1 hl)
theorem z_astqN (C : zC p s m args meth c A G cc nL rt own nm Ts) {a n : Nat} {f : Nat → Option Nat} {i : Int32} (q0 : Nat) (he : w[q0]? = some (a, .inl (G.2.2.2, n, .inr (.inr (.inr (.inr f)))))) (hin : vp_in i n) {w2 : va_W} (hw : w.set q0 (zq G a n (va_up f i.toNatClampNeg none)) = w2) (hd : decode cc pc = .ok (.aastore, 1)) (kk : Z p l e R s m args below meth c A G nL Q cs ss w2 lv (pc + 1) st) : Z p l e R s m args below meth c A G nL Q cs ss w lv pc (.null :: .int i :: .ref a :: st) := fun H locs ls hP hD hS hl => va_astqN C.hx C.hb C.hG.1 hP hD hS q0 2 he rfl hin hd (fun H1 locs1 hP1 hD1 hS1 => kk H1 locs1 ls (hw ▸ hP1) (hw ▸ hD1) hS1 hl)
theorem z_astq (C : zC p s m args meth c A G cc nL rt own nm Ts) {a n v ci : Nat} {f : Nat → Option Nat} {vs : List Value} {r : vw_C} {i : Int32} (q0 qk : Nat) (he : w[q0]? = some (a, .inl (G.2.2.2, n, .inr (.inr (.inr (.inr f)))))) (hv : w[qk]? = some (v, .inr (ci, vs))) (hc : vwCl[ci]? = some r) (hr : r.1 = "OneTimer$Pot" ∨ (r.1, "OneTimer$Pot") ∈ zN2) (hin : vp_in i n) {w2 : va_W} (hw : w.set q0 (zq G a n (va_up f i.toNatClampNeg (some v))) = w2) (hd : decode cc pc = .ok (.aastore, 1)) (kk : Z p l e R s m args below meth c A G nL Q cs ss w2 lv (pc + 1) st) : Z p l e R s m args below meth c A G nL Q cs ss w lv pc (.ref v :: .int i :: .ref a :: st) := fun H locs ls hP hD hS hl => by
  rcases hr with hr | hr
  · exact va_astq C.hx C.hb C.hG.1 hP hD hS q0 2 qk ci he (by rw [hr]; rfl) hv hc hin hd (fun H1 locs1 hP1 hD1 hS1 => kk H1 locs1 ls (hw ▸ hP1) (hw ▸ hD1) hS1 hl)
  · exact va_astqO C.hx C.hb C.hG.1 hP hD hS q0 2 qk ci he rfl (C.hG.2.2.1 _ hr) hv hc hin hd (fun H1 locs1 hP1 hD1 hS1 => kk H1 locs1 ls (hw ▸ hP1) (hw ▸ hD1) hS1 hl)
theorem z_instY (C : zC p s m args meth c A G cc nL rt own nm Ts) {a ci N index : Nat} {fs : List Value} {T : u_T} {C0 n0 : String} (hl0 : Cond.classLink own index n0 ∈ Ts) (hq : (C0, n0) ∈ zN2) (q0 : Nat) (he : w[q0]? = some (a, .inr (ci, fs))) (hc : vwCl[ci]? = some (C0, T, N)) (hd : decode cc pc = .ok (.instanceof index, 3)) (kk : Z p l e R s m args below meth c A G nL Q cs ss w lv (pc + 3) (.int 1 :: st)) : Z p l e R s m args below meth c A G nL Q cs ss w lv pc (.ref a :: st) := fun H locs ls hP hD hS hl => va_instY C.hx C.hb C.hown (C.hts _ hl0) (C.hG.2.2.1 _ hq) (va_recv C.hG.1 hP hc he) hd (kk H locs ls hP hD hS hl)
theorem z_instS (C : zC p s m args meth c A G cc nL rt own nm Ts) {a ci N index : Nat} {fs : List Value} {T : u_T} {C0 : String} (hl0 : Cond.classLink own index C0 ∈ Ts) (q0 : Nat) (he : w[q0]? = some (a, .inr (ci, fs))) (hc : vwCl[ci]? = some (C0, T, N)) (hd : decode cc pc = .ok (.instanceof index, 3)) (kk : Z p l e R s m args below meth c A G nL Q cs ss w lv (pc + 3) (.int 1 :: st)) : Z p l e R s m args below meth c A G nL Q cs ss w lv pc (.ref a :: st) := fun H locs ls hP hD hS hl => va_instS C.hx C.hb C.hown (C.hts _ hl0) (C.hG.1.1 ci _ hc).2 (va_recv C.hG.1 hP hc he) hd (kk H locs ls hP hD hS hl)
theorem z_instNo (C : zC p s m args meth c A G cc nL rt own nm Ts) {a ci N index : Nat} {fs : List Value} {T : u_T} {C0 n0 : String} (hl0 : Cond.classLink own index n0 ∈ Ts) (hq : (C0, n0) ∈ zN3) (q0 : Nat) (he : w[q0]? = some (a, .inr (ci, fs))) (hc : vwCl[ci]? = some (C0, T, N)) (hd : decode cc pc = .ok (.instanceof index, 3)) (kk : Z p l e R s m args below meth c A G nL Q cs ss w lv (pc + 3) (.int 0 :: st)) : Z p l e R s m args below meth c A G nL Q cs ss w lv pc (.ref a :: st) := fun H locs ls hP hD hS hl => va_instNo C.hx C.hb C.hown (C.hts _ hl0) (C.hG.2.2.2.2 _ hq) (va_recv C.hG.1 hP hc he) hd (kk H locs ls hP hD hS hl)
theorem z_mmax (C : zC p s m args meth c A G cc nL rt own nm Ts) {index : Nat} {x y : Int32} (h1 : Cond.methodLink own index Lib.Math.max.name ∈ Ts) (h2 : Cond.static Lib.Math.max.name ∈ Ts) (h3 : Cond.initialized "java/lang/Math" ∈ Ts) (h4 : Cond.code Lib.Math.max.name Lib.Math.max.code 2 (some .int) ∈ Ts) (hf : 1 ≤ R.frames) (hlo : (st.map fun v => v.category).sum + 13 ≤ R.locals) (hc : cs ≤ R.cells) (hs : ss ≤ R.slots) (hd : decode cc pc = .ok (.invokestatic index, 3)) (kk : Z p l e R s m args below meth c A G nL Q cs ss w lv (pc + 3) (.int (if x < y then y else x) :: st)) : Z p l e R s m args below meth c A G nL Q cs ss w lv pc (.int y :: .int x :: st) := fun H locs ls hP hD hS hl => va_mmax C.hx C.hb (by rw [C.hml]; exact hl.1.symm) C.hown (C.hts _ h1) (C.hts _ h2) (C.hts _ h3) (C.hts _ h4) hf hlo hc hs hd (kk H locs ls hP hD hS hl)
theorem z_mmin (C : zC p s m args meth c A G cc nL rt own nm Ts) {index : Nat} {x y : Int32} (h1 : Cond.methodLink own index Lib.Math.min.name ∈ Ts) (h2 : Cond.static Lib.Math.min.name ∈ Ts) (h3 : Cond.initialized "java/lang/Math" ∈ Ts) (h4 : Cond.code Lib.Math.min.name Lib.Math.min.code 2 (some .int) ∈ Ts) (hf : 1 ≤ R.frames) (hlo : (st.map fun v => v.category).sum + 13 ≤ R.locals) (hc : cs ≤ R.cells) (hs : ss ≤ R.slots) (hd : decode cc pc = .ok (.invokestatic index, 3)) (kk : Z p l e R s m args below meth c A G nL Q cs ss w lv (pc + 3) (.int (if y < x then y else x) :: st)) : Z p l e R s m args below meth c A G nL Q cs ss w lv pc (.int y :: .int x :: st) := fun H locs ls hP hD hS hl => va_mmin C.hx C.hb (by rw [C.hml]; exact hl.1.symm) C.hown (C.hts _ h1) (C.hts _ h2) (C.hts _ h3) (C.hts _ h4) hf hlo hc hs hd (kk H locs ls hP hD hS hl)
end ZR
theorem zt {c : Prop} [Decidable c] {α : Type} {a b x : α} (hc : c) (h : (if c then a else b) = x) : a = x := by rw [if_pos hc] at h; exact h
theorem zf {c : Prop} [Decidable c] {α : Type} {a b x : α} (hc : ¬ c) (h : (if c then a else b) = x) : b = x := by rw [if_neg hc] at h; exact h
theorem znn {c : Prop} [Decidable c] (h : ¬ ¬ c) : c := Decidable.not_not.mp h
/-- a place of a row is looked at: nothing comes of a place outside -/
def gd {α : Type} (i : Int32) (n : Nat) (k : Option α) : Option α := if i < 0 ∨ n ≤ i.toNatClampNeg then none else k
theorem gd_some {α : Type} {i : Int32} {n : Nat} {k : Option α} {x : α} (h : gd i n k = some x) : vp_in i n ∧ k = some x := by
  unfold gd at h
  split at h
  · cases h
  · rename_i hn
    exact ⟨hn, h⟩
theorem gd_in {α : Type} {i : Int32} {n : Nat} {k : Option α} (h : vp_in i n) : gd i n k = k := by
  unfold gd
  exact if_neg h
theorem gd_of {α : Type} {i : Int32} {n : Nat} {k : Option α} (h0 : 0 ≤ i.toInt) (h1 : i.toInt < n) : gd i n k = k := gd_in (vp_in_iff.mpr ⟨h0, h1⟩)
theorem bd_some {α β : Type} {o : Option α} {f : α → Option β} {x : β} (h : o.bind f = some x) : ∃ a, o = some a ∧ f a = some x := Option.bind_eq_some_iff.mp h
/-- a divisor is looked at -/
def gz {α : Type} (y : Int32) (k : Option α) : Option α := if y = 0 then none else k
theorem gz_some {α : Type} {y : Int32} {k : Option α} {x : α} (h : gz y k = some x) : ¬ y = 0 ∧ k = some x := by
  unfold gz at h
  split at h
  · cases h
  · rename_i hn
    exact ⟨hn, h⟩
theorem gz_of {α : Type} {y : Int32} {k : Option α} (h : ¬ y = 0) : gz y k = k := by
  unfold gz
  exact if_neg h
def gzl {α : Type} (y : Int64) (k : Option α) : Option α := if y = 0 then none else k
theorem gzl_some {α : Type} {y : Int64} {k : Option α} {x : α} (h : gzl y k = some x) : ¬ y = 0 ∧ k = some x := by
  unfold gzl at h
  split at h
  · cases h
  · rename_i hn
    exact ⟨hn, h⟩
theorem gzl_of {α : Type} {y : Int64} {k : Option α} (h : ¬ y = 0) : gzl y k = k := by
  unfold gzl
  exact if_neg h
theorem rf_ref {r : Option Nat} {a : Nat} (h : r = some a) : va_rf r = .ref a := by rw [h]; rfl
end
section
/-! ===== the reference's state: ints, longs and rows by the number of their field ===== -/
abbrev MS : Type := (Nat → Int32) × (Nat → Int64) × (Nat → Nat → Int32)
def mI (S : MS) (k : Nat) : Int32 := S.1 k
def mL (S : MS) (k : Nat) : Int64 := S.2.1 k
def mA (S : MS) (k : Nat) : Nat → Int32 := S.2.2 k
def msI (S : MS) (k : Nat) (v : Int32) : MS := (fun j => if j = k then v else S.1 j, S.2)
def msL (S : MS) (k : Nat) (v : Int64) : MS := (S.1, fun j => if j = k then v else S.2.1 j, S.2.2)
def msA (S : MS) (k i : Nat) (v : Int32) : MS := (S.1, S.2.1, fun j => if j = k then upd (S.2.2 j) i v else S.2.2 j)
def MW (G : zGT) (q : Nat → Nat) (S : MS) : va_W := [zo (q 0) 10 [.int (mI S 0), .int (mI S 1), .int (mI S 2), .int (mI S 3), .ref (q 4), .ref (q 5), .int (mI S 6), .int (mI S 7), .int (mI S 8), .ref (q 9), .ref (q 10), .ref (q 11), .int (mI S 12), .ref (q 13), .ref (q 14), .ref (q 15), .ref (q 16), .int (mI S 17), .int (mI S 18), .ref (q 19), .int (mI S 20), .int (mI S 21), .ref (q 22), .ref (q 23), .long (mL S 24), .int (mI S 25), .int (mI S 26), .int (mI S 27), .int (mI S 28), .int (mI S 29), .int (mI S 30), .ref (q 31), .ref (q 32), .ref (q 33), .ref (q 34), .ref (q 35), .ref (q 36), .ref (q 37), .long (mL S 38)], zi G (q 4) 4 (mA S 4), zi G (q 5) 4 (mA S 5), zi G (q 9) 4 (mA S 9), zi G (q 10) 4 (mA S 10), zi G (q 11) 4 (mA S 11), zi G (q 13) 6 (mA S 13), zi G (q 14) 6 (mA S 14), zi G (q 15) 6 (mA S 15), zi G (q 16) 6 (mA S 16), zb G (q 19) 21 (mA S 19), zi G (q 22) 1936 (mA S 22), zi G (q 23) 1936 (mA S 23), zi G (q 31) 4 (mA S 31), zi G (q 32) 4 (mA S 32), zi G (q 33) 4 (mA S 33), zi G (q 34) 6 (mA S 34), zi G (q 35) 6 (mA S 35), zi G (q 36) 6 (mA S 36), zi G (q 37) 6 (mA S 37)]
section ZM
variable {p : Program} {l : Launch} {e : Env} {R : Room} {s : State} {m : MethodId} {args : Array Value} {below : List Frame} {meth : Method} {c : Code} {A : Nat → Prop} {G : zGT} {cc : ByteArray} {nL : Nat} {rt : Option FieldType} {own nm : String} {Ts : List Cond} {Q : State → Prop} {cs ss : Nat} {lv : List (Nat × Value)} {pc index : Nat} {st : List Value} {q : Nat → Nat} {S : MS} {X : va_W}
theorem mg_0 (C : zC p s m args meth c A G cc nL rt own nm Ts) (hin : ∀ w ∈ u_ws RX10 TX10 39, w ∈ Ts) (hlink : Cond.fieldLink own index "OneTimerModel" "kitchens" "I" ∈ Ts) (hd : decode cc pc = .ok (.getfield index, 3)) (kk : Z p l e R s m args below meth c A G nL Q cs ss (MW G q S ++ X) lv (pc + 3) (.int (mI S 0) :: st)) : Z p l e R s m args below meth c A G nL Q cs ss (MW G q S ++ X) lv pc (.ref (q 0) :: st) := z_get C hin 0 rfl rfl 0 (by decide) hlink (fun _ h => h) rfl hd kk
theorem mp_0 (C : zC p s m args meth c A G cc nL rt own nm Ts) (hin : ∀ w ∈ u_ws RX10 TX10 39, w ∈ Ts) {v : Int32} (hlink : Cond.fieldLink own index "OneTimerModel" "kitchens" "I" ∈ Ts) (hd : decode cc pc = .ok (.putfield index, 3)) (kk : Z p l e R s m args below meth c A G nL Q cs ss (MW G q (msI S 0 v) ++ X) lv (pc + 3) st) : Z p l e R s m args below meth c A G nL Q cs ss (MW G q S ++ X) lv pc (.int v :: .ref (q 0) :: st) := z_put C hin tyX10 tyX10_ok nmX10 0 rfl rfl 0 (by decide) hlink (fun _ h => h) rfl rfl rfl (by decide) rfl hd kk
theorem mg_1 (C : zC p s m args meth c A G cc nL rt own nm Ts) (hin : ∀ w ∈ u_ws RX10 TX10 39, w ∈ Ts) (hlink : Cond.fieldLink own index "OneTimerModel" "pots" "I" ∈ Ts) (hd : decode cc pc = .ok (.getfield index, 3)) (kk : Z p l e R s m args below meth c A G nL Q cs ss (MW G q S ++ X) lv (pc + 3) (.int (mI S 1) :: st)) : Z p l e R s m args below meth c A G nL Q cs ss (MW G q S ++ X) lv pc (.ref (q 0) :: st) := z_get C hin 0 rfl rfl 1 (by decide) hlink (fun _ h => h) rfl hd kk
theorem mp_1 (C : zC p s m args meth c A G cc nL rt own nm Ts) (hin : ∀ w ∈ u_ws RX10 TX10 39, w ∈ Ts) {v : Int32} (hlink : Cond.fieldLink own index "OneTimerModel" "pots" "I" ∈ Ts) (hd : decode cc pc = .ok (.putfield index, 3)) (kk : Z p l e R s m args below meth c A G nL Q cs ss (MW G q (msI S 1 v) ++ X) lv (pc + 3) st) : Z p l e R s m args below meth c A G nL Q cs ss (MW G q S ++ X) lv pc (.int v :: .ref (q 0) :: st) := z_put C hin tyX10 tyX10_ok nmX10 0 rfl rfl 1 (by decide) hlink (fun _ h => h) rfl rfl rfl (by decide) rfl hd kk
theorem mg_2 (C : zC p s m args meth c A G cc nL rt own nm Ts) (hin : ∀ w ∈ u_ws RX10 TX10 39, w ∈ Ts) (hlink : Cond.fieldLink own index "OneTimerModel" "spring" "I" ∈ Ts) (hd : decode cc pc = .ok (.getfield index, 3)) (kk : Z p l e R s m args below meth c A G nL Q cs ss (MW G q S ++ X) lv (pc + 3) (.int (mI S 2) :: st)) : Z p l e R s m args below meth c A G nL Q cs ss (MW G q S ++ X) lv pc (.ref (q 0) :: st) := z_get C hin 0 rfl rfl 2 (by decide) hlink (fun _ h => h) rfl hd kk
theorem mp_2 (C : zC p s m args meth c A G cc nL rt own nm Ts) (hin : ∀ w ∈ u_ws RX10 TX10 39, w ∈ Ts) {v : Int32} (hlink : Cond.fieldLink own index "OneTimerModel" "spring" "I" ∈ Ts) (hd : decode cc pc = .ok (.putfield index, 3)) (kk : Z p l e R s m args below meth c A G nL Q cs ss (MW G q (msI S 2 v) ++ X) lv (pc + 3) st) : Z p l e R s m args below meth c A G nL Q cs ss (MW G q S ++ X) lv pc (.int v :: .ref (q 0) :: st) := z_put C hin tyX10 tyX10_ok nmX10 0 rfl rfl 2 (by decide) hlink (fun _ h => h) rfl rfl rfl (by decide) rfl hd kk
theorem mg_3 (C : zC p s m args meth c A G cc nL rt own nm Ts) (hin : ∀ w ∈ u_ws RX10 TX10 39, w ∈ Ts) (hlink : Cond.fieldLink own index "OneTimerModel" "hands" "I" ∈ Ts) (hd : decode cc pc = .ok (.getfield index, 3)) (kk : Z p l e R s m args below meth c A G nL Q cs ss (MW G q S ++ X) lv (pc + 3) (.int (mI S 3) :: st)) : Z p l e R s m args below meth c A G nL Q cs ss (MW G q S ++ X) lv pc (.ref (q 0) :: st) := z_get C hin 0 rfl rfl 3 (by decide) hlink (fun _ h => h) rfl hd kk
theorem mp_3 (C : zC p s m args meth c A G cc nL rt own nm Ts) (hin : ∀ w ∈ u_ws RX10 TX10 39, w ∈ Ts) {v : Int32} (hlink : Cond.fieldLink own index "OneTimerModel" "hands" "I" ∈ Ts) (hd : decode cc pc = .ok (.putfield index, 3)) (kk : Z p l e R s m args below meth c A G nL Q cs ss (MW G q (msI S 3 v) ++ X) lv (pc + 3) st) : Z p l e R s m args below meth c A G nL Q cs ss (MW G q S ++ X) lv pc (.int v :: .ref (q 0) :: st) := z_put C hin tyX10 tyX10_ok nmX10 0 rfl rfl 3 (by decide) hlink (fun _ h => h) rfl rfl rfl (by decide) rfl hd kk
theorem mg_4 (C : zC p s m args meth c A G cc nL rt own nm Ts) (hin : ∀ w ∈ u_ws RX10 TX10 39, w ∈ Ts) (hlink : Cond.fieldLink own index "OneTimerModel" "kindOf" "[I" ∈ Ts) (hd : decode cc pc = .ok (.getfield index, 3)) (kk : Z p l e R s m args below meth c A G nL Q cs ss (MW G q S ++ X) lv (pc + 3) (.ref (q 4) :: st)) : Z p l e R s m args below meth c A G nL Q cs ss (MW G q S ++ X) lv pc (.ref (q 0) :: st) := z_get C hin 0 rfl rfl 4 (by decide) hlink (fun _ h => h) rfl hd kk
theorem ml_4 (C : zC p s m args meth c A G cc nL rt own nm Ts) {i : Int32} (hin : vp_in i 4) (hd : decode cc pc = .ok (.iaload, 1)) (kk : Z p l e R s m args below meth c A G nL Q cs ss (MW G q S ++ X) lv (pc + 1) (.int (mA S 4 i.toNatClampNeg) :: st)) : Z p l e R s m args below meth c A G nL Q cs ss (MW G q S ++ X) lv pc (.int i :: .ref (q 4) :: st) := z_iald C 1 rfl hin hd kk
theorem mt_4 (C : zC p s m args meth c A G cc nL rt own nm Ts) {i v : Int32} (hin : vp_in i 4) (hd : decode cc pc = .ok (.iastore, 1)) (kk : Z p l e R s m args below meth c A G nL Q cs ss (MW G q (msA S 4 i.toNatClampNeg (v)) ++ X) lv (pc + 1) st) : Z p l e R s m args below meth c A G nL Q cs ss (MW G q S ++ X) lv pc (.int v :: .int i :: .ref (q 4) :: st) := z_iast C 1 rfl hin rfl hd kk
theorem mg_5 (C : zC p s m args meth c A G cc nL rt own nm Ts) (hin : ∀ w ∈ u_ws RX10 TX10 39, w ∈ Ts) (hlink : Cond.fieldLink own index "OneTimerModel" "wantsOf" "[I" ∈ Ts) (hd : decode cc pc = .ok (.getfield index, 3)) (kk : Z p l e R s m args below meth c A G nL Q cs ss (MW G q S ++ X) lv (pc + 3) (.ref (q 5) :: st)) : Z p l e R s m args below meth c A G nL Q cs ss (MW G q S ++ X) lv pc (.ref (q 0) :: st) := z_get C hin 0 rfl rfl 5 (by decide) hlink (fun _ h => h) rfl hd kk
theorem ml_5 (C : zC p s m args meth c A G cc nL rt own nm Ts) {i : Int32} (hin : vp_in i 4) (hd : decode cc pc = .ok (.iaload, 1)) (kk : Z p l e R s m args below meth c A G nL Q cs ss (MW G q S ++ X) lv (pc + 1) (.int (mA S 5 i.toNatClampNeg) :: st)) : Z p l e R s m args below meth c A G nL Q cs ss (MW G q S ++ X) lv pc (.int i :: .ref (q 5) :: st) := z_iald C 2 rfl hin hd kk
theorem mt_5 (C : zC p s m args meth c A G cc nL rt own nm Ts) {i v : Int32} (hin : vp_in i 4) (hd : decode cc pc = .ok (.iastore, 1)) (kk : Z p l e R s m args below meth c A G nL Q cs ss (MW G q (msA S 5 i.toNatClampNeg (v)) ++ X) lv (pc + 1) st) : Z p l e R s m args below meth c A G nL Q cs ss (MW G q S ++ X) lv pc (.int v :: .int i :: .ref (q 5) :: st) := z_iast C 2 rfl hin rfl hd kk
theorem mg_6 (C : zC p s m args meth c A G cc nL rt own nm Ts) (hin : ∀ w ∈ u_ws RX10 TX10 39, w ∈ Ts) (hlink : Cond.fieldLink own index "OneTimerModel" "minute" "I" ∈ Ts) (hd : decode cc pc = .ok (.getfield index, 3)) (kk : Z p l e R s m args below meth c A G nL Q cs ss (MW G q S ++ X) lv (pc + 3) (.int (mI S 6) :: st)) : Z p l e R s m args below meth c A G nL Q cs ss (MW G q S ++ X) lv pc (.ref (q 0) :: st) := z_get C hin 0 rfl rfl 6 (by decide) hlink (fun _ h => h) rfl hd kk
theorem mp_6 (C : zC p s m args meth c A G cc nL rt own nm Ts) (hin : ∀ w ∈ u_ws RX10 TX10 39, w ∈ Ts) {v : Int32} (hlink : Cond.fieldLink own index "OneTimerModel" "minute" "I" ∈ Ts) (hd : decode cc pc = .ok (.putfield index, 3)) (kk : Z p l e R s m args below meth c A G nL Q cs ss (MW G q (msI S 6 v) ++ X) lv (pc + 3) st) : Z p l e R s m args below meth c A G nL Q cs ss (MW G q S ++ X) lv pc (.int v :: .ref (q 0) :: st) := z_put C hin tyX10 tyX10_ok nmX10 0 rfl rfl 6 (by decide) hlink (fun _ h => h) rfl rfl rfl (by decide) rfl hd kk
theorem mg_7 (C : zC p s m args meth c A G cc nL rt own nm Ts) (hin : ∀ w ∈ u_ws RX10 TX10 39, w ∈ Ts) (hlink : Cond.fieldLink own index "OneTimerModel" "free" "I" ∈ Ts) (hd : decode cc pc = .ok (.getfield index, 3)) (kk : Z p l e R s m args below meth c A G nL Q cs ss (MW G q S ++ X) lv (pc + 3) (.int (mI S 7) :: st)) : Z p l e R s m args below meth c A G nL Q cs ss (MW G q S ++ X) lv pc (.ref (q 0) :: st) := z_get C hin 0 rfl rfl 7 (by decide) hlink (fun _ h => h) rfl hd kk
theorem mp_7 (C : zC p s m args meth c A G cc nL rt own nm Ts) (hin : ∀ w ∈ u_ws RX10 TX10 39, w ∈ Ts) {v : Int32} (hlink : Cond.fieldLink own index "OneTimerModel" "free" "I" ∈ Ts) (hd : decode cc pc = .ok (.putfield index, 3)) (kk : Z p l e R s m args below meth c A G nL Q cs ss (MW G q (msI S 7 v) ++ X) lv (pc + 3) st) : Z p l e R s m args below meth c A G nL Q cs ss (MW G q S ++ X) lv pc (.int v :: .ref (q 0) :: st) := z_put C hin tyX10 tyX10_ok nmX10 0 rfl rfl 7 (by decide) hlink (fun _ h => h) rfl rfl rfl (by decide) rfl hd kk
theorem mg_8 (C : zC p s m args meth c A G cc nL rt own nm Ts) (hin : ∀ w ∈ u_ws RX10 TX10 39, w ∈ Ts) (hlink : Cond.fieldLink own index "OneTimerModel" "windings" "I" ∈ Ts) (hd : decode cc pc = .ok (.getfield index, 3)) (kk : Z p l e R s m args below meth c A G nL Q cs ss (MW G q S ++ X) lv (pc + 3) (.int (mI S 8) :: st)) : Z p l e R s m args below meth c A G nL Q cs ss (MW G q S ++ X) lv pc (.ref (q 0) :: st) := z_get C hin 0 rfl rfl 8 (by decide) hlink (fun _ h => h) rfl hd kk
theorem mp_8 (C : zC p s m args meth c A G cc nL rt own nm Ts) (hin : ∀ w ∈ u_ws RX10 TX10 39, w ∈ Ts) {v : Int32} (hlink : Cond.fieldLink own index "OneTimerModel" "windings" "I" ∈ Ts) (hd : decode cc pc = .ok (.putfield index, 3)) (kk : Z p l e R s m args below meth c A G nL Q cs ss (MW G q (msI S 8 v) ++ X) lv (pc + 3) st) : Z p l e R s m args below meth c A G nL Q cs ss (MW G q S ++ X) lv pc (.int v :: .ref (q 0) :: st) := z_put C hin tyX10 tyX10_ok nmX10 0 rfl rfl 8 (by decide) hlink (fun _ h => h) rfl rfl rfl (by decide) rfl hd kk
theorem mg_9 (C : zC p s m args meth c A G cc nL rt own nm Ts) (hin : ∀ w ∈ u_ws RX10 TX10 39, w ∈ Ts) (hlink : Cond.fieldLink own index "OneTimerModel" "sinceOf" "[I" ∈ Ts) (hd : decode cc pc = .ok (.getfield index, 3)) (kk : Z p l e R s m args below meth c A G nL Q cs ss (MW G q S ++ X) lv (pc + 3) (.ref (q 9) :: st)) : Z p l e R s m args below meth c A G nL Q cs ss (MW G q S ++ X) lv pc (.ref (q 0) :: st) := z_get C hin 0 rfl rfl 9 (by decide) hlink (fun _ h => h) rfl hd kk
theorem ml_9 (C : zC p s m args meth c A G cc nL rt own nm Ts) {i : Int32} (hin : vp_in i 4) (hd : decode cc pc = .ok (.iaload, 1)) (kk : Z p l e R s m args below meth c A G nL Q cs ss (MW G q S ++ X) lv (pc + 1) (.int (mA S 9 i.toNatClampNeg) :: st)) : Z p l e R s m args below meth c A G nL Q cs ss (MW G q S ++ X) lv pc (.int i :: .ref (q 9) :: st) := z_iald C 3 rfl hin hd kk
theorem mt_9 (C : zC p s m args meth c A G cc nL rt own nm Ts) {i v : Int32} (hin : vp_in i 4) (hd : decode cc pc = .ok (.iastore, 1)) (kk : Z p l e R s m args below meth c A G nL Q cs ss (MW G q (msA S 9 i.toNatClampNeg (v)) ++ X) lv (pc + 1) st) : Z p l e R s m args below meth c A G nL Q cs ss (MW G q S ++ X) lv pc (.int v :: .int i :: .ref (q 9) :: st) := z_iast C 3 rfl hin rfl hd kk
theorem mg_10 (C : zC p s m args meth c A G cc nL rt own nm Ts) (hin : ∀ w ∈ u_ws RX10 TX10 39, w ∈ Ts) (hlink : Cond.fieldLink own index "OneTimerModel" "takenOf" "[I" ∈ Ts) (hd : decode cc pc = .ok (.getfield index, 3)) (kk : Z p l e R s m args below meth c A G nL Q cs ss (MW G q S ++ X) lv (pc + 3) (.ref (q 10) :: st)) : Z p l e R s m args below meth c A G nL Q cs ss (MW G q S ++ X) lv pc (.ref (q 0) :: st) := z_get C hin 0 rfl rfl 10 (by decide) hlink (fun _ h => h) rfl hd kk
theorem ml_10 (C : zC p s m args meth c A G cc nL rt own nm Ts) {i : Int32} (hin : vp_in i 4) (hd : decode cc pc = .ok (.iaload, 1)) (kk : Z p l e R s m args below meth c A G nL Q cs ss (MW G q S ++ X) lv (pc + 1) (.int (mA S 10 i.toNatClampNeg) :: st)) : Z p l e R s m args below meth c A G nL Q cs ss (MW G q S ++ X) lv pc (.int i :: .ref (q 10) :: st) := z_iald C 4 rfl hin hd kk
theorem mt_10 (C : zC p s m args meth c A G cc nL rt own nm Ts) {i v : Int32} (hin : vp_in i 4) (hd : decode cc pc = .ok (.iastore, 1)) (kk : Z p l e R s m args below meth c A G nL Q cs ss (MW G q (msA S 10 i.toNatClampNeg (v)) ++ X) lv (pc + 1) st) : Z p l e R s m args below meth c A G nL Q cs ss (MW G q S ++ X) lv pc (.int v :: .int i :: .ref (q 10) :: st) := z_iast C 4 rfl hin rfl hd kk
theorem mg_11 (C : zC p s m args meth c A G cc nL rt own nm Ts) (hin : ∀ w ∈ u_ws RX10 TX10 39, w ∈ Ts) (hlink : Cond.fieldLink own index "OneTimerModel" "outOf" "[I" ∈ Ts) (hd : decode cc pc = .ok (.getfield index, 3)) (kk : Z p l e R s m args below meth c A G nL Q cs ss (MW G q S ++ X) lv (pc + 3) (.ref (q 11) :: st)) : Z p l e R s m args below meth c A G nL Q cs ss (MW G q S ++ X) lv pc (.ref (q 0) :: st) := z_get C hin 0 rfl rfl 11 (by decide) hlink (fun _ h => h) rfl hd kk
theorem ml_11 (C : zC p s m args meth c A G cc nL rt own nm Ts) {i : Int32} (hin : vp_in i 4) (hd : decode cc pc = .ok (.iaload, 1)) (kk : Z p l e R s m args below meth c A G nL Q cs ss (MW G q S ++ X) lv (pc + 1) (.int (mA S 11 i.toNatClampNeg) :: st)) : Z p l e R s m args below meth c A G nL Q cs ss (MW G q S ++ X) lv pc (.int i :: .ref (q 11) :: st) := z_iald C 5 rfl hin hd kk
theorem mt_11 (C : zC p s m args meth c A G cc nL rt own nm Ts) {i v : Int32} (hin : vp_in i 4) (hd : decode cc pc = .ok (.iastore, 1)) (kk : Z p l e R s m args below meth c A G nL Q cs ss (MW G q (msA S 11 i.toNatClampNeg (v)) ++ X) lv (pc + 1) st) : Z p l e R s m args below meth c A G nL Q cs ss (MW G q S ++ X) lv pc (.int v :: .int i :: .ref (q 11) :: st) := z_iast C 5 rfl hin rfl hd kk
theorem mg_12 (C : zC p s m args meth c A G cc nL rt own nm Ts) (hin : ∀ w ∈ u_ws RX10 TX10 39, w ∈ Ts) (hlink : Cond.fieldLink own index "OneTimerModel" "told" "I" ∈ Ts) (hd : decode cc pc = .ok (.getfield index, 3)) (kk : Z p l e R s m args below meth c A G nL Q cs ss (MW G q S ++ X) lv (pc + 3) (.int (mI S 12) :: st)) : Z p l e R s m args below meth c A G nL Q cs ss (MW G q S ++ X) lv pc (.ref (q 0) :: st) := z_get C hin 0 rfl rfl 12 (by decide) hlink (fun _ h => h) rfl hd kk
theorem mp_12 (C : zC p s m args meth c A G cc nL rt own nm Ts) (hin : ∀ w ∈ u_ws RX10 TX10 39, w ∈ Ts) {v : Int32} (hlink : Cond.fieldLink own index "OneTimerModel" "told" "I" ∈ Ts) (hd : decode cc pc = .ok (.putfield index, 3)) (kk : Z p l e R s m args below meth c A G nL Q cs ss (MW G q (msI S 12 v) ++ X) lv (pc + 3) st) : Z p l e R s m args below meth c A G nL Q cs ss (MW G q S ++ X) lv pc (.int v :: .ref (q 0) :: st) := z_put C hin tyX10 tyX10_ok nmX10 0 rfl rfl 12 (by decide) hlink (fun _ h => h) rfl rfl rfl (by decide) rfl hd kk
theorem mg_13 (C : zC p s m args meth c A G cc nL rt own nm Ts) (hin : ∀ w ∈ u_ws RX10 TX10 39, w ∈ Ts) (hlink : Cond.fieldLink own index "OneTimerModel" "toldMinute" "[I" ∈ Ts) (hd : decode cc pc = .ok (.getfield index, 3)) (kk : Z p l e R s m args below meth c A G nL Q cs ss (MW G q S ++ X) lv (pc + 3) (.ref (q 13) :: st)) : Z p l e R s m args below meth c A G nL Q cs ss (MW G q S ++ X) lv pc (.ref (q 0) :: st) := z_get C hin 0 rfl rfl 13 (by decide) hlink (fun _ h => h) rfl hd kk
theorem ml_13 (C : zC p s m args meth c A G cc nL rt own nm Ts) {i : Int32} (hin : vp_in i 6) (hd : decode cc pc = .ok (.iaload, 1)) (kk : Z p l e R s m args below meth c A G nL Q cs ss (MW G q S ++ X) lv (pc + 1) (.int (mA S 13 i.toNatClampNeg) :: st)) : Z p l e R s m args below meth c A G nL Q cs ss (MW G q S ++ X) lv pc (.int i :: .ref (q 13) :: st) := z_iald C 6 rfl hin hd kk
theorem mt_13 (C : zC p s m args meth c A G cc nL rt own nm Ts) {i v : Int32} (hin : vp_in i 6) (hd : decode cc pc = .ok (.iastore, 1)) (kk : Z p l e R s m args below meth c A G nL Q cs ss (MW G q (msA S 13 i.toNatClampNeg (v)) ++ X) lv (pc + 1) st) : Z p l e R s m args below meth c A G nL Q cs ss (MW G q S ++ X) lv pc (.int v :: .int i :: .ref (q 13) :: st) := z_iast C 6 rfl hin rfl hd kk
theorem mg_14 (C : zC p s m args meth c A G cc nL rt own nm Ts) (hin : ∀ w ∈ u_ws RX10 TX10 39, w ∈ Ts) (hlink : Cond.fieldLink own index "OneTimerModel" "toldDue" "[I" ∈ Ts) (hd : decode cc pc = .ok (.getfield index, 3)) (kk : Z p l e R s m args below meth c A G nL Q cs ss (MW G q S ++ X) lv (pc + 3) (.ref (q 14) :: st)) : Z p l e R s m args below meth c A G nL Q cs ss (MW G q S ++ X) lv pc (.ref (q 0) :: st) := z_get C hin 0 rfl rfl 14 (by decide) hlink (fun _ h => h) rfl hd kk
theorem ml_14 (C : zC p s m args meth c A G cc nL rt own nm Ts) {i : Int32} (hin : vp_in i 6) (hd : decode cc pc = .ok (.iaload, 1)) (kk : Z p l e R s m args below meth c A G nL Q cs ss (MW G q S ++ X) lv (pc + 1) (.int (mA S 14 i.toNatClampNeg) :: st)) : Z p l e R s m args below meth c A G nL Q cs ss (MW G q S ++ X) lv pc (.int i :: .ref (q 14) :: st) := z_iald C 7 rfl hin hd kk
theorem mt_14 (C : zC p s m args meth c A G cc nL rt own nm Ts) {i v : Int32} (hin : vp_in i 6) (hd : decode cc pc = .ok (.iastore, 1)) (kk : Z p l e R s m args below meth c A G nL Q cs ss (MW G q (msA S 14 i.toNatClampNeg (v)) ++ X) lv (pc + 1) st) : Z p l e R s m args below meth c A G nL Q cs ss (MW G q S ++ X) lv pc (.int v :: .int i :: .ref (q 14) :: st) := z_iast C 7 rfl hin rfl hd kk
theorem mg_15 (C : zC p s m args meth c A G cc nL rt own nm Ts) (hin : ∀ w ∈ u_ws RX10 TX10 39, w ∈ Ts) (hlink : Cond.fieldLink own index "OneTimerModel" "toldKeeps" "[I" ∈ Ts) (hd : decode cc pc = .ok (.getfield index, 3)) (kk : Z p l e R s m args below meth c A G nL Q cs ss (MW G q S ++ X) lv (pc + 3) (.ref (q 15) :: st)) : Z p l e R s m args below meth c A G nL Q cs ss (MW G q S ++ X) lv pc (.ref (q 0) :: st) := z_get C hin 0 rfl rfl 15 (by decide) hlink (fun _ h => h) rfl hd kk
theorem ml_15 (C : zC p s m args meth c A G cc nL rt own nm Ts) {i : Int32} (hin : vp_in i 6) (hd : decode cc pc = .ok (.iaload, 1)) (kk : Z p l e R s m args below meth c A G nL Q cs ss (MW G q S ++ X) lv (pc + 1) (.int (mA S 15 i.toNatClampNeg) :: st)) : Z p l e R s m args below meth c A G nL Q cs ss (MW G q S ++ X) lv pc (.int i :: .ref (q 15) :: st) := z_iald C 8 rfl hin hd kk
theorem mt_15 (C : zC p s m args meth c A G cc nL rt own nm Ts) {i v : Int32} (hin : vp_in i 6) (hd : decode cc pc = .ok (.iastore, 1)) (kk : Z p l e R s m args below meth c A G nL Q cs ss (MW G q (msA S 15 i.toNatClampNeg (v)) ++ X) lv (pc + 1) st) : Z p l e R s m args below meth c A G nL Q cs ss (MW G q S ++ X) lv pc (.int v :: .int i :: .ref (q 15) :: st) := z_iast C 8 rfl hin rfl hd kk
theorem mg_16 (C : zC p s m args meth c A G cc nL rt own nm Ts) (hin : ∀ w ∈ u_ws RX10 TX10 39, w ∈ Ts) (hlink : Cond.fieldLink own index "OneTimerModel" "toldOut" "[I" ∈ Ts) (hd : decode cc pc = .ok (.getfield index, 3)) (kk : Z p l e R s m args below meth c A G nL Q cs ss (MW G q S ++ X) lv (pc + 3) (.ref (q 16) :: st)) : Z p l e R s m args below meth c A G nL Q cs ss (MW G q S ++ X) lv pc (.ref (q 0) :: st) := z_get C hin 0 rfl rfl 16 (by decide) hlink (fun _ h => h) rfl hd kk
theorem ml_16 (C : zC p s m args meth c A G cc nL rt own nm Ts) {i : Int32} (hin : vp_in i 6) (hd : decode cc pc = .ok (.iaload, 1)) (kk : Z p l e R s m args below meth c A G nL Q cs ss (MW G q S ++ X) lv (pc + 1) (.int (mA S 16 i.toNatClampNeg) :: st)) : Z p l e R s m args below meth c A G nL Q cs ss (MW G q S ++ X) lv pc (.int i :: .ref (q 16) :: st) := z_iald C 9 rfl hin hd kk
theorem mt_16 (C : zC p s m args meth c A G cc nL rt own nm Ts) {i v : Int32} (hin : vp_in i 6) (hd : decode cc pc = .ok (.iastore, 1)) (kk : Z p l e R s m args below meth c A G nL Q cs ss (MW G q (msA S 16 i.toNatClampNeg (v)) ++ X) lv (pc + 1) st) : Z p l e R s m args below meth c A G nL Q cs ss (MW G q S ++ X) lv pc (.int v :: .int i :: .ref (q 16) :: st) := z_iast C 9 rfl hin rfl hd kk
theorem mg_17 (C : zC p s m args meth c A G cc nL rt own nm Ts) (hin : ∀ w ∈ u_ws RX10 TX10 39, w ∈ Ts) (hlink : Cond.fieldLink own index "OneTimerModel" "asks" "I" ∈ Ts) (hd : decode cc pc = .ok (.getfield index, 3)) (kk : Z p l e R s m args below meth c A G nL Q cs ss (MW G q S ++ X) lv (pc + 3) (.int (mI S 17) :: st)) : Z p l e R s m args below meth c A G nL Q cs ss (MW G q S ++ X) lv pc (.ref (q 0) :: st) := z_get C hin 0 rfl rfl 17 (by decide) hlink (fun _ h => h) rfl hd kk
theorem mp_17 (C : zC p s m args meth c A G cc nL rt own nm Ts) (hin : ∀ w ∈ u_ws RX10 TX10 39, w ∈ Ts) {v : Int32} (hlink : Cond.fieldLink own index "OneTimerModel" "asks" "I" ∈ Ts) (hd : decode cc pc = .ok (.putfield index, 3)) (kk : Z p l e R s m args below meth c A G nL Q cs ss (MW G q (msI S 17 v) ++ X) lv (pc + 3) st) : Z p l e R s m args below meth c A G nL Q cs ss (MW G q S ++ X) lv pc (.int v :: .ref (q 0) :: st) := z_put C hin tyX10 tyX10_ok nmX10 0 rfl rfl 17 (by decide) hlink (fun _ h => h) rfl rfl rfl (by decide) rfl hd kk
theorem mg_18 (C : zC p s m args meth c A G cc nL rt own nm Ts) (hin : ∀ w ∈ u_ws RX10 TX10 39, w ∈ Ts) (hlink : Cond.fieldLink own index "OneTimerModel" "pageLength" "I" ∈ Ts) (hd : decode cc pc = .ok (.getfield index, 3)) (kk : Z p l e R s m args below meth c A G nL Q cs ss (MW G q S ++ X) lv (pc + 3) (.int (mI S 18) :: st)) : Z p l e R s m args below meth c A G nL Q cs ss (MW G q S ++ X) lv pc (.ref (q 0) :: st) := z_get C hin 0 rfl rfl 18 (by decide) hlink (fun _ h => h) rfl hd kk
theorem mp_18 (C : zC p s m args meth c A G cc nL rt own nm Ts) (hin : ∀ w ∈ u_ws RX10 TX10 39, w ∈ Ts) {v : Int32} (hlink : Cond.fieldLink own index "OneTimerModel" "pageLength" "I" ∈ Ts) (hd : decode cc pc = .ok (.putfield index, 3)) (kk : Z p l e R s m args below meth c A G nL Q cs ss (MW G q (msI S 18 v) ++ X) lv (pc + 3) st) : Z p l e R s m args below meth c A G nL Q cs ss (MW G q S ++ X) lv pc (.int v :: .ref (q 0) :: st) := z_put C hin tyX10 tyX10_ok nmX10 0 rfl rfl 18 (by decide) hlink (fun _ h => h) rfl rfl rfl (by decide) rfl hd kk
theorem mg_19 (C : zC p s m args meth c A G cc nL rt own nm Ts) (hin : ∀ w ∈ u_ws RX10 TX10 39, w ∈ Ts) (hlink : Cond.fieldLink own index "OneTimerModel" "page" "[B" ∈ Ts) (hd : decode cc pc = .ok (.getfield index, 3)) (kk : Z p l e R s m args below meth c A G nL Q cs ss (MW G q S ++ X) lv (pc + 3) (.ref (q 19) :: st)) : Z p l e R s m args below meth c A G nL Q cs ss (MW G q S ++ X) lv pc (.ref (q 0) :: st) := z_get C hin 0 rfl rfl 19 (by decide) hlink (fun _ h => h) rfl hd kk
theorem ml_19 (C : zC p s m args meth c A G cc nL rt own nm Ts) {i : Int32} (hin : vp_in i 21) (hd : decode cc pc = .ok (.baload, 1)) (kk : Z p l e R s m args below meth c A G nL Q cs ss (MW G q S ++ X) lv (pc + 1) (.int (mA S 19 i.toNatClampNeg) :: st)) : Z p l e R s m args below meth c A G nL Q cs ss (MW G q S ++ X) lv pc (.int i :: .ref (q 19) :: st) := z_bald C 10 rfl hin hd kk
theorem mt_19 (C : zC p s m args meth c A G cc nL rt own nm Ts) {i v : Int32} (hin : vp_in i 21) (hd : decode cc pc = .ok (.bastore, 1)) (kk : Z p l e R s m args below meth c A G nL Q cs ss (MW G q (msA S 19 i.toNatClampNeg (v.toInt8.toInt32)) ++ X) lv (pc + 1) st) : Z p l e R s m args below meth c A G nL Q cs ss (MW G q S ++ X) lv pc (.int v :: .int i :: .ref (q 19) :: st) := z_bast C 10 rfl hin rfl hd kk
theorem mg_20 (C : zC p s m args meth c A G cc nL rt own nm Ts) (hin : ∀ w ∈ u_ws RX10 TX10 39, w ∈ Ts) (hlink : Cond.fieldLink own index "OneTimerModel" "isWhole" "Z" ∈ Ts) (hd : decode cc pc = .ok (.getfield index, 3)) (kk : Z p l e R s m args below meth c A G nL Q cs ss (MW G q S ++ X) lv (pc + 3) (.int (mI S 20) :: st)) : Z p l e R s m args below meth c A G nL Q cs ss (MW G q S ++ X) lv pc (.ref (q 0) :: st) := z_get C hin 0 rfl rfl 20 (by decide) hlink (fun _ h => h) rfl hd kk
theorem mp_20 (C : zC p s m args meth c A G cc nL rt own nm Ts) (hin : ∀ w ∈ u_ws RX10 TX10 39, w ∈ Ts) {v : Int32} (hv : v = 0 ∨ v = 1) (hlink : Cond.fieldLink own index "OneTimerModel" "isWhole" "Z" ∈ Ts) (hd : decode cc pc = .ok (.putfield index, 3)) (kk : Z p l e R s m args below meth c A G nL Q cs ss (MW G q (msI S 20 v) ++ X) lv (pc + 3) st) : Z p l e R s m args below meth c A G nL Q cs ss (MW G q S ++ X) lv pc (.int v :: .ref (q 0) :: st) := z_put C hin tyX10 tyX10_ok nmX10 0 rfl rfl 20 (by decide) hlink (fun _ h => h) rfl (by rcases hv with rfl | rfl <;> rfl) (by rcases hv with rfl | rfl <;> rfl) (by decide) rfl hd kk
theorem mg_21 (C : zC p s m args meth c A G cc nL rt own nm Ts) (hin : ∀ w ∈ u_ws RX10 TX10 39, w ∈ Ts) (hlink : Cond.fieldLink own index "OneTimerModel" "newMany" "I" ∈ Ts) (hd : decode cc pc = .ok (.getfield index, 3)) (kk : Z p l e R s m args below meth c A G nL Q cs ss (MW G q S ++ X) lv (pc + 3) (.int (mI S 21) :: st)) : Z p l e R s m args below meth c A G nL Q cs ss (MW G q S ++ X) lv pc (.ref (q 0) :: st) := z_get C hin 0 rfl rfl 21 (by decide) hlink (fun _ h => h) rfl hd kk
theorem mp_21 (C : zC p s m args meth c A G cc nL rt own nm Ts) (hin : ∀ w ∈ u_ws RX10 TX10 39, w ∈ Ts) {v : Int32} (hlink : Cond.fieldLink own index "OneTimerModel" "newMany" "I" ∈ Ts) (hd : decode cc pc = .ok (.putfield index, 3)) (kk : Z p l e R s m args below meth c A G nL Q cs ss (MW G q (msI S 21 v) ++ X) lv (pc + 3) st) : Z p l e R s m args below meth c A G nL Q cs ss (MW G q S ++ X) lv pc (.int v :: .ref (q 0) :: st) := z_put C hin tyX10 tyX10_ok nmX10 0 rfl rfl 21 (by decide) hlink (fun _ h => h) rfl rfl rfl (by decide) rfl hd kk
theorem mg_22 (C : zC p s m args meth c A G cc nL rt own nm Ts) (hin : ∀ w ∈ u_ws RX10 TX10 39, w ∈ Ts) (hlink : Cond.fieldLink own index "OneTimerModel" "farOf" "[I" ∈ Ts) (hd : decode cc pc = .ok (.getfield index, 3)) (kk : Z p l e R s m args below meth c A G nL Q cs ss (MW G q S ++ X) lv (pc + 3) (.ref (q 22) :: st)) : Z p l e R s m args below meth c A G nL Q cs ss (MW G q S ++ X) lv pc (.ref (q 0) :: st) := z_get C hin 0 rfl rfl 22 (by decide) hlink (fun _ h => h) rfl hd kk
theorem ml_22 (C : zC p s m args meth c A G cc nL rt own nm Ts) {i : Int32} (hin : vp_in i 1936) (hd : decode cc pc = .ok (.iaload, 1)) (kk : Z p l e R s m args below meth c A G nL Q cs ss (MW G q S ++ X) lv (pc + 1) (.int (mA S 22 i.toNatClampNeg) :: st)) : Z p l e R s m args below meth c A G nL Q cs ss (MW G q S ++ X) lv pc (.int i :: .ref (q 22) :: st) := z_iald C 11 rfl hin hd kk
theorem mt_22 (C : zC p s m args meth c A G cc nL rt own nm Ts) {i v : Int32} (hin : vp_in i 1936) (hd : decode cc pc = .ok (.iastore, 1)) (kk : Z p l e R s m args below meth c A G nL Q cs ss (MW G q (msA S 22 i.toNatClampNeg (v)) ++ X) lv (pc + 1) st) : Z p l e R s m args below meth c A G nL Q cs ss (MW G q S ++ X) lv pc (.int v :: .int i :: .ref (q 22) :: st) := z_iast C 11 rfl hin rfl hd kk
theorem mg_23 (C : zC p s m args meth c A G cc nL rt own nm Ts) (hin : ∀ w ∈ u_ws RX10 TX10 39, w ∈ Ts) (hlink : Cond.fieldLink own index "OneTimerModel" "firstOf" "[I" ∈ Ts) (hd : decode cc pc = .ok (.getfield index, 3)) (kk : Z p l e R s m args below meth c A G nL Q cs ss (MW G q S ++ X) lv (pc + 3) (.ref (q 23) :: st)) : Z p l e R s m args below meth c A G nL Q cs ss (MW G q S ++ X) lv pc (.ref (q 0) :: st) := z_get C hin 0 rfl rfl 23 (by decide) hlink (fun _ h => h) rfl hd kk
theorem ml_23 (C : zC p s m args meth c A G cc nL rt own nm Ts) {i : Int32} (hin : vp_in i 1936) (hd : decode cc pc = .ok (.iaload, 1)) (kk : Z p l e R s m args below meth c A G nL Q cs ss (MW G q S ++ X) lv (pc + 1) (.int (mA S 23 i.toNatClampNeg) :: st)) : Z p l e R s m args below meth c A G nL Q cs ss (MW G q S ++ X) lv pc (.int i :: .ref (q 23) :: st) := z_iald C 12 rfl hin hd kk
theorem mt_23 (C : zC p s m args meth c A G cc nL rt own nm Ts) {i v : Int32} (hin : vp_in i 1936) (hd : decode cc pc = .ok (.iastore, 1)) (kk : Z p l e R s m args below meth c A G nL Q cs ss (MW G q (msA S 23 i.toNatClampNeg (v)) ++ X) lv (pc + 1) st) : Z p l e R s m args below meth c A G nL Q cs ss (MW G q S ++ X) lv pc (.int v :: .int i :: .ref (q 23) :: st) := z_iast C 12 rfl hin rfl hd kk
theorem mg_24 (C : zC p s m args meth c A G cc nL rt own nm Ts) (hin : ∀ w ∈ u_ws RX10 TX10 39, w ∈ Ts) (hlink : Cond.fieldLink own index "OneTimerModel" "seedNow" "J" ∈ Ts) (hd : decode cc pc = .ok (.getfield index, 3)) (kk : Z p l e R s m args below meth c A G nL Q cs ss (MW G q S ++ X) lv (pc + 3) (.long (mL S 24) :: st)) : Z p l e R s m args below meth c A G nL Q cs ss (MW G q S ++ X) lv pc (.ref (q 0) :: st) := z_get C hin 0 rfl rfl 24 (by decide) hlink (fun _ h => h) rfl hd kk
theorem mp_24 (C : zC p s m args meth c A G cc nL rt own nm Ts) (hin : ∀ w ∈ u_ws RX10 TX10 39, w ∈ Ts) {v : Int64} (hlink : Cond.fieldLink own index "OneTimerModel" "seedNow" "J" ∈ Ts) (hd : decode cc pc = .ok (.putfield index, 3)) (kk : Z p l e R s m args below meth c A G nL Q cs ss (MW G q (msL S 24 v) ++ X) lv (pc + 3) st) : Z p l e R s m args below meth c A G nL Q cs ss (MW G q S ++ X) lv pc (.long v :: .ref (q 0) :: st) := z_put C hin tyX10 tyX10_ok nmX10 0 rfl rfl 24 (by decide) hlink (fun _ h => h) rfl rfl rfl (by decide) rfl hd kk
theorem mg_25 (C : zC p s m args meth c A G cc nL rt own nm Ts) (hin : ∀ w ∈ u_ws RX10 TX10 39, w ∈ Ts) (hlink : Cond.fieldLink own index "OneTimerModel" "isKept" "Z" ∈ Ts) (hd : decode cc pc = .ok (.getfield index, 3)) (kk : Z p l e R s m args below meth c A G nL Q cs ss (MW G q S ++ X) lv (pc + 3) (.int (mI S 25) :: st)) : Z p l e R s m args below meth c A G nL Q cs ss (MW G q S ++ X) lv pc (.ref (q 0) :: st) := z_get C hin 0 rfl rfl 25 (by decide) hlink (fun _ h => h) rfl hd kk
theorem mp_25 (C : zC p s m args meth c A G cc nL rt own nm Ts) (hin : ∀ w ∈ u_ws RX10 TX10 39, w ∈ Ts) {v : Int32} (hv : v = 0 ∨ v = 1) (hlink : Cond.fieldLink own index "OneTimerModel" "isKept" "Z" ∈ Ts) (hd : decode cc pc = .ok (.putfield index, 3)) (kk : Z p l e R s m args below meth c A G nL Q cs ss (MW G q (msI S 25 v) ++ X) lv (pc + 3) st) : Z p l e R s m args below meth c A G nL Q cs ss (MW G q S ++ X) lv pc (.int v :: .ref (q 0) :: st) := z_put C hin tyX10 tyX10_ok nmX10 0 rfl rfl 25 (by decide) hlink (fun _ h => h) rfl (by rcases hv with rfl | rfl <;> rfl) (by rcases hv with rfl | rfl <;> rfl) (by decide) rfl hd kk
theorem mg_26 (C : zC p s m args meth c A G cc nL rt own nm Ts) (hin : ∀ w ∈ u_ws RX10 TX10 39, w ∈ Ts) (hlink : Cond.fieldLink own index "OneTimerModel" "keptKitchen" "I" ∈ Ts) (hd : decode cc pc = .ok (.getfield index, 3)) (kk : Z p l e R s m args below meth c A G nL Q cs ss (MW G q S ++ X) lv (pc + 3) (.int (mI S 26) :: st)) : Z p l e R s m args below meth c A G nL Q cs ss (MW G q S ++ X) lv pc (.ref (q 0) :: st) := z_get C hin 0 rfl rfl 26 (by decide) hlink (fun _ h => h) rfl hd kk
theorem mp_26 (C : zC p s m args meth c A G cc nL rt own nm Ts) (hin : ∀ w ∈ u_ws RX10 TX10 39, w ∈ Ts) {v : Int32} (hlink : Cond.fieldLink own index "OneTimerModel" "keptKitchen" "I" ∈ Ts) (hd : decode cc pc = .ok (.putfield index, 3)) (kk : Z p l e R s m args below meth c A G nL Q cs ss (MW G q (msI S 26 v) ++ X) lv (pc + 3) st) : Z p l e R s m args below meth c A G nL Q cs ss (MW G q S ++ X) lv pc (.int v :: .ref (q 0) :: st) := z_put C hin tyX10 tyX10_ok nmX10 0 rfl rfl 26 (by decide) hlink (fun _ h => h) rfl rfl rfl (by decide) rfl hd kk
theorem mg_27 (C : zC p s m args meth c A G cc nL rt own nm Ts) (hin : ∀ w ∈ u_ws RX10 TX10 39, w ∈ Ts) (hlink : Cond.fieldLink own index "OneTimerModel" "keptMinute" "I" ∈ Ts) (hd : decode cc pc = .ok (.getfield index, 3)) (kk : Z p l e R s m args below meth c A G nL Q cs ss (MW G q S ++ X) lv (pc + 3) (.int (mI S 27) :: st)) : Z p l e R s m args below meth c A G nL Q cs ss (MW G q S ++ X) lv pc (.ref (q 0) :: st) := z_get C hin 0 rfl rfl 27 (by decide) hlink (fun _ h => h) rfl hd kk
theorem mp_27 (C : zC p s m args meth c A G cc nL rt own nm Ts) (hin : ∀ w ∈ u_ws RX10 TX10 39, w ∈ Ts) {v : Int32} (hlink : Cond.fieldLink own index "OneTimerModel" "keptMinute" "I" ∈ Ts) (hd : decode cc pc = .ok (.putfield index, 3)) (kk : Z p l e R s m args below meth c A G nL Q cs ss (MW G q (msI S 27 v) ++ X) lv (pc + 3) st) : Z p l e R s m args below meth c A G nL Q cs ss (MW G q S ++ X) lv pc (.int v :: .ref (q 0) :: st) := z_put C hin tyX10 tyX10_ok nmX10 0 rfl rfl 27 (by decide) hlink (fun _ h => h) rfl rfl rfl (by decide) rfl hd kk
theorem mg_28 (C : zC p s m args meth c A G cc nL rt own nm Ts) (hin : ∀ w ∈ u_ws RX10 TX10 39, w ∈ Ts) (hlink : Cond.fieldLink own index "OneTimerModel" "keptFree" "I" ∈ Ts) (hd : decode cc pc = .ok (.getfield index, 3)) (kk : Z p l e R s m args below meth c A G nL Q cs ss (MW G q S ++ X) lv (pc + 3) (.int (mI S 28) :: st)) : Z p l e R s m args below meth c A G nL Q cs ss (MW G q S ++ X) lv pc (.ref (q 0) :: st) := z_get C hin 0 rfl rfl 28 (by decide) hlink (fun _ h => h) rfl hd kk
theorem mp_28 (C : zC p s m args meth c A G cc nL rt own nm Ts) (hin : ∀ w ∈ u_ws RX10 TX10 39, w ∈ Ts) {v : Int32} (hlink : Cond.fieldLink own index "OneTimerModel" "keptFree" "I" ∈ Ts) (hd : decode cc pc = .ok (.putfield index, 3)) (kk : Z p l e R s m args below meth c A G nL Q cs ss (MW G q (msI S 28 v) ++ X) lv (pc + 3) st) : Z p l e R s m args below meth c A G nL Q cs ss (MW G q S ++ X) lv pc (.int v :: .ref (q 0) :: st) := z_put C hin tyX10 tyX10_ok nmX10 0 rfl rfl 28 (by decide) hlink (fun _ h => h) rfl rfl rfl (by decide) rfl hd kk
theorem mg_29 (C : zC p s m args meth c A G cc nL rt own nm Ts) (hin : ∀ w ∈ u_ws RX10 TX10 39, w ∈ Ts) (hlink : Cond.fieldLink own index "OneTimerModel" "keptWindings" "I" ∈ Ts) (hd : decode cc pc = .ok (.getfield index, 3)) (kk : Z p l e R s m args below meth c A G nL Q cs ss (MW G q S ++ X) lv (pc + 3) (.int (mI S 29) :: st)) : Z p l e R s m args below meth c A G nL Q cs ss (MW G q S ++ X) lv pc (.ref (q 0) :: st) := z_get C hin 0 rfl rfl 29 (by decide) hlink (fun _ h => h) rfl hd kk
theorem mp_29 (C : zC p s m args meth c A G cc nL rt own nm Ts) (hin : ∀ w ∈ u_ws RX10 TX10 39, w ∈ Ts) {v : Int32} (hlink : Cond.fieldLink own index "OneTimerModel" "keptWindings" "I" ∈ Ts) (hd : decode cc pc = .ok (.putfield index, 3)) (kk : Z p l e R s m args below meth c A G nL Q cs ss (MW G q (msI S 29 v) ++ X) lv (pc + 3) st) : Z p l e R s m args below meth c A G nL Q cs ss (MW G q S ++ X) lv pc (.int v :: .ref (q 0) :: st) := z_put C hin tyX10 tyX10_ok nmX10 0 rfl rfl 29 (by decide) hlink (fun _ h => h) rfl rfl rfl (by decide) rfl hd kk
theorem mg_30 (C : zC p s m args meth c A G cc nL rt own nm Ts) (hin : ∀ w ∈ u_ws RX10 TX10 39, w ∈ Ts) (hlink : Cond.fieldLink own index "OneTimerModel" "keptTold" "I" ∈ Ts) (hd : decode cc pc = .ok (.getfield index, 3)) (kk : Z p l e R s m args below meth c A G nL Q cs ss (MW G q S ++ X) lv (pc + 3) (.int (mI S 30) :: st)) : Z p l e R s m args below meth c A G nL Q cs ss (MW G q S ++ X) lv pc (.ref (q 0) :: st) := z_get C hin 0 rfl rfl 30 (by decide) hlink (fun _ h => h) rfl hd kk
theorem mp_30 (C : zC p s m args meth c A G cc nL rt own nm Ts) (hin : ∀ w ∈ u_ws RX10 TX10 39, w ∈ Ts) {v : Int32} (hlink : Cond.fieldLink own index "OneTimerModel" "keptTold" "I" ∈ Ts) (hd : decode cc pc = .ok (.putfield index, 3)) (kk : Z p l e R s m args below meth c A G nL Q cs ss (MW G q (msI S 30 v) ++ X) lv (pc + 3) st) : Z p l e R s m args below meth c A G nL Q cs ss (MW G q S ++ X) lv pc (.int v :: .ref (q 0) :: st) := z_put C hin tyX10 tyX10_ok nmX10 0 rfl rfl 30 (by decide) hlink (fun _ h => h) rfl rfl rfl (by decide) rfl hd kk
theorem mg_31 (C : zC p s m args meth c A G cc nL rt own nm Ts) (hin : ∀ w ∈ u_ws RX10 TX10 39, w ∈ Ts) (hlink : Cond.fieldLink own index "OneTimerModel" "keptSince" "[I" ∈ Ts) (hd : decode cc pc = .ok (.getfield index, 3)) (kk : Z p l e R s m args below meth c A G nL Q cs ss (MW G q S ++ X) lv (pc + 3) (.ref (q 31) :: st)) : Z p l e R s m args below meth c A G nL Q cs ss (MW G q S ++ X) lv pc (.ref (q 0) :: st) := z_get C hin 0 rfl rfl 31 (by decide) hlink (fun _ h => h) rfl hd kk
theorem ml_31 (C : zC p s m args meth c A G cc nL rt own nm Ts) {i : Int32} (hin : vp_in i 4) (hd : decode cc pc = .ok (.iaload, 1)) (kk : Z p l e R s m args below meth c A G nL Q cs ss (MW G q S ++ X) lv (pc + 1) (.int (mA S 31 i.toNatClampNeg) :: st)) : Z p l e R s m args below meth c A G nL Q cs ss (MW G q S ++ X) lv pc (.int i :: .ref (q 31) :: st) := z_iald C 13 rfl hin hd kk
theorem mt_31 (C : zC p s m args meth c A G cc nL rt own nm Ts) {i v : Int32} (hin : vp_in i 4) (hd : decode cc pc = .ok (.iastore, 1)) (kk : Z p l e R s m args below meth c A G nL Q cs ss (MW G q (msA S 31 i.toNatClampNeg (v)) ++ X) lv (pc + 1) st) : Z p l e R s m args below meth c A G nL Q cs ss (MW G q S ++ X) lv pc (.int v :: .int i :: .ref (q 31) :: st) := z_iast C 13 rfl hin rfl hd kk
theorem mg_32 (C : zC p s m args meth c A G cc nL rt own nm Ts) (hin : ∀ w ∈ u_ws RX10 TX10 39, w ∈ Ts) (hlink : Cond.fieldLink own index "OneTimerModel" "keptTaken" "[I" ∈ Ts) (hd : decode cc pc = .ok (.getfield index, 3)) (kk : Z p l e R s m args below meth c A G nL Q cs ss (MW G q S ++ X) lv (pc + 3) (.ref (q 32) :: st)) : Z p l e R s m args below meth c A G nL Q cs ss (MW G q S ++ X) lv pc (.ref (q 0) :: st) := z_get C hin 0 rfl rfl 32 (by decide) hlink (fun _ h => h) rfl hd kk
theorem ml_32 (C : zC p s m args meth c A G cc nL rt own nm Ts) {i : Int32} (hin : vp_in i 4) (hd : decode cc pc = .ok (.iaload, 1)) (kk : Z p l e R s m args below meth c A G nL Q cs ss (MW G q S ++ X) lv (pc + 1) (.int (mA S 32 i.toNatClampNeg) :: st)) : Z p l e R s m args below meth c A G nL Q cs ss (MW G q S ++ X) lv pc (.int i :: .ref (q 32) :: st) := z_iald C 14 rfl hin hd kk
theorem mt_32 (C : zC p s m args meth c A G cc nL rt own nm Ts) {i v : Int32} (hin : vp_in i 4) (hd : decode cc pc = .ok (.iastore, 1)) (kk : Z p l e R s m args below meth c A G nL Q cs ss (MW G q (msA S 32 i.toNatClampNeg (v)) ++ X) lv (pc + 1) st) : Z p l e R s m args below meth c A G nL Q cs ss (MW G q S ++ X) lv pc (.int v :: .int i :: .ref (q 32) :: st) := z_iast C 14 rfl hin rfl hd kk
theorem mg_33 (C : zC p s m args meth c A G cc nL rt own nm Ts) (hin : ∀ w ∈ u_ws RX10 TX10 39, w ∈ Ts) (hlink : Cond.fieldLink own index "OneTimerModel" "keptOut" "[I" ∈ Ts) (hd : decode cc pc = .ok (.getfield index, 3)) (kk : Z p l e R s m args below meth c A G nL Q cs ss (MW G q S ++ X) lv (pc + 3) (.ref (q 33) :: st)) : Z p l e R s m args below meth c A G nL Q cs ss (MW G q S ++ X) lv pc (.ref (q 0) :: st) := z_get C hin 0 rfl rfl 33 (by decide) hlink (fun _ h => h) rfl hd kk
theorem ml_33 (C : zC p s m args meth c A G cc nL rt own nm Ts) {i : Int32} (hin : vp_in i 4) (hd : decode cc pc = .ok (.iaload, 1)) (kk : Z p l e R s m args below meth c A G nL Q cs ss (MW G q S ++ X) lv (pc + 1) (.int (mA S 33 i.toNatClampNeg) :: st)) : Z p l e R s m args below meth c A G nL Q cs ss (MW G q S ++ X) lv pc (.int i :: .ref (q 33) :: st) := z_iald C 15 rfl hin hd kk
theorem mt_33 (C : zC p s m args meth c A G cc nL rt own nm Ts) {i v : Int32} (hin : vp_in i 4) (hd : decode cc pc = .ok (.iastore, 1)) (kk : Z p l e R s m args below meth c A G nL Q cs ss (MW G q (msA S 33 i.toNatClampNeg (v)) ++ X) lv (pc + 1) st) : Z p l e R s m args below meth c A G nL Q cs ss (MW G q S ++ X) lv pc (.int v :: .int i :: .ref (q 33) :: st) := z_iast C 15 rfl hin rfl hd kk
theorem mg_34 (C : zC p s m args meth c A G cc nL rt own nm Ts) (hin : ∀ w ∈ u_ws RX10 TX10 39, w ∈ Ts) (hlink : Cond.fieldLink own index "OneTimerModel" "keptToldMinute" "[I" ∈ Ts) (hd : decode cc pc = .ok (.getfield index, 3)) (kk : Z p l e R s m args below meth c A G nL Q cs ss (MW G q S ++ X) lv (pc + 3) (.ref (q 34) :: st)) : Z p l e R s m args below meth c A G nL Q cs ss (MW G q S ++ X) lv pc (.ref (q 0) :: st) := z_get C hin 0 rfl rfl 34 (by decide) hlink (fun _ h => h) rfl hd kk
theorem ml_34 (C : zC p s m args meth c A G cc nL rt own nm Ts) {i : Int32} (hin : vp_in i 6) (hd : decode cc pc = .ok (.iaload, 1)) (kk : Z p l e R s m args below meth c A G nL Q cs ss (MW G q S ++ X) lv (pc + 1) (.int (mA S 34 i.toNatClampNeg) :: st)) : Z p l e R s m args below meth c A G nL Q cs ss (MW G q S ++ X) lv pc (.int i :: .ref (q 34) :: st) := z_iald C 16 rfl hin hd kk
theorem mt_34 (C : zC p s m args meth c A G cc nL rt own nm Ts) {i v : Int32} (hin : vp_in i 6) (hd : decode cc pc = .ok (.iastore, 1)) (kk : Z p l e R s m args below meth c A G nL Q cs ss (MW G q (msA S 34 i.toNatClampNeg (v)) ++ X) lv (pc + 1) st) : Z p l e R s m args below meth c A G nL Q cs ss (MW G q S ++ X) lv pc (.int v :: .int i :: .ref (q 34) :: st) := z_iast C 16 rfl hin rfl hd kk
theorem mg_35 (C : zC p s m args meth c A G cc nL rt own nm Ts) (hin : ∀ w ∈ u_ws RX10 TX10 39, w ∈ Ts) (hlink : Cond.fieldLink own index "OneTimerModel" "keptDue" "[I" ∈ Ts) (hd : decode cc pc = .ok (.getfield index, 3)) (kk : Z p l e R s m args below meth c A G nL Q cs ss (MW G q S ++ X) lv (pc + 3) (.ref (q 35) :: st)) : Z p l e R s m args below meth c A G nL Q cs ss (MW G q S ++ X) lv pc (.ref (q 0) :: st) := z_get C hin 0 rfl rfl 35 (by decide) hlink (fun _ h => h) rfl hd kk
theorem ml_35 (C : zC p s m args meth c A G cc nL rt own nm Ts) {i : Int32} (hin : vp_in i 6) (hd : decode cc pc = .ok (.iaload, 1)) (kk : Z p l e R s m args below meth c A G nL Q cs ss (MW G q S ++ X) lv (pc + 1) (.int (mA S 35 i.toNatClampNeg) :: st)) : Z p l e R s m args below meth c A G nL Q cs ss (MW G q S ++ X) lv pc (.int i :: .ref (q 35) :: st) := z_iald C 17 rfl hin hd kk
theorem mt_35 (C : zC p s m args meth c A G cc nL rt own nm Ts) {i v : Int32} (hin : vp_in i 6) (hd : decode cc pc = .ok (.iastore, 1)) (kk : Z p l e R s m args below meth c A G nL Q cs ss (MW G q (msA S 35 i.toNatClampNeg (v)) ++ X) lv (pc + 1) st) : Z p l e R s m args below meth c A G nL Q cs ss (MW G q S ++ X) lv pc (.int v :: .int i :: .ref (q 35) :: st) := z_iast C 17 rfl hin rfl hd kk
theorem mg_36 (C : zC p s m args meth c A G cc nL rt own nm Ts) (hin : ∀ w ∈ u_ws RX10 TX10 39, w ∈ Ts) (hlink : Cond.fieldLink own index "OneTimerModel" "keptKeeps" "[I" ∈ Ts) (hd : decode cc pc = .ok (.getfield index, 3)) (kk : Z p l e R s m args below meth c A G nL Q cs ss (MW G q S ++ X) lv (pc + 3) (.ref (q 36) :: st)) : Z p l e R s m args below meth c A G nL Q cs ss (MW G q S ++ X) lv pc (.ref (q 0) :: st) := z_get C hin 0 rfl rfl 36 (by decide) hlink (fun _ h => h) rfl hd kk
theorem ml_36 (C : zC p s m args meth c A G cc nL rt own nm Ts) {i : Int32} (hin : vp_in i 6) (hd : decode cc pc = .ok (.iaload, 1)) (kk : Z p l e R s m args below meth c A G nL Q cs ss (MW G q S ++ X) lv (pc + 1) (.int (mA S 36 i.toNatClampNeg) :: st)) : Z p l e R s m args below meth c A G nL Q cs ss (MW G q S ++ X) lv pc (.int i :: .ref (q 36) :: st) := z_iald C 18 rfl hin hd kk
theorem mt_36 (C : zC p s m args meth c A G cc nL rt own nm Ts) {i v : Int32} (hin : vp_in i 6) (hd : decode cc pc = .ok (.iastore, 1)) (kk : Z p l e R s m args below meth c A G nL Q cs ss (MW G q (msA S 36 i.toNatClampNeg (v)) ++ X) lv (pc + 1) st) : Z p l e R s m args below meth c A G nL Q cs ss (MW G q S ++ X) lv pc (.int v :: .int i :: .ref (q 36) :: st) := z_iast C 18 rfl hin rfl hd kk
theorem mg_37 (C : zC p s m args meth c A G cc nL rt own nm Ts) (hin : ∀ w ∈ u_ws RX10 TX10 39, w ∈ Ts) (hlink : Cond.fieldLink own index "OneTimerModel" "keptToldOut" "[I" ∈ Ts) (hd : decode cc pc = .ok (.getfield index, 3)) (kk : Z p l e R s m args below meth c A G nL Q cs ss (MW G q S ++ X) lv (pc + 3) (.ref (q 37) :: st)) : Z p l e R s m args below meth c A G nL Q cs ss (MW G q S ++ X) lv pc (.ref (q 0) :: st) := z_get C hin 0 rfl rfl 37 (by decide) hlink (fun _ h => h) rfl hd kk
theorem ml_37 (C : zC p s m args meth c A G cc nL rt own nm Ts) {i : Int32} (hin : vp_in i 6) (hd : decode cc pc = .ok (.iaload, 1)) (kk : Z p l e R s m args below meth c A G nL Q cs ss (MW G q S ++ X) lv (pc + 1) (.int (mA S 37 i.toNatClampNeg) :: st)) : Z p l e R s m args below meth c A G nL Q cs ss (MW G q S ++ X) lv pc (.int i :: .ref (q 37) :: st) := z_iald C 19 rfl hin hd kk
theorem mt_37 (C : zC p s m args meth c A G cc nL rt own nm Ts) {i v : Int32} (hin : vp_in i 6) (hd : decode cc pc = .ok (.iastore, 1)) (kk : Z p l e R s m args below meth c A G nL Q cs ss (MW G q (msA S 37 i.toNatClampNeg (v)) ++ X) lv (pc + 1) st) : Z p l e R s m args below meth c A G nL Q cs ss (MW G q S ++ X) lv pc (.int v :: .int i :: .ref (q 37) :: st) := z_iast C 19 rfl hin rfl hd kk
theorem mg_38 (C : zC p s m args meth c A G cc nL rt own nm Ts) (hin : ∀ w ∈ u_ws RX10 TX10 39, w ∈ Ts) (hlink : Cond.fieldLink own index "OneTimerModel" "h" "J" ∈ Ts) (hd : decode cc pc = .ok (.getfield index, 3)) (kk : Z p l e R s m args below meth c A G nL Q cs ss (MW G q S ++ X) lv (pc + 3) (.long (mL S 38) :: st)) : Z p l e R s m args below meth c A G nL Q cs ss (MW G q S ++ X) lv pc (.ref (q 0) :: st) := z_get C hin 0 rfl rfl 38 (by decide) hlink (fun _ h => h) rfl hd kk
theorem mp_38 (C : zC p s m args meth c A G cc nL rt own nm Ts) (hin : ∀ w ∈ u_ws RX10 TX10 39, w ∈ Ts) {v : Int64} (hlink : Cond.fieldLink own index "OneTimerModel" "h" "J" ∈ Ts) (hd : decode cc pc = .ok (.putfield index, 3)) (kk : Z p l e R s m args below meth c A G nL Q cs ss (MW G q (msL S 38 v) ++ X) lv (pc + 3) st) : Z p l e R s m args below meth c A G nL Q cs ss (MW G q S ++ X) lv pc (.long v :: .ref (q 0) :: st) := z_put C hin tyX10 tyX10_ok nmX10 0 rfl rfl 38 (by decide) hlink (fun _ h => h) rfl rfl rfl (by decide) rfl hd kk
end ZM
/-! ===== the class's state: ints and rows by number; of each pot its fields; the pots themselves: how many, where, of which class ===== -/
abbrev XP : Type := Nat × (Nat → Nat) × (Nat → Nat)
abbrev XS : Type := (Nat → Int32) × (Nat → Nat → Int32) × (Nat → Nat → Int32)
def xI (S : XS) (k : Nat) : Int32 := S.1 k
def xA (S : XS) (k : Nat) : Nat → Int32 := S.2.1 k
def xR (S : XS) (i k : Nat) : Int32 := S.2.2 i k
def xsI (S : XS) (k : Nat) (v : Int32) : XS := (fun j => if j = k then v else S.1 j, S.2)
def xsA (S : XS) (k i : Nat) (v : Int32) : XS := (S.1, fun j => if j = k then upd (S.2.1 j) i v else S.2.1 j, S.2.2)
def xsR (S : XS) (i k : Nat) (v : Int32) : XS := (S.1, S.2.1, fun a b => if a = i ∧ b = k then v else S.2.2 a b)
def xPF (S : XS) (i : Nat) : List Value := [.int (xR S i 0), .int (xR S i 1), .int (xR S i 2), .int (xR S i 3), .int (xR S i 4), .int (xR S i 5), .int (xR S i 6)]
def xPW (P : XP) (S : XS) : va_W := (List.range P.1).map (fun i => zo (P.2.1 i) (P.2.2 i) (xPF S i))
def xRow (P : XP) : Nat → Option Nat := fun i => if i < P.1 then some (P.2.1 i) else none
def xOK (P : XP) : Prop := ∀ i, i < P.1 → P.2.2 i = 0 ∨ P.2.2 i = 2 ∨ P.2.2 i = 5 ∨ P.2.2 i = 6 ∨ P.2.2 i = 7
def XF (G : zGT) (q : Nat → Nat) (P : XP) (S : XS) : va_W := [zo (q 0) 9 [.ref (q 1), .ref (q 3), .ref (q 4), .ref (q 8), .ref (q 12), .ref (q 17), .int (xI S 6), .int (xI S 7), .int (xI S 8), .int (xI S 9), .int (xI S 10), .int (xI S 11), .int (xI S 12), .int (xI S 13), .int (xI S 14), .int (xI S 15), .int (xI S 16), .int (xI S 17)], zo (q 1) 3 [.ref (q 2), .int (xI S 20)], zi G (q 2) 21 (xA S 2), zq G (q 3) 4 (xRow P), zo (q 4) 8 [.ref (q 5), .ref (q 6), .ref (q 7), .int (xI S 21)], zi G (q 5) 6 (xA S 5), zi G (q 6) 6 (xA S 6), zi G (q 7) 6 (xA S 7), zo (q 8) 8 [.ref (q 9), .ref (q 10), .ref (q 11), .int (xI S 22)], zi G (q 9) 6 (xA S 9), zi G (q 10) 6 (xA S 10), zi G (q 11) 6 (xA S 11), zo (q 12) 4 [.ref (q 13), .ref (q 14), .ref (q 15), .ref (q 16), .int (xI S 24), .int (xI S 25), .int (xI S 26), .int (xI S 27), .int (xI S 28)], zi G (q 13) 1936 (xA S 13), zi G (q 14) 16 (xA S 14), zi G (q 15) 4 (xA S 15), zi G (q 16) 4 (xA S 16), zo (q 17) 1 [.int (xI S 30)]]
def XW (G : zGT) (q : Nat → Nat) (P : XP) (S : XS) : va_W := XF G q P S ++ xPW P S
theorem xw_pot {G : zGT} {q : Nat → Nat} {P : XP} {S : XS} {X : va_W} {i : Nat} (hi : i < P.1) : (XW G q P S ++ X)[18 + i]? = some (P.2.1 i, .inr (P.2.2 i, xPF S i)) := by
  have h1 : (XF G q P S).length = 18 := rfl
  have h2 : (xPW P S).length = P.1 := by simp [xPW]
  rw [XW, List.append_assoc, List.getElem?_append_right (by omega), h1, show 18 + i - 18 = i by omega, List.getElem?_append_left (by omega)]
  simp [xPW, hi]
theorem xw_potset {G : zGT} {q : Nat → Nat} {P : XP} {S : XS} {X : va_W} {i k : Nat} {v : Int32} (hi : i < P.1) (hk : k < 7) : (XW G q P S ++ X).set (18 + i) (P.2.1 i, .inr (P.2.2 i, (xPF S i).set k (.int v))) = XW G q P (xsR S i k v) ++ X := by
  have h1 : (XF G q P S).length = 18 := rfl
  have h2 : (xPW P S).length = P.1 := by simp [xPW]
  have h3 : XF G q P (xsR S i k v) = XF G q P S := rfl
  have h4 : (xPW P S).set i (P.2.1 i, .inr (P.2.2 i, (xPF S i).set k (.int v))) = xPW P (xsR S i k v) := by
    apply List.ext_getElem?
    intro j
    rw [List.getElem?_set]
    by_cases hj : j < P.1
    · by_cases hij : i = j
      · subst hij
        have e : (xPF S i).set k (.int v) = xPF (xsR S i k v) i := by
          rcases (show k = 0 ∨ k = 1 ∨ k = 2 ∨ k = 3 ∨ k = 4 ∨ k = 5 ∨ k = 6 by omega) with rfl | rfl | rfl | rfl | rfl | rfl | rfl <;> simp [xPF, xR, xsR]
        rw [e]
        simp [xPW, hi]
      · have e : xPF (xsR S i k v) j = xPF S j := by
          have hji : ¬ j = i := fun h => hij h.symm
          simp [xPF, xR, xsR, hji]
        simp [xPW, hj, hij, e]
    · have hij : ¬ i = j := fun h => hj (h ▸ hi)
      simp [xPW, hj, hij]
  rw [XW, XW, h3, List.append_assoc, List.set_append_right _ _ (by omega), h1, show 18 + i - 18 = i by omega, List.set_append_left _ _ (by omega), h4, ← List.append_assoc]
section ZX
variable {p : Program} {l : Launch} {e : Env} {R : Room} {s : State} {m : MethodId} {args : Array Value} {below : List Frame} {meth : Method} {c : Code} {A : Nat → Prop} {G : zGT} {cc : ByteArray} {nL : Nat} {rt : Option FieldType} {own nm : String} {Ts : List Cond} {Q : State → Prop} {cs ss : Nat} {lv : List (Nat × Value)} {pc index : Nat} {st : List Value} {q : Nat → Nat} {P : XP} {S : XS} {X : va_W}
theorem xg_T0 (C : zC p s m args meth c A G cc nL rt own nm Ts) (hin : ∀ w ∈ u_ws RX9 TX9 18, w ∈ Ts) (hlink : Cond.fieldLink own index "OneTimer" "page" "LOneTimer$Page;" ∈ Ts) (hd : decode cc pc = .ok (.getfield index, 3)) (kk : Z p l e R s m args below meth c A G nL Q cs ss (XW G q P S ++ X) lv (pc + 3) (.ref (q 1) :: st)) : Z p l e R s m args below meth c A G nL Q cs ss (XW G q P S ++ X) lv pc (.ref (q 0) :: st) := z_get C hin 0 rfl rfl 0 (by decide) hlink (fun _ h => h) rfl hd kk
theorem xg_T1 (C : zC p s m args meth c A G cc nL rt own nm Ts) (hin : ∀ w ∈ u_ws RX9 TX9 18, w ∈ Ts) (hlink : Cond.fieldLink own index "OneTimer" "pots" "[LOneTimer$Pot;" ∈ Ts) (hd : decode cc pc = .ok (.getfield index, 3)) (kk : Z p l e R s m args below meth c A G nL Q cs ss (XW G q P S ++ X) lv (pc + 3) (.ref (q 3) :: st)) : Z p l e R s m args below meth c A G nL Q cs ss (XW G q P S ++ X) lv pc (.ref (q 0) :: st) := z_get C hin 0 rfl rfl 1 (by decide) hlink (fun _ h => h) rfl hd kk
theorem xg_T2 (C : zC p s m args meth c A G cc nL rt own nm Ts) (hin : ∀ w ∈ u_ws RX9 TX9 18, w ∈ Ts) (hlink : Cond.fieldLink own index "OneTimer" "told" "LOneTimer$Told;" ∈ Ts) (hd : decode cc pc = .ok (.getfield index, 3)) (kk : Z p l e R s m args below meth c A G nL Q cs ss (XW G q P S ++ X) lv (pc + 3) (.ref (q 4) :: st)) : Z p l e R s m args below meth c A G nL Q cs ss (XW G q P S ++ X) lv pc (.ref (q 0) :: st) := z_get C hin 0 rfl rfl 2 (by decide) hlink (fun _ h => h) rfl hd kk
theorem xg_T3 (C : zC p s m args meth c A G cc nL rt own nm Ts) (hin : ∀ w ∈ u_ws RX9 TX9 18, w ∈ Ts) (hlink : Cond.fieldLink own index "OneTimer" "keptTold" "LOneTimer$Told;" ∈ Ts) (hd : decode cc pc = .ok (.getfield index, 3)) (kk : Z p l e R s m args below meth c A G nL Q cs ss (XW G q P S ++ X) lv (pc + 3) (.ref (q 8) :: st)) : Z p l e R s m args below meth c A G nL Q cs ss (XW G q P S ++ X) lv pc (.ref (q 0) :: st) := z_get C hin 0 rfl rfl 3 (by decide) hlink (fun _ h => h) rfl hd kk
theorem xg_T4 (C : zC p s m args meth c A G cc nL rt own nm Ts) (hin : ∀ w ∈ u_ws RX9 TX9 18, w ∈ Ts) (hlink : Cond.fieldLink own index "OneTimer" "planner" "LOneTimer$Planner;" ∈ Ts) (hd : decode cc pc = .ok (.getfield index, 3)) (kk : Z p l e R s m args below meth c A G nL Q cs ss (XW G q P S ++ X) lv (pc + 3) (.ref (q 12) :: st)) : Z p l e R s m args below meth c A G nL Q cs ss (XW G q P S ++ X) lv pc (.ref (q 0) :: st) := z_get C hin 0 rfl rfl 4 (by decide) hlink (fun _ h => h) rfl hd kk
theorem xg_T5 (C : zC p s m args meth c A G cc nL rt own nm Ts) (hin : ∀ w ∈ u_ws RX9 TX9 18, w ∈ Ts) (hlink : Cond.fieldLink own index "OneTimer" "draws" "LOneTimer$Draws;" ∈ Ts) (hd : decode cc pc = .ok (.getfield index, 3)) (kk : Z p l e R s m args below meth c A G nL Q cs ss (XW G q P S ++ X) lv (pc + 3) (.ref (q 17) :: st)) : Z p l e R s m args below meth c A G nL Q cs ss (XW G q P S ++ X) lv pc (.ref (q 0) :: st) := z_get C hin 0 rfl rfl 5 (by decide) hlink (fun _ h => h) rfl hd kk
theorem xg_T6 (C : zC p s m args meth c A G cc nL rt own nm Ts) (hin : ∀ w ∈ u_ws RX9 TX9 18, w ∈ Ts) (hlink : Cond.fieldLink own index "OneTimer" "potCount" "I" ∈ Ts) (hd : decode cc pc = .ok (.getfield index, 3)) (kk : Z p l e R s m args below meth c A G nL Q cs ss (XW G q P S ++ X) lv (pc + 3) (.int (xI S 6) :: st)) : Z p l e R s m args below meth c A G nL Q cs ss (XW G q P S ++ X) lv pc (.ref (q 0) :: st) := z_get C hin 0 rfl rfl 6 (by decide) hlink (fun _ h => h) rfl hd kk
theorem xp_T6 (C : zC p s m args meth c A G cc nL rt own nm Ts) (hin : ∀ w ∈ u_ws RX9 TX9 18, w ∈ Ts) {v : Int32} (hlink : Cond.fieldLink own index "OneTimer" "potCount" "I" ∈ Ts) (hd : decode cc pc = .ok (.putfield index, 3)) (kk : Z p l e R s m args below meth c A G nL Q cs ss (XW G q P (xsI S 6 v) ++ X) lv (pc + 3) st) : Z p l e R s m args below meth c A G nL Q cs ss (XW G q P S ++ X) lv pc (.int v :: .ref (q 0) :: st) := z_put C hin tyX9 tyX9_ok nmX9 0 rfl rfl 6 (by decide) hlink (fun _ h => h) rfl rfl rfl (by decide) rfl hd kk
theorem xg_T7 (C : zC p s m args meth c A G cc nL rt own nm Ts) (hin : ∀ w ∈ u_ws RX9 TX9 18, w ∈ Ts) (hlink : Cond.fieldLink own index "OneTimer" "spring" "I" ∈ Ts) (hd : decode cc pc = .ok (.getfield index, 3)) (kk : Z p l e R s m args below meth c A G nL Q cs ss (XW G q P S ++ X) lv (pc + 3) (.int (xI S 7) :: st)) : Z p l e R s m args below meth c A G nL Q cs ss (XW G q P S ++ X) lv pc (.ref (q 0) :: st) := z_get C hin 0 rfl rfl 7 (by decide) hlink (fun _ h => h) rfl hd kk
theorem xp_T7 (C : zC p s m args meth c A G cc nL rt own nm Ts) (hin : ∀ w ∈ u_ws RX9 TX9 18, w ∈ Ts) {v : Int32} (hlink : Cond.fieldLink own index "OneTimer" "spring" "I" ∈ Ts) (hd : decode cc pc = .ok (.putfield index, 3)) (kk : Z p l e R s m args below meth c A G nL Q cs ss (XW G q P (xsI S 7 v) ++ X) lv (pc + 3) st) : Z p l e R s m args below meth c A G nL Q cs ss (XW G q P S ++ X) lv pc (.int v :: .ref (q 0) :: st) := z_put C hin tyX9 tyX9_ok nmX9 0 rfl rfl 7 (by decide) hlink (fun _ h => h) rfl rfl rfl (by decide) rfl hd kk
theorem xg_T8 (C : zC p s m args meth c A G cc nL rt own nm Ts) (hin : ∀ w ∈ u_ws RX9 TX9 18, w ∈ Ts) (hlink : Cond.fieldLink own index "OneTimer" "hands" "I" ∈ Ts) (hd : decode cc pc = .ok (.getfield index, 3)) (kk : Z p l e R s m args below meth c A G nL Q cs ss (XW G q P S ++ X) lv (pc + 3) (.int (xI S 8) :: st)) : Z p l e R s m args below meth c A G nL Q cs ss (XW G q P S ++ X) lv pc (.ref (q 0) :: st) := z_get C hin 0 rfl rfl 8 (by decide) hlink (fun _ h => h) rfl hd kk
theorem xp_T8 (C : zC p s m args meth c A G cc nL rt own nm Ts) (hin : ∀ w ∈ u_ws RX9 TX9 18, w ∈ Ts) {v : Int32} (hlink : Cond.fieldLink own index "OneTimer" "hands" "I" ∈ Ts) (hd : decode cc pc = .ok (.putfield index, 3)) (kk : Z p l e R s m args below meth c A G nL Q cs ss (XW G q P (xsI S 8 v) ++ X) lv (pc + 3) st) : Z p l e R s m args below meth c A G nL Q cs ss (XW G q P S ++ X) lv pc (.int v :: .ref (q 0) :: st) := z_put C hin tyX9 tyX9_ok nmX9 0 rfl rfl 8 (by decide) hlink (fun _ h => h) rfl rfl rfl (by decide) rfl hd kk
theorem xg_T9 (C : zC p s m args meth c A G cc nL rt own nm Ts) (hin : ∀ w ∈ u_ws RX9 TX9 18, w ∈ Ts) (hlink : Cond.fieldLink own index "OneTimer" "minute" "I" ∈ Ts) (hd : decode cc pc = .ok (.getfield index, 3)) (kk : Z p l e R s m args below meth c A G nL Q cs ss (XW G q P S ++ X) lv (pc + 3) (.int (xI S 9) :: st)) : Z p l e R s m args below meth c A G nL Q cs ss (XW G q P S ++ X) lv pc (.ref (q 0) :: st) := z_get C hin 0 rfl rfl 9 (by decide) hlink (fun _ h => h) rfl hd kk
theorem xp_T9 (C : zC p s m args meth c A G cc nL rt own nm Ts) (hin : ∀ w ∈ u_ws RX9 TX9 18, w ∈ Ts) {v : Int32} (hlink : Cond.fieldLink own index "OneTimer" "minute" "I" ∈ Ts) (hd : decode cc pc = .ok (.putfield index, 3)) (kk : Z p l e R s m args below meth c A G nL Q cs ss (XW G q P (xsI S 9 v) ++ X) lv (pc + 3) st) : Z p l e R s m args below meth c A G nL Q cs ss (XW G q P S ++ X) lv pc (.int v :: .ref (q 0) :: st) := z_put C hin tyX9 tyX9_ok nmX9 0 rfl rfl 9 (by decide) hlink (fun _ h => h) rfl rfl rfl (by decide) rfl hd kk
theorem xg_T10 (C : zC p s m args meth c A G cc nL rt own nm Ts) (hin : ∀ w ∈ u_ws RX9 TX9 18, w ∈ Ts) (hlink : Cond.fieldLink own index "OneTimer" "free" "I" ∈ Ts) (hd : decode cc pc = .ok (.getfield index, 3)) (kk : Z p l e R s m args below meth c A G nL Q cs ss (XW G q P S ++ X) lv (pc + 3) (.int (xI S 10) :: st)) : Z p l e R s m args below meth c A G nL Q cs ss (XW G q P S ++ X) lv pc (.ref (q 0) :: st) := z_get C hin 0 rfl rfl 10 (by decide) hlink (fun _ h => h) rfl hd kk
theorem xp_T10 (C : zC p s m args meth c A G cc nL rt own nm Ts) (hin : ∀ w ∈ u_ws RX9 TX9 18, w ∈ Ts) {v : Int32} (hlink : Cond.fieldLink own index "OneTimer" "free" "I" ∈ Ts) (hd : decode cc pc = .ok (.putfield index, 3)) (kk : Z p l e R s m args below meth c A G nL Q cs ss (XW G q P (xsI S 10 v) ++ X) lv (pc + 3) st) : Z p l e R s m args below meth c A G nL Q cs ss (XW G q P S ++ X) lv pc (.int v :: .ref (q 0) :: st) := z_put C hin tyX9 tyX9_ok nmX9 0 rfl rfl 10 (by decide) hlink (fun _ h => h) rfl rfl rfl (by decide) rfl hd kk
theorem xg_T11 (C : zC p s m args meth c A G cc nL rt own nm Ts) (hin : ∀ w ∈ u_ws RX9 TX9 18, w ∈ Ts) (hlink : Cond.fieldLink own index "OneTimer" "windings" "I" ∈ Ts) (hd : decode cc pc = .ok (.getfield index, 3)) (kk : Z p l e R s m args below meth c A G nL Q cs ss (XW G q P S ++ X) lv (pc + 3) (.int (xI S 11) :: st)) : Z p l e R s m args below meth c A G nL Q cs ss (XW G q P S ++ X) lv pc (.ref (q 0) :: st) := z_get C hin 0 rfl rfl 11 (by decide) hlink (fun _ h => h) rfl hd kk
theorem xp_T11 (C : zC p s m args meth c A G cc nL rt own nm Ts) (hin : ∀ w ∈ u_ws RX9 TX9 18, w ∈ Ts) {v : Int32} (hlink : Cond.fieldLink own index "OneTimer" "windings" "I" ∈ Ts) (hd : decode cc pc = .ok (.putfield index, 3)) (kk : Z p l e R s m args below meth c A G nL Q cs ss (XW G q P (xsI S 11 v) ++ X) lv (pc + 3) st) : Z p l e R s m args below meth c A G nL Q cs ss (XW G q P S ++ X) lv pc (.int v :: .ref (q 0) :: st) := z_put C hin tyX9 tyX9_ok nmX9 0 rfl rfl 11 (by decide) hlink (fun _ h => h) rfl rfl rfl (by decide) rfl hd kk
theorem xg_T12 (C : zC p s m args meth c A G cc nL rt own nm Ts) (hin : ∀ w ∈ u_ws RX9 TX9 18, w ∈ Ts) (hlink : Cond.fieldLink own index "OneTimer" "hasImage" "Z" ∈ Ts) (hd : decode cc pc = .ok (.getfield index, 3)) (kk : Z p l e R s m args below meth c A G nL Q cs ss (XW G q P S ++ X) lv (pc + 3) (.int (xI S 12) :: st)) : Z p l e R s m args below meth c A G nL Q cs ss (XW G q P S ++ X) lv pc (.ref (q 0) :: st) := z_get C hin 0 rfl rfl 12 (by decide) hlink (fun _ h => h) rfl hd kk
theorem xp_T12 (C : zC p s m args meth c A G cc nL rt own nm Ts) (hin : ∀ w ∈ u_ws RX9 TX9 18, w ∈ Ts) {v : Int32} (hv : v = 0 ∨ v = 1) (hlink : Cond.fieldLink own index "OneTimer" "hasImage" "Z" ∈ Ts) (hd : decode cc pc = .ok (.putfield index, 3)) (kk : Z p l e R s m args below meth c A G nL Q cs ss (XW G q P (xsI S 12 v) ++ X) lv (pc + 3) st) : Z p l e R s m args below meth c A G nL Q cs ss (XW G q P S ++ X) lv pc (.int v :: .ref (q 0) :: st) := z_put C hin tyX9 tyX9_ok nmX9 0 rfl rfl 12 (by decide) hlink (fun _ h => h) rfl (by rcases hv with rfl | rfl <;> rfl) (by rcases hv with rfl | rfl <;> rfl) (by decide) rfl hd kk
theorem xg_T13 (C : zC p s m args meth c A G cc nL rt own nm Ts) (hin : ∀ w ∈ u_ws RX9 TX9 18, w ∈ Ts) (hlink : Cond.fieldLink own index "OneTimer" "keptMinute" "I" ∈ Ts) (hd : decode cc pc = .ok (.getfield index, 3)) (kk : Z p l e R s m args below meth c A G nL Q cs ss (XW G q P S ++ X) lv (pc + 3) (.int (xI S 13) :: st)) : Z p l e R s m args below meth c A G nL Q cs ss (XW G q P S ++ X) lv pc (.ref (q 0) :: st) := z_get C hin 0 rfl rfl 13 (by decide) hlink (fun _ h => h) rfl hd kk
theorem xp_T13 (C : zC p s m args meth c A G cc nL rt own nm Ts) (hin : ∀ w ∈ u_ws RX9 TX9 18, w ∈ Ts) {v : Int32} (hlink : Cond.fieldLink own index "OneTimer" "keptMinute" "I" ∈ Ts) (hd : decode cc pc = .ok (.putfield index, 3)) (kk : Z p l e R s m args below meth c A G nL Q cs ss (XW G q P (xsI S 13 v) ++ X) lv (pc + 3) st) : Z p l e R s m args below meth c A G nL Q cs ss (XW G q P S ++ X) lv pc (.int v :: .ref (q 0) :: st) := z_put C hin tyX9 tyX9_ok nmX9 0 rfl rfl 13 (by decide) hlink (fun _ h => h) rfl rfl rfl (by decide) rfl hd kk
theorem xg_T14 (C : zC p s m args meth c A G cc nL rt own nm Ts) (hin : ∀ w ∈ u_ws RX9 TX9 18, w ∈ Ts) (hlink : Cond.fieldLink own index "OneTimer" "keptFree" "I" ∈ Ts) (hd : decode cc pc = .ok (.getfield index, 3)) (kk : Z p l e R s m args below meth c A G nL Q cs ss (XW G q P S ++ X) lv (pc + 3) (.int (xI S 14) :: st)) : Z p l e R s m args below meth c A G nL Q cs ss (XW G q P S ++ X) lv pc (.ref (q 0) :: st) := z_get C hin 0 rfl rfl 14 (by decide) hlink (fun _ h => h) rfl hd kk
theorem xp_T14 (C : zC p s m args meth c A G cc nL rt own nm Ts) (hin : ∀ w ∈ u_ws RX9 TX9 18, w ∈ Ts) {v : Int32} (hlink : Cond.fieldLink own index "OneTimer" "keptFree" "I" ∈ Ts) (hd : decode cc pc = .ok (.putfield index, 3)) (kk : Z p l e R s m args below meth c A G nL Q cs ss (XW G q P (xsI S 14 v) ++ X) lv (pc + 3) st) : Z p l e R s m args below meth c A G nL Q cs ss (XW G q P S ++ X) lv pc (.int v :: .ref (q 0) :: st) := z_put C hin tyX9 tyX9_ok nmX9 0 rfl rfl 14 (by decide) hlink (fun _ h => h) rfl rfl rfl (by decide) rfl hd kk
theorem xg_T15 (C : zC p s m args meth c A G cc nL rt own nm Ts) (hin : ∀ w ∈ u_ws RX9 TX9 18, w ∈ Ts) (hlink : Cond.fieldLink own index "OneTimer" "keptWindings" "I" ∈ Ts) (hd : decode cc pc = .ok (.getfield index, 3)) (kk : Z p l e R s m args below meth c A G nL Q cs ss (XW G q P S ++ X) lv (pc + 3) (.int (xI S 15) :: st)) : Z p l e R s m args below meth c A G nL Q cs ss (XW G q P S ++ X) lv pc (.ref (q 0) :: st) := z_get C hin 0 rfl rfl 15 (by decide) hlink (fun _ h => h) rfl hd kk
theorem xp_T15 (C : zC p s m args meth c A G cc nL rt own nm Ts) (hin : ∀ w ∈ u_ws RX9 TX9 18, w ∈ Ts) {v : Int32} (hlink : Cond.fieldLink own index "OneTimer" "keptWindings" "I" ∈ Ts) (hd : decode cc pc = .ok (.putfield index, 3)) (kk : Z p l e R s m args below meth c A G nL Q cs ss (XW G q P (xsI S 15 v) ++ X) lv (pc + 3) st) : Z p l e R s m args below meth c A G nL Q cs ss (XW G q P S ++ X) lv pc (.int v :: .ref (q 0) :: st) := z_put C hin tyX9 tyX9_ok nmX9 0 rfl rfl 15 (by decide) hlink (fun _ h => h) rfl rfl rfl (by decide) rfl hd kk
theorem xg_T16 (C : zC p s m args meth c A G cc nL rt own nm Ts) (hin : ∀ w ∈ u_ws RX9 TX9 18, w ∈ Ts) (hlink : Cond.fieldLink own index "OneTimer" "kitchensRead" "I" ∈ Ts) (hd : decode cc pc = .ok (.getfield index, 3)) (kk : Z p l e R s m args below meth c A G nL Q cs ss (XW G q P S ++ X) lv (pc + 3) (.int (xI S 16) :: st)) : Z p l e R s m args below meth c A G nL Q cs ss (XW G q P S ++ X) lv pc (.ref (q 0) :: st) := z_get C hin 0 rfl rfl 16 (by decide) hlink (fun _ h => h) rfl hd kk
theorem xp_T16 (C : zC p s m args meth c A G cc nL rt own nm Ts) (hin : ∀ w ∈ u_ws RX9 TX9 18, w ∈ Ts) {v : Int32} (hlink : Cond.fieldLink own index "OneTimer" "kitchensRead" "I" ∈ Ts) (hd : decode cc pc = .ok (.putfield index, 3)) (kk : Z p l e R s m args below meth c A G nL Q cs ss (XW G q P (xsI S 16 v) ++ X) lv (pc + 3) st) : Z p l e R s m args below meth c A G nL Q cs ss (XW G q P S ++ X) lv pc (.int v :: .ref (q 0) :: st) := z_put C hin tyX9 tyX9_ok nmX9 0 rfl rfl 16 (by decide) hlink (fun _ h => h) rfl rfl rfl (by decide) rfl hd kk
theorem xg_T17 (C : zC p s m args meth c A G cc nL rt own nm Ts) (hin : ∀ w ∈ u_ws RX9 TX9 18, w ∈ Ts) (hlink : Cond.fieldLink own index "OneTimer" "plansDone" "I" ∈ Ts) (hd : decode cc pc = .ok (.getfield index, 3)) (kk : Z p l e R s m args below meth c A G nL Q cs ss (XW G q P S ++ X) lv (pc + 3) (.int (xI S 17) :: st)) : Z p l e R s m args below meth c A G nL Q cs ss (XW G q P S ++ X) lv pc (.ref (q 0) :: st) := z_get C hin 0 rfl rfl 17 (by decide) hlink (fun _ h => h) rfl hd kk
theorem xp_T17 (C : zC p s m args meth c A G cc nL rt own nm Ts) (hin : ∀ w ∈ u_ws RX9 TX9 18, w ∈ Ts) {v : Int32} (hlink : Cond.fieldLink own index "OneTimer" "plansDone" "I" ∈ Ts) (hd : decode cc pc = .ok (.putfield index, 3)) (kk : Z p l e R s m args below meth c A G nL Q cs ss (XW G q P (xsI S 17 v) ++ X) lv (pc + 3) st) : Z p l e R s m args below meth c A G nL Q cs ss (XW G q P S ++ X) lv pc (.int v :: .ref (q 0) :: st) := z_put C hin tyX9 tyX9_ok nmX9 0 rfl rfl 17 (by decide) hlink (fun _ h => h) rfl rfl rfl (by decide) rfl hd kk
theorem xg_P0 (C : zC p s m args meth c A G cc nL rt own nm Ts) (hin : ∀ w ∈ u_ws RX3 TX3 2, w ∈ Ts) (hlink : Cond.fieldLink own index "OneTimer$Page" "letters" "[I" ∈ Ts) (hd : decode cc pc = .ok (.getfield index, 3)) (kk : Z p l e R s m args below meth c A G nL Q cs ss (XW G q P S ++ X) lv (pc + 3) (.ref (q 2) :: st)) : Z p l e R s m args below meth c A G nL Q cs ss (XW G q P S ++ X) lv pc (.ref (q 1) :: st) := z_get C hin 1 rfl rfl 0 (by decide) hlink (fun _ h => h) rfl hd kk
theorem xg_P1 (C : zC p s m args meth c A G cc nL rt own nm Ts) (hin : ∀ w ∈ u_ws RX3 TX3 2, w ∈ Ts) (hlink : Cond.fieldLink own index "OneTimer$Page" "size" "I" ∈ Ts) (hd : decode cc pc = .ok (.getfield index, 3)) (kk : Z p l e R s m args below meth c A G nL Q cs ss (XW G q P S ++ X) lv (pc + 3) (.int (xI S 20) :: st)) : Z p l e R s m args below meth c A G nL Q cs ss (XW G q P S ++ X) lv pc (.ref (q 1) :: st) := z_get C hin 1 rfl rfl 1 (by decide) hlink (fun _ h => h) rfl hd kk
theorem xp_P1 (C : zC p s m args meth c A G cc nL rt own nm Ts) (hin : ∀ w ∈ u_ws RX3 TX3 2, w ∈ Ts) {v : Int32} (hlink : Cond.fieldLink own index "OneTimer$Page" "size" "I" ∈ Ts) (hd : decode cc pc = .ok (.putfield index, 3)) (kk : Z p l e R s m args below meth c A G nL Q cs ss (XW G q P (xsI S 20 v) ++ X) lv (pc + 3) st) : Z p l e R s m args below meth c A G nL Q cs ss (XW G q P S ++ X) lv pc (.int v :: .ref (q 1) :: st) := z_put C hin tyX3 tyX3_ok nmX3 1 rfl rfl 1 (by decide) hlink (fun _ h => h) rfl rfl rfl (by decide) rfl hd kk
theorem xg_D0 (C : zC p s m args meth c A G cc nL rt own nm Ts) (hin : ∀ w ∈ u_ws RX8 TX8 4, w ∈ Ts) (hlink : Cond.fieldLink own index "OneTimer$Told" "untilDue" "[I" ∈ Ts) (hd : decode cc pc = .ok (.getfield index, 3)) (kk : Z p l e R s m args below meth c A G nL Q cs ss (XW G q P S ++ X) lv (pc + 3) (.ref (q 5) :: st)) : Z p l e R s m args below meth c A G nL Q cs ss (XW G q P S ++ X) lv pc (.ref (q 4) :: st) := z_get C hin 4 rfl rfl 0 (by decide) hlink (fun _ h => h) rfl hd kk
theorem xg_D1 (C : zC p s m args meth c A G cc nL rt own nm Ts) (hin : ∀ w ∈ u_ws RX8 TX8 4, w ∈ Ts) (hlink : Cond.fieldLink own index "OneTimer$Told" "keeps" "[I" ∈ Ts) (hd : decode cc pc = .ok (.getfield index, 3)) (kk : Z p l e R s m args below meth c A G nL Q cs ss (XW G q P S ++ X) lv (pc + 3) (.ref (q 6) :: st)) : Z p l e R s m args below meth c A G nL Q cs ss (XW G q P S ++ X) lv pc (.ref (q 4) :: st) := z_get C hin 4 rfl rfl 1 (by decide) hlink (fun _ h => h) rfl hd kk
theorem xg_D2 (C : zC p s m args meth c A G cc nL rt own nm Ts) (hin : ∀ w ∈ u_ws RX8 TX8 4, w ∈ Ts) (hlink : Cond.fieldLink own index "OneTimer$Told" "outs" "[I" ∈ Ts) (hd : decode cc pc = .ok (.getfield index, 3)) (kk : Z p l e R s m args below meth c A G nL Q cs ss (XW G q P S ++ X) lv (pc + 3) (.ref (q 7) :: st)) : Z p l e R s m args below meth c A G nL Q cs ss (XW G q P S ++ X) lv pc (.ref (q 4) :: st) := z_get C hin 4 rfl rfl 2 (by decide) hlink (fun _ h => h) rfl hd kk
theorem xg_D3 (C : zC p s m args meth c A G cc nL rt own nm Ts) (hin : ∀ w ∈ u_ws RX8 TX8 4, w ∈ Ts) (hlink : Cond.fieldLink own index "OneTimer$Told" "size" "I" ∈ Ts) (hd : decode cc pc = .ok (.getfield index, 3)) (kk : Z p l e R s m args below meth c A G nL Q cs ss (XW G q P S ++ X) lv (pc + 3) (.int (xI S 21) :: st)) : Z p l e R s m args below meth c A G nL Q cs ss (XW G q P S ++ X) lv pc (.ref (q 4) :: st) := z_get C hin 4 rfl rfl 3 (by decide) hlink (fun _ h => h) rfl hd kk
theorem xp_D3 (C : zC p s m args meth c A G cc nL rt own nm Ts) (hin : ∀ w ∈ u_ws RX8 TX8 4, w ∈ Ts) {v : Int32} (hlink : Cond.fieldLink own index "OneTimer$Told" "size" "I" ∈ Ts) (hd : decode cc pc = .ok (.putfield index, 3)) (kk : Z p l e R s m args below meth c A G nL Q cs ss (XW G q P (xsI S 21 v) ++ X) lv (pc + 3) st) : Z p l e R s m args below meth c A G nL Q cs ss (XW G q P S ++ X) lv pc (.int v :: .ref (q 4) :: st) := z_put C hin tyX8 tyX8_ok nmX8 4 rfl rfl 3 (by decide) hlink (fun _ h => h) rfl rfl rfl (by decide) rfl hd kk
theorem xg_K0 (C : zC p s m args meth c A G cc nL rt own nm Ts) (hin : ∀ w ∈ u_ws RX8 TX8 4, w ∈ Ts) (hlink : Cond.fieldLink own index "OneTimer$Told" "untilDue" "[I" ∈ Ts) (hd : decode cc pc = .ok (.getfield index, 3)) (kk : Z p l e R s m args below meth c A G nL Q cs ss (XW G q P S ++ X) lv (pc + 3) (.ref (q 9) :: st)) : Z p l e R s m args below meth c A G nL Q cs ss (XW G q P S ++ X) lv pc (.ref (q 8) :: st) := z_get C hin 8 rfl rfl 0 (by decide) hlink (fun _ h => h) rfl hd kk
theorem xg_K1 (C : zC p s m args meth c A G cc nL rt own nm Ts) (hin : ∀ w ∈ u_ws RX8 TX8 4, w ∈ Ts) (hlink : Cond.fieldLink own index "OneTimer$Told" "keeps" "[I" ∈ Ts) (hd : decode cc pc = .ok (.getfield index, 3)) (kk : Z p l e R s m args below meth c A G nL Q cs ss (XW G q P S ++ X) lv (pc + 3) (.ref (q 10) :: st)) : Z p l e R s m args below meth c A G nL Q cs ss (XW G q P S ++ X) lv pc (.ref (q 8) :: st) := z_get C hin 8 rfl rfl 1 (by decide) hlink (fun _ h => h) rfl hd kk
theorem xg_K2 (C : zC p s m args meth c A G cc nL rt own nm Ts) (hin : ∀ w ∈ u_ws RX8 TX8 4, w ∈ Ts) (hlink : Cond.fieldLink own index "OneTimer$Told" "outs" "[I" ∈ Ts) (hd : decode cc pc = .ok (.getfield index, 3)) (kk : Z p l e R s m args below meth c A G nL Q cs ss (XW G q P S ++ X) lv (pc + 3) (.ref (q 11) :: st)) : Z p l e R s m args below meth c A G nL Q cs ss (XW G q P S ++ X) lv pc (.ref (q 8) :: st) := z_get C hin 8 rfl rfl 2 (by decide) hlink (fun _ h => h) rfl hd kk
theorem xg_K3 (C : zC p s m args meth c A G cc nL rt own nm Ts) (hin : ∀ w ∈ u_ws RX8 TX8 4, w ∈ Ts) (hlink : Cond.fieldLink own index "OneTimer$Told" "size" "I" ∈ Ts) (hd : decode cc pc = .ok (.getfield index, 3)) (kk : Z p l e R s m args below meth c A G nL Q cs ss (XW G q P S ++ X) lv (pc + 3) (.int (xI S 22) :: st)) : Z p l e R s m args below meth c A G nL Q cs ss (XW G q P S ++ X) lv pc (.ref (q 8) :: st) := z_get C hin 8 rfl rfl 3 (by decide) hlink (fun _ h => h) rfl hd kk
theorem xp_K3 (C : zC p s m args meth c A G cc nL rt own nm Ts) (hin : ∀ w ∈ u_ws RX8 TX8 4, w ∈ Ts) {v : Int32} (hlink : Cond.fieldLink own index "OneTimer$Told" "size" "I" ∈ Ts) (hd : decode cc pc = .ok (.putfield index, 3)) (kk : Z p l e R s m args below meth c A G nL Q cs ss (XW G q P (xsI S 22 v) ++ X) lv (pc + 3) st) : Z p l e R s m args below meth c A G nL Q cs ss (XW G q P S ++ X) lv pc (.int v :: .ref (q 8) :: st) := z_put C hin tyX8 tyX8_ok nmX8 8 rfl rfl 3 (by decide) hlink (fun _ h => h) rfl rfl rfl (by decide) rfl hd kk
theorem xg_N0 (C : zC p s m args meth c A G cc nL rt own nm Ts) (hin : ∀ w ∈ u_ws RX4 TX4 9, w ∈ Ts) (hlink : Cond.fieldLink own index "OneTimer$Planner" "fewest" "[I" ∈ Ts) (hd : decode cc pc = .ok (.getfield index, 3)) (kk : Z p l e R s m args below meth c A G nL Q cs ss (XW G q P S ++ X) lv (pc + 3) (.ref (q 13) :: st)) : Z p l e R s m args below meth c A G nL Q cs ss (XW G q P S ++ X) lv pc (.ref (q 12) :: st) := z_get C hin 12 rfl rfl 0 (by decide) hlink (fun _ h => h) rfl hd kk
theorem xg_N1 (C : zC p s m args meth c A G cc nL rt own nm Ts) (hin : ∀ w ∈ u_ws RX4 TX4 9, w ∈ Ts) (hlink : Cond.fieldLink own index "OneTimer$Planner" "afterTaking" "[I" ∈ Ts) (hd : decode cc pc = .ok (.getfield index, 3)) (kk : Z p l e R s m args below meth c A G nL Q cs ss (XW G q P S ++ X) lv (pc + 3) (.ref (q 14) :: st)) : Z p l e R s m args below meth c A G nL Q cs ss (XW G q P S ++ X) lv pc (.ref (q 12) :: st) := z_get C hin 12 rfl rfl 1 (by decide) hlink (fun _ h => h) rfl hd kk
theorem xg_N2 (C : zC p s m args meth c A G cc nL rt own nm Ts) (hin : ∀ w ∈ u_ws RX4 TX4 9, w ∈ Ts) (hlink : Cond.fieldLink own index "OneTimer$Planner" "opens" "[I" ∈ Ts) (hd : decode cc pc = .ok (.getfield index, 3)) (kk : Z p l e R s m args below meth c A G nL Q cs ss (XW G q P S ++ X) lv (pc + 3) (.ref (q 15) :: st)) : Z p l e R s m args below meth c A G nL Q cs ss (XW G q P S ++ X) lv pc (.ref (q 12) :: st) := z_get C hin 12 rfl rfl 2 (by decide) hlink (fun _ h => h) rfl hd kk
theorem xg_N3 (C : zC p s m args meth c A G cc nL rt own nm Ts) (hin : ∀ w ∈ u_ws RX4 TX4 9, w ∈ Ts) (hlink : Cond.fieldLink own index "OneTimer$Planner" "closes" "[I" ∈ Ts) (hd : decode cc pc = .ok (.getfield index, 3)) (kk : Z p l e R s m args below meth c A G nL Q cs ss (XW G q P S ++ X) lv (pc + 3) (.ref (q 16) :: st)) : Z p l e R s m args below meth c A G nL Q cs ss (XW G q P S ++ X) lv pc (.ref (q 12) :: st) := z_get C hin 12 rfl rfl 3 (by decide) hlink (fun _ h => h) rfl hd kk
theorem xg_N4 (C : zC p s m args meth c A G cc nL rt own nm Ts) (hin : ∀ w ∈ u_ws RX4 TX4 9, w ∈ Ts) (hlink : Cond.fieldLink own index "OneTimer$Planner" "size" "I" ∈ Ts) (hd : decode cc pc = .ok (.getfield index, 3)) (kk : Z p l e R s m args below meth c A G nL Q cs ss (XW G q P S ++ X) lv (pc + 3) (.int (xI S 24) :: st)) : Z p l e R s m args below meth c A G nL Q cs ss (XW G q P S ++ X) lv pc (.ref (q 12) :: st) := z_get C hin 12 rfl rfl 4 (by decide) hlink (fun _ h => h) rfl hd kk
theorem xp_N4 (C : zC p s m args meth c A G cc nL rt own nm Ts) (hin : ∀ w ∈ u_ws RX4 TX4 9, w ∈ Ts) {v : Int32} (hlink : Cond.fieldLink own index "OneTimer$Planner" "size" "I" ∈ Ts) (hd : decode cc pc = .ok (.putfield index, 3)) (kk : Z p l e R s m args below meth c A G nL Q cs ss (XW G q P (xsI S 24 v) ++ X) lv (pc + 3) st) : Z p l e R s m args below meth c A G nL Q cs ss (XW G q P S ++ X) lv pc (.int v :: .ref (q 12) :: st) := z_put C hin tyX4 tyX4_ok nmX4 12 rfl rfl 4 (by decide) hlink (fun _ h => h) rfl rfl rfl (by decide) rfl hd kk
theorem xg_N5 (C : zC p s m args meth c A G cc nL rt own nm Ts) (hin : ∀ w ∈ u_ws RX4 TX4 9, w ∈ Ts) (hlink : Cond.fieldLink own index "OneTimer$Planner" "spring" "I" ∈ Ts) (hd : decode cc pc = .ok (.getfield index, 3)) (kk : Z p l e R s m args below meth c A G nL Q cs ss (XW G q P S ++ X) lv (pc + 3) (.int (xI S 25) :: st)) : Z p l e R s m args below meth c A G nL Q cs ss (XW G q P S ++ X) lv pc (.ref (q 12) :: st) := z_get C hin 12 rfl rfl 5 (by decide) hlink (fun _ h => h) rfl hd kk
theorem xp_N5 (C : zC p s m args meth c A G cc nL rt own nm Ts) (hin : ∀ w ∈ u_ws RX4 TX4 9, w ∈ Ts) {v : Int32} (hlink : Cond.fieldLink own index "OneTimer$Planner" "spring" "I" ∈ Ts) (hd : decode cc pc = .ok (.putfield index, 3)) (kk : Z p l e R s m args below meth c A G nL Q cs ss (XW G q P (xsI S 25 v) ++ X) lv (pc + 3) st) : Z p l e R s m args below meth c A G nL Q cs ss (XW G q P S ++ X) lv pc (.int v :: .ref (q 12) :: st) := z_put C hin tyX4 tyX4_ok nmX4 12 rfl rfl 5 (by decide) hlink (fun _ h => h) rfl rfl rfl (by decide) rfl hd kk
theorem xg_N6 (C : zC p s m args meth c A G cc nL rt own nm Ts) (hin : ∀ w ∈ u_ws RX4 TX4 9, w ∈ Ts) (hlink : Cond.fieldLink own index "OneTimer$Planner" "hands" "I" ∈ Ts) (hd : decode cc pc = .ok (.getfield index, 3)) (kk : Z p l e R s m args below meth c A G nL Q cs ss (XW G q P S ++ X) lv (pc + 3) (.int (xI S 26) :: st)) : Z p l e R s m args below meth c A G nL Q cs ss (XW G q P S ++ X) lv pc (.ref (q 12) :: st) := z_get C hin 12 rfl rfl 6 (by decide) hlink (fun _ h => h) rfl hd kk
theorem xp_N6 (C : zC p s m args meth c A G cc nL rt own nm Ts) (hin : ∀ w ∈ u_ws RX4 TX4 9, w ∈ Ts) {v : Int32} (hlink : Cond.fieldLink own index "OneTimer$Planner" "hands" "I" ∈ Ts) (hd : decode cc pc = .ok (.putfield index, 3)) (kk : Z p l e R s m args below meth c A G nL Q cs ss (XW G q P (xsI S 26 v) ++ X) lv (pc + 3) st) : Z p l e R s m args below meth c A G nL Q cs ss (XW G q P S ++ X) lv pc (.int v :: .ref (q 12) :: st) := z_put C hin tyX4 tyX4_ok nmX4 12 rfl rfl 6 (by decide) hlink (fun _ h => h) rfl rfl rfl (by decide) rfl hd kk
theorem xg_N7 (C : zC p s m args meth c A G cc nL rt own nm Ts) (hin : ∀ w ∈ u_ws RX4 TX4 9, w ∈ Ts) (hlink : Cond.fieldLink own index "OneTimer$Planner" "freeNow" "I" ∈ Ts) (hd : decode cc pc = .ok (.getfield index, 3)) (kk : Z p l e R s m args below meth c A G nL Q cs ss (XW G q P S ++ X) lv (pc + 3) (.int (xI S 27) :: st)) : Z p l e R s m args below meth c A G nL Q cs ss (XW G q P S ++ X) lv pc (.ref (q 12) :: st) := z_get C hin 12 rfl rfl 7 (by decide) hlink (fun _ h => h) rfl hd kk
theorem xp_N7 (C : zC p s m args meth c A G cc nL rt own nm Ts) (hin : ∀ w ∈ u_ws RX4 TX4 9, w ∈ Ts) {v : Int32} (hlink : Cond.fieldLink own index "OneTimer$Planner" "freeNow" "I" ∈ Ts) (hd : decode cc pc = .ok (.putfield index, 3)) (kk : Z p l e R s m args below meth c A G nL Q cs ss (XW G q P (xsI S 27 v) ++ X) lv (pc + 3) st) : Z p l e R s m args below meth c A G nL Q cs ss (XW G q P S ++ X) lv pc (.int v :: .ref (q 12) :: st) := z_put C hin tyX4 tyX4_ok nmX4 12 rfl rfl 7 (by decide) hlink (fun _ h => h) rfl rfl rfl (by decide) rfl hd kk
theorem xg_N8 (C : zC p s m args meth c A G cc nL rt own nm Ts) (hin : ∀ w ∈ u_ws RX4 TX4 9, w ∈ Ts) (hlink : Cond.fieldLink own index "OneTimer$Planner" "last" "I" ∈ Ts) (hd : decode cc pc = .ok (.getfield index, 3)) (kk : Z p l e R s m args below meth c A G nL Q cs ss (XW G q P S ++ X) lv (pc + 3) (.int (xI S 28) :: st)) : Z p l e R s m args below meth c A G nL Q cs ss (XW G q P S ++ X) lv pc (.ref (q 12) :: st) := z_get C hin 12 rfl rfl 8 (by decide) hlink (fun _ h => h) rfl hd kk
theorem xp_N8 (C : zC p s m args meth c A G cc nL rt own nm Ts) (hin : ∀ w ∈ u_ws RX4 TX4 9, w ∈ Ts) {v : Int32} (hlink : Cond.fieldLink own index "OneTimer$Planner" "last" "I" ∈ Ts) (hd : decode cc pc = .ok (.putfield index, 3)) (kk : Z p l e R s m args below meth c A G nL Q cs ss (XW G q P (xsI S 28 v) ++ X) lv (pc + 3) st) : Z p l e R s m args below meth c A G nL Q cs ss (XW G q P S ++ X) lv pc (.int v :: .ref (q 12) :: st) := z_put C hin tyX4 tyX4_ok nmX4 12 rfl rfl 8 (by decide) hlink (fun _ h => h) rfl rfl rfl (by decide) rfl hd kk
theorem xg_R0 (C : zC p s m args meth c A G cc nL rt own nm Ts) (hin : ∀ w ∈ u_ws RX1 TX1 1, w ∈ Ts) (hlink : Cond.fieldLink own index "OneTimer$Draws" "seed" "I" ∈ Ts) (hd : decode cc pc = .ok (.getfield index, 3)) (kk : Z p l e R s m args below meth c A G nL Q cs ss (XW G q P S ++ X) lv (pc + 3) (.int (xI S 30) :: st)) : Z p l e R s m args below meth c A G nL Q cs ss (XW G q P S ++ X) lv pc (.ref (q 17) :: st) := z_get C hin 17 rfl rfl 0 (by decide) hlink (fun _ h => h) rfl hd kk
theorem xp_R0 (C : zC p s m args meth c A G cc nL rt own nm Ts) (hin : ∀ w ∈ u_ws RX1 TX1 1, w ∈ Ts) {v : Int32} (hlink : Cond.fieldLink own index "OneTimer$Draws" "seed" "I" ∈ Ts) (hd : decode cc pc = .ok (.putfield index, 3)) (kk : Z p l e R s m args below meth c A G nL Q cs ss (XW G q P (xsI S 30 v) ++ X) lv (pc + 3) st) : Z p l e R s m args below meth c A G nL Q cs ss (XW G q P S ++ X) lv pc (.int v :: .ref (q 17) :: st) := z_put C hin tyX1 tyX1_ok nmX1 17 rfl rfl 0 (by decide) hlink (fun _ h => h) rfl rfl rfl (by decide) rfl hd kk
theorem xl_2 (C : zC p s m args meth c A G cc nL rt own nm Ts) {i : Int32} (hin : vp_in i 21) (hd : decode cc pc = .ok (.iaload, 1)) (kk : Z p l e R s m args below meth c A G nL Q cs ss (XW G q P S ++ X) lv (pc + 1) (.int (xA S 2 i.toNatClampNeg) :: st)) : Z p l e R s m args below meth c A G nL Q cs ss (XW G q P S ++ X) lv pc (.int i :: .ref (q 2) :: st) := z_iald C 2 rfl hin hd kk
theorem xt_2 (C : zC p s m args meth c A G cc nL rt own nm Ts) {i v : Int32} (hin : vp_in i 21) (hd : decode cc pc = .ok (.iastore, 1)) (kk : Z p l e R s m args below meth c A G nL Q cs ss (XW G q P (xsA S 2 i.toNatClampNeg v) ++ X) lv (pc + 1) st) : Z p l e R s m args below meth c A G nL Q cs ss (XW G q P S ++ X) lv pc (.int v :: .int i :: .ref (q 2) :: st) := z_iast C 2 rfl hin rfl hd kk
theorem xn_2 (C : zC p s m args meth c A G cc nL rt own nm Ts) (hd : decode cc pc = .ok (.arraylength, 1)) (kk : Z p l e R s m args below meth c A G nL Q cs ss (XW G q P S ++ X) lv (pc + 1) (.int 21 :: st)) : Z p l e R s m args below meth c A G nL Q cs ss (XW G q P S ++ X) lv pc (.ref (q 2) :: st) := z_alen C 2 0 rfl rfl rfl hd kk
theorem xl_5 (C : zC p s m args meth c A G cc nL rt own nm Ts) {i : Int32} (hin : vp_in i 6) (hd : decode cc pc = .ok (.iaload, 1)) (kk : Z p l e R s m args below meth c A G nL Q cs ss (XW G q P S ++ X) lv (pc + 1) (.int (xA S 5 i.toNatClampNeg) :: st)) : Z p l e R s m args below meth c A G nL Q cs ss (XW G q P S ++ X) lv pc (.int i :: .ref (q 5) :: st) := z_iald C 5 rfl hin hd kk
theorem xt_5 (C : zC p s m args meth c A G cc nL rt own nm Ts) {i v : Int32} (hin : vp_in i 6) (hd : decode cc pc = .ok (.iastore, 1)) (kk : Z p l e R s m args below meth c A G nL Q cs ss (XW G q P (xsA S 5 i.toNatClampNeg v) ++ X) lv (pc + 1) st) : Z p l e R s m args below meth c A G nL Q cs ss (XW G q P S ++ X) lv pc (.int v :: .int i :: .ref (q 5) :: st) := z_iast C 5 rfl hin rfl hd kk
theorem xn_5 (C : zC p s m args meth c A G cc nL rt own nm Ts) (hd : decode cc pc = .ok (.arraylength, 1)) (kk : Z p l e R s m args below meth c A G nL Q cs ss (XW G q P S ++ X) lv (pc + 1) (.int 6 :: st)) : Z p l e R s m args below meth c A G nL Q cs ss (XW G q P S ++ X) lv pc (.ref (q 5) :: st) := z_alen C 5 0 rfl rfl rfl hd kk
theorem xl_6 (C : zC p s m args meth c A G cc nL rt own nm Ts) {i : Int32} (hin : vp_in i 6) (hd : decode cc pc = .ok (.iaload, 1)) (kk : Z p l e R s m args below meth c A G nL Q cs ss (XW G q P S ++ X) lv (pc + 1) (.int (xA S 6 i.toNatClampNeg) :: st)) : Z p l e R s m args below meth c A G nL Q cs ss (XW G q P S ++ X) lv pc (.int i :: .ref (q 6) :: st) := z_iald C 6 rfl hin hd kk
theorem xt_6 (C : zC p s m args meth c A G cc nL rt own nm Ts) {i v : Int32} (hin : vp_in i 6) (hd : decode cc pc = .ok (.iastore, 1)) (kk : Z p l e R s m args below meth c A G nL Q cs ss (XW G q P (xsA S 6 i.toNatClampNeg v) ++ X) lv (pc + 1) st) : Z p l e R s m args below meth c A G nL Q cs ss (XW G q P S ++ X) lv pc (.int v :: .int i :: .ref (q 6) :: st) := z_iast C 6 rfl hin rfl hd kk
theorem xn_6 (C : zC p s m args meth c A G cc nL rt own nm Ts) (hd : decode cc pc = .ok (.arraylength, 1)) (kk : Z p l e R s m args below meth c A G nL Q cs ss (XW G q P S ++ X) lv (pc + 1) (.int 6 :: st)) : Z p l e R s m args below meth c A G nL Q cs ss (XW G q P S ++ X) lv pc (.ref (q 6) :: st) := z_alen C 6 0 rfl rfl rfl hd kk
theorem xl_7 (C : zC p s m args meth c A G cc nL rt own nm Ts) {i : Int32} (hin : vp_in i 6) (hd : decode cc pc = .ok (.iaload, 1)) (kk : Z p l e R s m args below meth c A G nL Q cs ss (XW G q P S ++ X) lv (pc + 1) (.int (xA S 7 i.toNatClampNeg) :: st)) : Z p l e R s m args below meth c A G nL Q cs ss (XW G q P S ++ X) lv pc (.int i :: .ref (q 7) :: st) := z_iald C 7 rfl hin hd kk
theorem xt_7 (C : zC p s m args meth c A G cc nL rt own nm Ts) {i v : Int32} (hin : vp_in i 6) (hd : decode cc pc = .ok (.iastore, 1)) (kk : Z p l e R s m args below meth c A G nL Q cs ss (XW G q P (xsA S 7 i.toNatClampNeg v) ++ X) lv (pc + 1) st) : Z p l e R s m args below meth c A G nL Q cs ss (XW G q P S ++ X) lv pc (.int v :: .int i :: .ref (q 7) :: st) := z_iast C 7 rfl hin rfl hd kk
theorem xn_7 (C : zC p s m args meth c A G cc nL rt own nm Ts) (hd : decode cc pc = .ok (.arraylength, 1)) (kk : Z p l e R s m args below meth c A G nL Q cs ss (XW G q P S ++ X) lv (pc + 1) (.int 6 :: st)) : Z p l e R s m args below meth c A G nL Q cs ss (XW G q P S ++ X) lv pc (.ref (q 7) :: st) := z_alen C 7 0 rfl rfl rfl hd kk
theorem xl_9 (C : zC p s m args meth c A G cc nL rt own nm Ts) {i : Int32} (hin : vp_in i 6) (hd : decode cc pc = .ok (.iaload, 1)) (kk : Z p l e R s m args below meth c A G nL Q cs ss (XW G q P S ++ X) lv (pc + 1) (.int (xA S 9 i.toNatClampNeg) :: st)) : Z p l e R s m args below meth c A G nL Q cs ss (XW G q P S ++ X) lv pc (.int i :: .ref (q 9) :: st) := z_iald C 9 rfl hin hd kk
theorem xt_9 (C : zC p s m args meth c A G cc nL rt own nm Ts) {i v : Int32} (hin : vp_in i 6) (hd : decode cc pc = .ok (.iastore, 1)) (kk : Z p l e R s m args below meth c A G nL Q cs ss (XW G q P (xsA S 9 i.toNatClampNeg v) ++ X) lv (pc + 1) st) : Z p l e R s m args below meth c A G nL Q cs ss (XW G q P S ++ X) lv pc (.int v :: .int i :: .ref (q 9) :: st) := z_iast C 9 rfl hin rfl hd kk
theorem xn_9 (C : zC p s m args meth c A G cc nL rt own nm Ts) (hd : decode cc pc = .ok (.arraylength, 1)) (kk : Z p l e R s m args below meth c A G nL Q cs ss (XW G q P S ++ X) lv (pc + 1) (.int 6 :: st)) : Z p l e R s m args below meth c A G nL Q cs ss (XW G q P S ++ X) lv pc (.ref (q 9) :: st) := z_alen C 9 0 rfl rfl rfl hd kk
theorem xl_10 (C : zC p s m args meth c A G cc nL rt own nm Ts) {i : Int32} (hin : vp_in i 6) (hd : decode cc pc = .ok (.iaload, 1)) (kk : Z p l e R s m args below meth c A G nL Q cs ss (XW G q P S ++ X) lv (pc + 1) (.int (xA S 10 i.toNatClampNeg) :: st)) : Z p l e R s m args below meth c A G nL Q cs ss (XW G q P S ++ X) lv pc (.int i :: .ref (q 10) :: st) := z_iald C 10 rfl hin hd kk
theorem xt_10 (C : zC p s m args meth c A G cc nL rt own nm Ts) {i v : Int32} (hin : vp_in i 6) (hd : decode cc pc = .ok (.iastore, 1)) (kk : Z p l e R s m args below meth c A G nL Q cs ss (XW G q P (xsA S 10 i.toNatClampNeg v) ++ X) lv (pc + 1) st) : Z p l e R s m args below meth c A G nL Q cs ss (XW G q P S ++ X) lv pc (.int v :: .int i :: .ref (q 10) :: st) := z_iast C 10 rfl hin rfl hd kk
theorem xn_10 (C : zC p s m args meth c A G cc nL rt own nm Ts) (hd : decode cc pc = .ok (.arraylength, 1)) (kk : Z p l e R s m args below meth c A G nL Q cs ss (XW G q P S ++ X) lv (pc + 1) (.int 6 :: st)) : Z p l e R s m args below meth c A G nL Q cs ss (XW G q P S ++ X) lv pc (.ref (q 10) :: st) := z_alen C 10 0 rfl rfl rfl hd kk
theorem xl_11 (C : zC p s m args meth c A G cc nL rt own nm Ts) {i : Int32} (hin : vp_in i 6) (hd : decode cc pc = .ok (.iaload, 1)) (kk : Z p l e R s m args below meth c A G nL Q cs ss (XW G q P S ++ X) lv (pc + 1) (.int (xA S 11 i.toNatClampNeg) :: st)) : Z p l e R s m args below meth c A G nL Q cs ss (XW G q P S ++ X) lv pc (.int i :: .ref (q 11) :: st) := z_iald C 11 rfl hin hd kk
theorem xt_11 (C : zC p s m args meth c A G cc nL rt own nm Ts) {i v : Int32} (hin : vp_in i 6) (hd : decode cc pc = .ok (.iastore, 1)) (kk : Z p l e R s m args below meth c A G nL Q cs ss (XW G q P (xsA S 11 i.toNatClampNeg v) ++ X) lv (pc + 1) st) : Z p l e R s m args below meth c A G nL Q cs ss (XW G q P S ++ X) lv pc (.int v :: .int i :: .ref (q 11) :: st) := z_iast C 11 rfl hin rfl hd kk
theorem xn_11 (C : zC p s m args meth c A G cc nL rt own nm Ts) (hd : decode cc pc = .ok (.arraylength, 1)) (kk : Z p l e R s m args below meth c A G nL Q cs ss (XW G q P S ++ X) lv (pc + 1) (.int 6 :: st)) : Z p l e R s m args below meth c A G nL Q cs ss (XW G q P S ++ X) lv pc (.ref (q 11) :: st) := z_alen C 11 0 rfl rfl rfl hd kk
theorem xl_13 (C : zC p s m args meth c A G cc nL rt own nm Ts) {i : Int32} (hin : vp_in i 1936) (hd : decode cc pc = .ok (.iaload, 1)) (kk : Z p l e R s m args below meth c A G nL Q cs ss (XW G q P S ++ X) lv (pc + 1) (.int (xA S 13 i.toNatClampNeg) :: st)) : Z p l e R s m args below meth c A G nL Q cs ss (XW G q P S ++ X) lv pc (.int i :: .ref (q 13) :: st) := z_iald C 13 rfl hin hd kk
theorem xt_13 (C : zC p s m args meth c A G cc nL rt own nm Ts) {i v : Int32} (hin : vp_in i 1936) (hd : decode cc pc = .ok (.iastore, 1)) (kk : Z p l e R s m args below meth c A G nL Q cs ss (XW G q P (xsA S 13 i.toNatClampNeg v) ++ X) lv (pc + 1) st) : Z p l e R s m args below meth c A G nL Q cs ss (XW G q P S ++ X) lv pc (.int v :: .int i :: .ref (q 13) :: st) := z_iast C 13 rfl hin rfl hd kk
theorem xn_13 (C : zC p s m args meth c A G cc nL rt own nm Ts) (hd : decode cc pc = .ok (.arraylength, 1)) (kk : Z p l e R s m args below meth c A G nL Q cs ss (XW G q P S ++ X) lv (pc + 1) (.int 1936 :: st)) : Z p l e R s m args below meth c A G nL Q cs ss (XW G q P S ++ X) lv pc (.ref (q 13) :: st) := z_alen C 13 0 rfl rfl rfl hd kk
theorem xl_14 (C : zC p s m args meth c A G cc nL rt own nm Ts) {i : Int32} (hin : vp_in i 16) (hd : decode cc pc = .ok (.iaload, 1)) (kk : Z p l e R s m args below meth c A G nL Q cs ss (XW G q P S ++ X) lv (pc + 1) (.int (xA S 14 i.toNatClampNeg) :: st)) : Z p l e R s m args below meth c A G nL Q cs ss (XW G q P S ++ X) lv pc (.int i :: .ref (q 14) :: st) := z_iald C 14 rfl hin hd kk
theorem xt_14 (C : zC p s m args meth c A G cc nL rt own nm Ts) {i v : Int32} (hin : vp_in i 16) (hd : decode cc pc = .ok (.iastore, 1)) (kk : Z p l e R s m args below meth c A G nL Q cs ss (XW G q P (xsA S 14 i.toNatClampNeg v) ++ X) lv (pc + 1) st) : Z p l e R s m args below meth c A G nL Q cs ss (XW G q P S ++ X) lv pc (.int v :: .int i :: .ref (q 14) :: st) := z_iast C 14 rfl hin rfl hd kk
theorem xn_14 (C : zC p s m args meth c A G cc nL rt own nm Ts) (hd : decode cc pc = .ok (.arraylength, 1)) (kk : Z p l e R s m args below meth c A G nL Q cs ss (XW G q P S ++ X) lv (pc + 1) (.int 16 :: st)) : Z p l e R s m args below meth c A G nL Q cs ss (XW G q P S ++ X) lv pc (.ref (q 14) :: st) := z_alen C 14 0 rfl rfl rfl hd kk
theorem xl_15 (C : zC p s m args meth c A G cc nL rt own nm Ts) {i : Int32} (hin : vp_in i 4) (hd : decode cc pc = .ok (.iaload, 1)) (kk : Z p l e R s m args below meth c A G nL Q cs ss (XW G q P S ++ X) lv (pc + 1) (.int (xA S 15 i.toNatClampNeg) :: st)) : Z p l e R s m args below meth c A G nL Q cs ss (XW G q P S ++ X) lv pc (.int i :: .ref (q 15) :: st) := z_iald C 15 rfl hin hd kk
theorem xt_15 (C : zC p s m args meth c A G cc nL rt own nm Ts) {i v : Int32} (hin : vp_in i 4) (hd : decode cc pc = .ok (.iastore, 1)) (kk : Z p l e R s m args below meth c A G nL Q cs ss (XW G q P (xsA S 15 i.toNatClampNeg v) ++ X) lv (pc + 1) st) : Z p l e R s m args below meth c A G nL Q cs ss (XW G q P S ++ X) lv pc (.int v :: .int i :: .ref (q 15) :: st) := z_iast C 15 rfl hin rfl hd kk
theorem xn_15 (C : zC p s m args meth c A G cc nL rt own nm Ts) (hd : decode cc pc = .ok (.arraylength, 1)) (kk : Z p l e R s m args below meth c A G nL Q cs ss (XW G q P S ++ X) lv (pc + 1) (.int 4 :: st)) : Z p l e R s m args below meth c A G nL Q cs ss (XW G q P S ++ X) lv pc (.ref (q 15) :: st) := z_alen C 15 0 rfl rfl rfl hd kk
theorem xl_16 (C : zC p s m args meth c A G cc nL rt own nm Ts) {i : Int32} (hin : vp_in i 4) (hd : decode cc pc = .ok (.iaload, 1)) (kk : Z p l e R s m args below meth c A G nL Q cs ss (XW G q P S ++ X) lv (pc + 1) (.int (xA S 16 i.toNatClampNeg) :: st)) : Z p l e R s m args below meth c A G nL Q cs ss (XW G q P S ++ X) lv pc (.int i :: .ref (q 16) :: st) := z_iald C 16 rfl hin hd kk
theorem xt_16 (C : zC p s m args meth c A G cc nL rt own nm Ts) {i v : Int32} (hin : vp_in i 4) (hd : decode cc pc = .ok (.iastore, 1)) (kk : Z p l e R s m args below meth c A G nL Q cs ss (XW G q P (xsA S 16 i.toNatClampNeg v) ++ X) lv (pc + 1) st) : Z p l e R s m args below meth c A G nL Q cs ss (XW G q P S ++ X) lv pc (.int v :: .int i :: .ref (q 16) :: st) := z_iast C 16 rfl hin rfl hd kk
theorem xn_16 (C : zC p s m args meth c A G cc nL rt own nm Ts) (hd : decode cc pc = .ok (.arraylength, 1)) (kk : Z p l e R s m args below meth c A G nL Q cs ss (XW G q P S ++ X) lv (pc + 1) (.int 4 :: st)) : Z p l e R s m args below meth c A G nL Q cs ss (XW G q P S ++ X) lv pc (.ref (q 16) :: st) := z_alen C 16 0 rfl rfl rfl hd kk
theorem xn_3 (C : zC p s m args meth c A G cc nL rt own nm Ts) (hd : decode cc pc = .ok (.arraylength, 1)) (kk : Z p l e R s m args below meth c A G nL Q cs ss (XW G q P S ++ X) lv (pc + 1) (.int 4 :: st)) : Z p l e R s m args below meth c A G nL Q cs ss (XW G q P S ++ X) lv pc (.ref (q 3) :: st) := z_alen C 3 2 rfl rfl rfl hd kk
theorem xl_3 (C : zC p s m args meth c A G cc nL rt own nm Ts) {i : Int32} (hin : vp_in i 4) (hd : decode cc pc = .ok (.aaload, 1)) (kk : Z p l e R s m args below meth c A G nL Q cs ss (XW G q P S ++ X) lv (pc + 1) (va_rf (xRow P i.toNatClampNeg) :: st)) : Z p l e R s m args below meth c A G nL Q cs ss (XW G q P S ++ X) lv pc (.int i :: .ref (q 3) :: st) := z_aldq C 3 rfl hin hd kk
theorem xpg_0 (C : zC p s m args meth c A G cc nL rt own nm Ts) {i : Nat} (hp : xOK P) (hi : i < P.1) (h0 : ∀ w ∈ u_ws RX0 TX0 7, w ∈ Ts) (h2 : ∀ w ∈ u_ws RX2 TX2 7, w ∈ Ts) (h5 : ∀ w ∈ u_ws RX5 TX5 7, w ∈ Ts) (h6 : ∀ w ∈ u_ws RX6 TX6 7, w ∈ Ts) (h7 : ∀ w ∈ u_ws RX7 TX7 7, w ∈ Ts) (hlink : Cond.fieldLink own index "OneTimer$Pot" "wants" "I" ∈ Ts) (hd : decode cc pc = .ok (.getfield index, 3)) (kk : Z p l e R s m args below meth c A G nL Q cs ss (XW G q P S ++ X) lv (pc + 3) (.int (xR S i 0) :: st)) : Z p l e R s m args below meth c A G nL Q cs ss (XW G q P S ++ X) lv pc (.ref (P.2.1 i) :: st) := by
  rcases hp i hi with h | h | h | h | h
  · exact z_get C h0 (18 + i) (xw_pot hi) (show vwCl[P.2.2 i]? = some (RX0, TX0, 7) by rw [h]; rfl) 0 (by decide) hlink (fun _ h => h) rfl hd kk
  · exact z_get C h2 (18 + i) (xw_pot hi) (show vwCl[P.2.2 i]? = some (RX2, TX2, 7) by rw [h]; rfl) 0 (by decide) hlink (fun _ h => h) rfl hd kk
  · exact z_get C h5 (18 + i) (xw_pot hi) (show vwCl[P.2.2 i]? = some (RX5, TX5, 7) by rw [h]; rfl) 0 (by decide) hlink (fun _ h => h) rfl hd kk
  · exact z_get C h6 (18 + i) (xw_pot hi) (show vwCl[P.2.2 i]? = some (RX6, TX6, 7) by rw [h]; rfl) 0 (by decide) hlink (fun _ h => h) rfl hd kk
  · exact z_get C h7 (18 + i) (xw_pot hi) (show vwCl[P.2.2 i]? = some (RX7, TX7, 7) by rw [h]; rfl) 0 (by decide) hlink (fun _ h => h) rfl hd kk
theorem xpg_1 (C : zC p s m args meth c A G cc nL rt own nm Ts) {i : Nat} (hp : xOK P) (hi : i < P.1) (h0 : ∀ w ∈ u_ws RX0 TX0 7, w ∈ Ts) (h2 : ∀ w ∈ u_ws RX2 TX2 7, w ∈ Ts) (h5 : ∀ w ∈ u_ws RX5 TX5 7, w ∈ Ts) (h6 : ∀ w ∈ u_ws RX6 TX6 7, w ∈ Ts) (h7 : ∀ w ∈ u_ws RX7 TX7 7, w ∈ Ts) (hlink : Cond.fieldLink own index "OneTimer$Pot" "since" "I" ∈ Ts) (hd : decode cc pc = .ok (.getfield index, 3)) (kk : Z p l e R s m args below meth c A G nL Q cs ss (XW G q P S ++ X) lv (pc + 3) (.int (xR S i 1) :: st)) : Z p l e R s m args below meth c A G nL Q cs ss (XW G q P S ++ X) lv pc (.ref (P.2.1 i) :: st) := by
  rcases hp i hi with h | h | h | h | h
  · exact z_get C h0 (18 + i) (xw_pot hi) (show vwCl[P.2.2 i]? = some (RX0, TX0, 7) by rw [h]; rfl) 1 (by decide) hlink (fun _ h => h) rfl hd kk
  · exact z_get C h2 (18 + i) (xw_pot hi) (show vwCl[P.2.2 i]? = some (RX2, TX2, 7) by rw [h]; rfl) 1 (by decide) hlink (fun _ h => h) rfl hd kk
  · exact z_get C h5 (18 + i) (xw_pot hi) (show vwCl[P.2.2 i]? = some (RX5, TX5, 7) by rw [h]; rfl) 1 (by decide) hlink (fun _ h => h) rfl hd kk
  · exact z_get C h6 (18 + i) (xw_pot hi) (show vwCl[P.2.2 i]? = some (RX6, TX6, 7) by rw [h]; rfl) 1 (by decide) hlink (fun _ h => h) rfl hd kk
  · exact z_get C h7 (18 + i) (xw_pot hi) (show vwCl[P.2.2 i]? = some (RX7, TX7, 7) by rw [h]; rfl) 1 (by decide) hlink (fun _ h => h) rfl hd kk
theorem xpp_1 (C : zC p s m args meth c A G cc nL rt own nm Ts) {i : Nat} {v : Int32} (hp : xOK P) (hi : i < P.1) (h0 : ∀ w ∈ u_ws RX0 TX0 7, w ∈ Ts) (h2 : ∀ w ∈ u_ws RX2 TX2 7, w ∈ Ts) (h5 : ∀ w ∈ u_ws RX5 TX5 7, w ∈ Ts) (h6 : ∀ w ∈ u_ws RX6 TX6 7, w ∈ Ts) (h7 : ∀ w ∈ u_ws RX7 TX7 7, w ∈ Ts) (hlink : Cond.fieldLink own index "OneTimer$Pot" "since" "I" ∈ Ts) (hd : decode cc pc = .ok (.putfield index, 3)) (kk : Z p l e R s m args below meth c A G nL Q cs ss (XW G q P (xsR S i 1 v) ++ X) lv (pc + 3) st) : Z p l e R s m args below meth c A G nL Q cs ss (XW G q P S ++ X) lv pc (.int v :: .ref (P.2.1 i) :: st) := by
  rcases hp i hi with h | h | h | h | h
  · exact z_put C h0 tyX0 tyX0_ok nmX0 (18 + i) (xw_pot hi) (show vwCl[P.2.2 i]? = some (RX0, TX0, 7) by rw [h]; rfl) 1 (by decide) hlink (fun _ h => h) rfl rfl rfl (by decide) (xw_potset hi (by decide)) hd kk
  · exact z_put C h2 tyX2 tyX2_ok nmX2 (18 + i) (xw_pot hi) (show vwCl[P.2.2 i]? = some (RX2, TX2, 7) by rw [h]; rfl) 1 (by decide) hlink (fun _ h => h) rfl rfl rfl (by decide) (xw_potset hi (by decide)) hd kk
  · exact z_put C h5 tyX5 tyX5_ok nmX5 (18 + i) (xw_pot hi) (show vwCl[P.2.2 i]? = some (RX5, TX5, 7) by rw [h]; rfl) 1 (by decide) hlink (fun _ h => h) rfl rfl rfl (by decide) (xw_potset hi (by decide)) hd kk
  · exact z_put C h6 tyX6 tyX6_ok nmX6 (18 + i) (xw_pot hi) (show vwCl[P.2.2 i]? = some (RX6, TX6, 7) by rw [h]; rfl) 1 (by decide) hlink (fun _ h => h) rfl rfl rfl (by decide) (xw_potset hi (by decide)) hd kk
  · exact z_put C h7 tyX7 tyX7_ok nmX7 (18 + i) (xw_pot hi) (show vwCl[P.2.2 i]? = some (RX7, TX7, 7) by rw [h]; rfl) 1 (by decide) hlink (fun _ h => h) rfl rfl rfl (by decide) (xw_potset hi (by decide)) hd kk
theorem xpg_2 (C : zC p s m args meth c A G cc nL rt own nm Ts) {i : Nat} (hp : xOK P) (hi : i < P.1) (h0 : ∀ w ∈ u_ws RX0 TX0 7, w ∈ Ts) (h2 : ∀ w ∈ u_ws RX2 TX2 7, w ∈ Ts) (h5 : ∀ w ∈ u_ws RX5 TX5 7, w ∈ Ts) (h6 : ∀ w ∈ u_ws RX6 TX6 7, w ∈ Ts) (h7 : ∀ w ∈ u_ws RX7 TX7 7, w ∈ Ts) (hlink : Cond.fieldLink own index "OneTimer$Pot" "timesTaken" "I" ∈ Ts) (hd : decode cc pc = .ok (.getfield index, 3)) (kk : Z p l e R s m args below meth c A G nL Q cs ss (XW G q P S ++ X) lv (pc + 3) (.int (xR S i 2) :: st)) : Z p l e R s m args below meth c A G nL Q cs ss (XW G q P S ++ X) lv pc (.ref (P.2.1 i) :: st) := by
  rcases hp i hi with h | h | h | h | h
  · exact z_get C h0 (18 + i) (xw_pot hi) (show vwCl[P.2.2 i]? = some (RX0, TX0, 7) by rw [h]; rfl) 2 (by decide) hlink (fun _ h => h) rfl hd kk
  · exact z_get C h2 (18 + i) (xw_pot hi) (show vwCl[P.2.2 i]? = some (RX2, TX2, 7) by rw [h]; rfl) 2 (by decide) hlink (fun _ h => h) rfl hd kk
  · exact z_get C h5 (18 + i) (xw_pot hi) (show vwCl[P.2.2 i]? = some (RX5, TX5, 7) by rw [h]; rfl) 2 (by decide) hlink (fun _ h => h) rfl hd kk
  · exact z_get C h6 (18 + i) (xw_pot hi) (show vwCl[P.2.2 i]? = some (RX6, TX6, 7) by rw [h]; rfl) 2 (by decide) hlink (fun _ h => h) rfl hd kk
  · exact z_get C h7 (18 + i) (xw_pot hi) (show vwCl[P.2.2 i]? = some (RX7, TX7, 7) by rw [h]; rfl) 2 (by decide) hlink (fun _ h => h) rfl hd kk
theorem xpp_2 (C : zC p s m args meth c A G cc nL rt own nm Ts) {i : Nat} {v : Int32} (hp : xOK P) (hi : i < P.1) (h0 : ∀ w ∈ u_ws RX0 TX0 7, w ∈ Ts) (h2 : ∀ w ∈ u_ws RX2 TX2 7, w ∈ Ts) (h5 : ∀ w ∈ u_ws RX5 TX5 7, w ∈ Ts) (h6 : ∀ w ∈ u_ws RX6 TX6 7, w ∈ Ts) (h7 : ∀ w ∈ u_ws RX7 TX7 7, w ∈ Ts) (hlink : Cond.fieldLink own index "OneTimer$Pot" "timesTaken" "I" ∈ Ts) (hd : decode cc pc = .ok (.putfield index, 3)) (kk : Z p l e R s m args below meth c A G nL Q cs ss (XW G q P (xsR S i 2 v) ++ X) lv (pc + 3) st) : Z p l e R s m args below meth c A G nL Q cs ss (XW G q P S ++ X) lv pc (.int v :: .ref (P.2.1 i) :: st) := by
  rcases hp i hi with h | h | h | h | h
  · exact z_put C h0 tyX0 tyX0_ok nmX0 (18 + i) (xw_pot hi) (show vwCl[P.2.2 i]? = some (RX0, TX0, 7) by rw [h]; rfl) 2 (by decide) hlink (fun _ h => h) rfl rfl rfl (by decide) (xw_potset hi (by decide)) hd kk
  · exact z_put C h2 tyX2 tyX2_ok nmX2 (18 + i) (xw_pot hi) (show vwCl[P.2.2 i]? = some (RX2, TX2, 7) by rw [h]; rfl) 2 (by decide) hlink (fun _ h => h) rfl rfl rfl (by decide) (xw_potset hi (by decide)) hd kk
  · exact z_put C h5 tyX5 tyX5_ok nmX5 (18 + i) (xw_pot hi) (show vwCl[P.2.2 i]? = some (RX5, TX5, 7) by rw [h]; rfl) 2 (by decide) hlink (fun _ h => h) rfl rfl rfl (by decide) (xw_potset hi (by decide)) hd kk
  · exact z_put C h6 tyX6 tyX6_ok nmX6 (18 + i) (xw_pot hi) (show vwCl[P.2.2 i]? = some (RX6, TX6, 7) by rw [h]; rfl) 2 (by decide) hlink (fun _ h => h) rfl rfl rfl (by decide) (xw_potset hi (by decide)) hd kk
  · exact z_put C h7 tyX7 tyX7_ok nmX7 (18 + i) (xw_pot hi) (show vwCl[P.2.2 i]? = some (RX7, TX7, 7) by rw [h]; rfl) 2 (by decide) hlink (fun _ h => h) rfl rfl rfl (by decide) (xw_potset hi (by decide)) hd kk
theorem xpg_3 (C : zC p s m args meth c A G cc nL rt own nm Ts) {i : Nat} (hp : xOK P) (hi : i < P.1) (h0 : ∀ w ∈ u_ws RX0 TX0 7, w ∈ Ts) (h2 : ∀ w ∈ u_ws RX2 TX2 7, w ∈ Ts) (h5 : ∀ w ∈ u_ws RX5 TX5 7, w ∈ Ts) (h6 : ∀ w ∈ u_ws RX6 TX6 7, w ∈ Ts) (h7 : ∀ w ∈ u_ws RX7 TX7 7, w ∈ Ts) (hlink : Cond.fieldLink own index "OneTimer$Pot" "lastOut" "I" ∈ Ts) (hd : decode cc pc = .ok (.getfield index, 3)) (kk : Z p l e R s m args below meth c A G nL Q cs ss (XW G q P S ++ X) lv (pc + 3) (.int (xR S i 3) :: st)) : Z p l e R s m args below meth c A G nL Q cs ss (XW G q P S ++ X) lv pc (.ref (P.2.1 i) :: st) := by
  rcases hp i hi with h | h | h | h | h
  · exact z_get C h0 (18 + i) (xw_pot hi) (show vwCl[P.2.2 i]? = some (RX0, TX0, 7) by rw [h]; rfl) 3 (by decide) hlink (fun _ h => h) rfl hd kk
  · exact z_get C h2 (18 + i) (xw_pot hi) (show vwCl[P.2.2 i]? = some (RX2, TX2, 7) by rw [h]; rfl) 3 (by decide) hlink (fun _ h => h) rfl hd kk
  · exact z_get C h5 (18 + i) (xw_pot hi) (show vwCl[P.2.2 i]? = some (RX5, TX5, 7) by rw [h]; rfl) 3 (by decide) hlink (fun _ h => h) rfl hd kk
  · exact z_get C h6 (18 + i) (xw_pot hi) (show vwCl[P.2.2 i]? = some (RX6, TX6, 7) by rw [h]; rfl) 3 (by decide) hlink (fun _ h => h) rfl hd kk
  · exact z_get C h7 (18 + i) (xw_pot hi) (show vwCl[P.2.2 i]? = some (RX7, TX7, 7) by rw [h]; rfl) 3 (by decide) hlink (fun _ h => h) rfl hd kk
theorem xpp_3 (C : zC p s m args meth c A G cc nL rt own nm Ts) {i : Nat} {v : Int32} (hp : xOK P) (hi : i < P.1) (h0 : ∀ w ∈ u_ws RX0 TX0 7, w ∈ Ts) (h2 : ∀ w ∈ u_ws RX2 TX2 7, w ∈ Ts) (h5 : ∀ w ∈ u_ws RX5 TX5 7, w ∈ Ts) (h6 : ∀ w ∈ u_ws RX6 TX6 7, w ∈ Ts) (h7 : ∀ w ∈ u_ws RX7 TX7 7, w ∈ Ts) (hlink : Cond.fieldLink own index "OneTimer$Pot" "lastOut" "I" ∈ Ts) (hd : decode cc pc = .ok (.putfield index, 3)) (kk : Z p l e R s m args below meth c A G nL Q cs ss (XW G q P (xsR S i 3 v) ++ X) lv (pc + 3) st) : Z p l e R s m args below meth c A G nL Q cs ss (XW G q P S ++ X) lv pc (.int v :: .ref (P.2.1 i) :: st) := by
  rcases hp i hi with h | h | h | h | h
  · exact z_put C h0 tyX0 tyX0_ok nmX0 (18 + i) (xw_pot hi) (show vwCl[P.2.2 i]? = some (RX0, TX0, 7) by rw [h]; rfl) 3 (by decide) hlink (fun _ h => h) rfl rfl rfl (by decide) (xw_potset hi (by decide)) hd kk
  · exact z_put C h2 tyX2 tyX2_ok nmX2 (18 + i) (xw_pot hi) (show vwCl[P.2.2 i]? = some (RX2, TX2, 7) by rw [h]; rfl) 3 (by decide) hlink (fun _ h => h) rfl rfl rfl (by decide) (xw_potset hi (by decide)) hd kk
  · exact z_put C h5 tyX5 tyX5_ok nmX5 (18 + i) (xw_pot hi) (show vwCl[P.2.2 i]? = some (RX5, TX5, 7) by rw [h]; rfl) 3 (by decide) hlink (fun _ h => h) rfl rfl rfl (by decide) (xw_potset hi (by decide)) hd kk
  · exact z_put C h6 tyX6 tyX6_ok nmX6 (18 + i) (xw_pot hi) (show vwCl[P.2.2 i]? = some (RX6, TX6, 7) by rw [h]; rfl) 3 (by decide) hlink (fun _ h => h) rfl rfl rfl (by decide) (xw_potset hi (by decide)) hd kk
  · exact z_put C h7 tyX7 tyX7_ok nmX7 (18 + i) (xw_pot hi) (show vwCl[P.2.2 i]? = some (RX7, TX7, 7) by rw [h]; rfl) 3 (by decide) hlink (fun _ h => h) rfl rfl rfl (by decide) (xw_potset hi (by decide)) hd kk
theorem xpg_4 (C : zC p s m args meth c A G cc nL rt own nm Ts) {i : Nat} (hp : xOK P) (hi : i < P.1) (h0 : ∀ w ∈ u_ws RX0 TX0 7, w ∈ Ts) (h2 : ∀ w ∈ u_ws RX2 TX2 7, w ∈ Ts) (h5 : ∀ w ∈ u_ws RX5 TX5 7, w ∈ Ts) (h6 : ∀ w ∈ u_ws RX6 TX6 7, w ∈ Ts) (h7 : ∀ w ∈ u_ws RX7 TX7 7, w ∈ Ts) (hlink : Cond.fieldLink own index "OneTimer$Pot" "keptSince" "I" ∈ Ts) (hd : decode cc pc = .ok (.getfield index, 3)) (kk : Z p l e R s m args below meth c A G nL Q cs ss (XW G q P S ++ X) lv (pc + 3) (.int (xR S i 4) :: st)) : Z p l e R s m args below meth c A G nL Q cs ss (XW G q P S ++ X) lv pc (.ref (P.2.1 i) :: st) := by
  rcases hp i hi with h | h | h | h | h
  · exact z_get C h0 (18 + i) (xw_pot hi) (show vwCl[P.2.2 i]? = some (RX0, TX0, 7) by rw [h]; rfl) 4 (by decide) hlink (fun _ h => h) rfl hd kk
  · exact z_get C h2 (18 + i) (xw_pot hi) (show vwCl[P.2.2 i]? = some (RX2, TX2, 7) by rw [h]; rfl) 4 (by decide) hlink (fun _ h => h) rfl hd kk
  · exact z_get C h5 (18 + i) (xw_pot hi) (show vwCl[P.2.2 i]? = some (RX5, TX5, 7) by rw [h]; rfl) 4 (by decide) hlink (fun _ h => h) rfl hd kk
  · exact z_get C h6 (18 + i) (xw_pot hi) (show vwCl[P.2.2 i]? = some (RX6, TX6, 7) by rw [h]; rfl) 4 (by decide) hlink (fun _ h => h) rfl hd kk
  · exact z_get C h7 (18 + i) (xw_pot hi) (show vwCl[P.2.2 i]? = some (RX7, TX7, 7) by rw [h]; rfl) 4 (by decide) hlink (fun _ h => h) rfl hd kk
theorem xpp_4 (C : zC p s m args meth c A G cc nL rt own nm Ts) {i : Nat} {v : Int32} (hp : xOK P) (hi : i < P.1) (h0 : ∀ w ∈ u_ws RX0 TX0 7, w ∈ Ts) (h2 : ∀ w ∈ u_ws RX2 TX2 7, w ∈ Ts) (h5 : ∀ w ∈ u_ws RX5 TX5 7, w ∈ Ts) (h6 : ∀ w ∈ u_ws RX6 TX6 7, w ∈ Ts) (h7 : ∀ w ∈ u_ws RX7 TX7 7, w ∈ Ts) (hlink : Cond.fieldLink own index "OneTimer$Pot" "keptSince" "I" ∈ Ts) (hd : decode cc pc = .ok (.putfield index, 3)) (kk : Z p l e R s m args below meth c A G nL Q cs ss (XW G q P (xsR S i 4 v) ++ X) lv (pc + 3) st) : Z p l e R s m args below meth c A G nL Q cs ss (XW G q P S ++ X) lv pc (.int v :: .ref (P.2.1 i) :: st) := by
  rcases hp i hi with h | h | h | h | h
  · exact z_put C h0 tyX0 tyX0_ok nmX0 (18 + i) (xw_pot hi) (show vwCl[P.2.2 i]? = some (RX0, TX0, 7) by rw [h]; rfl) 4 (by decide) hlink (fun _ h => h) rfl rfl rfl (by decide) (xw_potset hi (by decide)) hd kk
  · exact z_put C h2 tyX2 tyX2_ok nmX2 (18 + i) (xw_pot hi) (show vwCl[P.2.2 i]? = some (RX2, TX2, 7) by rw [h]; rfl) 4 (by decide) hlink (fun _ h => h) rfl rfl rfl (by decide) (xw_potset hi (by decide)) hd kk
  · exact z_put C h5 tyX5 tyX5_ok nmX5 (18 + i) (xw_pot hi) (show vwCl[P.2.2 i]? = some (RX5, TX5, 7) by rw [h]; rfl) 4 (by decide) hlink (fun _ h => h) rfl rfl rfl (by decide) (xw_potset hi (by decide)) hd kk
  · exact z_put C h6 tyX6 tyX6_ok nmX6 (18 + i) (xw_pot hi) (show vwCl[P.2.2 i]? = some (RX6, TX6, 7) by rw [h]; rfl) 4 (by decide) hlink (fun _ h => h) rfl rfl rfl (by decide) (xw_potset hi (by decide)) hd kk
  · exact z_put C h7 tyX7 tyX7_ok nmX7 (18 + i) (xw_pot hi) (show vwCl[P.2.2 i]? = some (RX7, TX7, 7) by rw [h]; rfl) 4 (by decide) hlink (fun _ h => h) rfl rfl rfl (by decide) (xw_potset hi (by decide)) hd kk
theorem xpg_5 (C : zC p s m args meth c A G cc nL rt own nm Ts) {i : Nat} (hp : xOK P) (hi : i < P.1) (h0 : ∀ w ∈ u_ws RX0 TX0 7, w ∈ Ts) (h2 : ∀ w ∈ u_ws RX2 TX2 7, w ∈ Ts) (h5 : ∀ w ∈ u_ws RX5 TX5 7, w ∈ Ts) (h6 : ∀ w ∈ u_ws RX6 TX6 7, w ∈ Ts) (h7 : ∀ w ∈ u_ws RX7 TX7 7, w ∈ Ts) (hlink : Cond.fieldLink own index "OneTimer$Pot" "keptTimesTaken" "I" ∈ Ts) (hd : decode cc pc = .ok (.getfield index, 3)) (kk : Z p l e R s m args below meth c A G nL Q cs ss (XW G q P S ++ X) lv (pc + 3) (.int (xR S i 5) :: st)) : Z p l e R s m args below meth c A G nL Q cs ss (XW G q P S ++ X) lv pc (.ref (P.2.1 i) :: st) := by
  rcases hp i hi with h | h | h | h | h
  · exact z_get C h0 (18 + i) (xw_pot hi) (show vwCl[P.2.2 i]? = some (RX0, TX0, 7) by rw [h]; rfl) 5 (by decide) hlink (fun _ h => h) rfl hd kk
  · exact z_get C h2 (18 + i) (xw_pot hi) (show vwCl[P.2.2 i]? = some (RX2, TX2, 7) by rw [h]; rfl) 5 (by decide) hlink (fun _ h => h) rfl hd kk
  · exact z_get C h5 (18 + i) (xw_pot hi) (show vwCl[P.2.2 i]? = some (RX5, TX5, 7) by rw [h]; rfl) 5 (by decide) hlink (fun _ h => h) rfl hd kk
  · exact z_get C h6 (18 + i) (xw_pot hi) (show vwCl[P.2.2 i]? = some (RX6, TX6, 7) by rw [h]; rfl) 5 (by decide) hlink (fun _ h => h) rfl hd kk
  · exact z_get C h7 (18 + i) (xw_pot hi) (show vwCl[P.2.2 i]? = some (RX7, TX7, 7) by rw [h]; rfl) 5 (by decide) hlink (fun _ h => h) rfl hd kk
theorem xpp_5 (C : zC p s m args meth c A G cc nL rt own nm Ts) {i : Nat} {v : Int32} (hp : xOK P) (hi : i < P.1) (h0 : ∀ w ∈ u_ws RX0 TX0 7, w ∈ Ts) (h2 : ∀ w ∈ u_ws RX2 TX2 7, w ∈ Ts) (h5 : ∀ w ∈ u_ws RX5 TX5 7, w ∈ Ts) (h6 : ∀ w ∈ u_ws RX6 TX6 7, w ∈ Ts) (h7 : ∀ w ∈ u_ws RX7 TX7 7, w ∈ Ts) (hlink : Cond.fieldLink own index "OneTimer$Pot" "keptTimesTaken" "I" ∈ Ts) (hd : decode cc pc = .ok (.putfield index, 3)) (kk : Z p l e R s m args below meth c A G nL Q cs ss (XW G q P (xsR S i 5 v) ++ X) lv (pc + 3) st) : Z p l e R s m args below meth c A G nL Q cs ss (XW G q P S ++ X) lv pc (.int v :: .ref (P.2.1 i) :: st) := by
  rcases hp i hi with h | h | h | h | h
  · exact z_put C h0 tyX0 tyX0_ok nmX0 (18 + i) (xw_pot hi) (show vwCl[P.2.2 i]? = some (RX0, TX0, 7) by rw [h]; rfl) 5 (by decide) hlink (fun _ h => h) rfl rfl rfl (by decide) (xw_potset hi (by decide)) hd kk
  · exact z_put C h2 tyX2 tyX2_ok nmX2 (18 + i) (xw_pot hi) (show vwCl[P.2.2 i]? = some (RX2, TX2, 7) by rw [h]; rfl) 5 (by decide) hlink (fun _ h => h) rfl rfl rfl (by decide) (xw_potset hi (by decide)) hd kk
  · exact z_put C h5 tyX5 tyX5_ok nmX5 (18 + i) (xw_pot hi) (show vwCl[P.2.2 i]? = some (RX5, TX5, 7) by rw [h]; rfl) 5 (by decide) hlink (fun _ h => h) rfl rfl rfl (by decide) (xw_potset hi (by decide)) hd kk
  · exact z_put C h6 tyX6 tyX6_ok nmX6 (18 + i) (xw_pot hi) (show vwCl[P.2.2 i]? = some (RX6, TX6, 7) by rw [h]; rfl) 5 (by decide) hlink (fun _ h => h) rfl rfl rfl (by decide) (xw_potset hi (by decide)) hd kk
  · exact z_put C h7 tyX7 tyX7_ok nmX7 (18 + i) (xw_pot hi) (show vwCl[P.2.2 i]? = some (RX7, TX7, 7) by rw [h]; rfl) 5 (by decide) hlink (fun _ h => h) rfl rfl rfl (by decide) (xw_potset hi (by decide)) hd kk
theorem xpg_6 (C : zC p s m args meth c A G cc nL rt own nm Ts) {i : Nat} (hp : xOK P) (hi : i < P.1) (h0 : ∀ w ∈ u_ws RX0 TX0 7, w ∈ Ts) (h2 : ∀ w ∈ u_ws RX2 TX2 7, w ∈ Ts) (h5 : ∀ w ∈ u_ws RX5 TX5 7, w ∈ Ts) (h6 : ∀ w ∈ u_ws RX6 TX6 7, w ∈ Ts) (h7 : ∀ w ∈ u_ws RX7 TX7 7, w ∈ Ts) (hlink : Cond.fieldLink own index "OneTimer$Pot" "keptLastOut" "I" ∈ Ts) (hd : decode cc pc = .ok (.getfield index, 3)) (kk : Z p l e R s m args below meth c A G nL Q cs ss (XW G q P S ++ X) lv (pc + 3) (.int (xR S i 6) :: st)) : Z p l e R s m args below meth c A G nL Q cs ss (XW G q P S ++ X) lv pc (.ref (P.2.1 i) :: st) := by
  rcases hp i hi with h | h | h | h | h
  · exact z_get C h0 (18 + i) (xw_pot hi) (show vwCl[P.2.2 i]? = some (RX0, TX0, 7) by rw [h]; rfl) 6 (by decide) hlink (fun _ h => h) rfl hd kk
  · exact z_get C h2 (18 + i) (xw_pot hi) (show vwCl[P.2.2 i]? = some (RX2, TX2, 7) by rw [h]; rfl) 6 (by decide) hlink (fun _ h => h) rfl hd kk
  · exact z_get C h5 (18 + i) (xw_pot hi) (show vwCl[P.2.2 i]? = some (RX5, TX5, 7) by rw [h]; rfl) 6 (by decide) hlink (fun _ h => h) rfl hd kk
  · exact z_get C h6 (18 + i) (xw_pot hi) (show vwCl[P.2.2 i]? = some (RX6, TX6, 7) by rw [h]; rfl) 6 (by decide) hlink (fun _ h => h) rfl hd kk
  · exact z_get C h7 (18 + i) (xw_pot hi) (show vwCl[P.2.2 i]? = some (RX7, TX7, 7) by rw [h]; rfl) 6 (by decide) hlink (fun _ h => h) rfl hd kk
theorem xpp_6 (C : zC p s m args meth c A G cc nL rt own nm Ts) {i : Nat} {v : Int32} (hp : xOK P) (hi : i < P.1) (h0 : ∀ w ∈ u_ws RX0 TX0 7, w ∈ Ts) (h2 : ∀ w ∈ u_ws RX2 TX2 7, w ∈ Ts) (h5 : ∀ w ∈ u_ws RX5 TX5 7, w ∈ Ts) (h6 : ∀ w ∈ u_ws RX6 TX6 7, w ∈ Ts) (h7 : ∀ w ∈ u_ws RX7 TX7 7, w ∈ Ts) (hlink : Cond.fieldLink own index "OneTimer$Pot" "keptLastOut" "I" ∈ Ts) (hd : decode cc pc = .ok (.putfield index, 3)) (kk : Z p l e R s m args below meth c A G nL Q cs ss (XW G q P (xsR S i 6 v) ++ X) lv (pc + 3) st) : Z p l e R s m args below meth c A G nL Q cs ss (XW G q P S ++ X) lv pc (.int v :: .ref (P.2.1 i) :: st) := by
  rcases hp i hi with h | h | h | h | h
  · exact z_put C h0 tyX0 tyX0_ok nmX0 (18 + i) (xw_pot hi) (show vwCl[P.2.2 i]? = some (RX0, TX0, 7) by rw [h]; rfl) 6 (by decide) hlink (fun _ h => h) rfl rfl rfl (by decide) (xw_potset hi (by decide)) hd kk
  · exact z_put C h2 tyX2 tyX2_ok nmX2 (18 + i) (xw_pot hi) (show vwCl[P.2.2 i]? = some (RX2, TX2, 7) by rw [h]; rfl) 6 (by decide) hlink (fun _ h => h) rfl rfl rfl (by decide) (xw_potset hi (by decide)) hd kk
  · exact z_put C h5 tyX5 tyX5_ok nmX5 (18 + i) (xw_pot hi) (show vwCl[P.2.2 i]? = some (RX5, TX5, 7) by rw [h]; rfl) 6 (by decide) hlink (fun _ h => h) rfl rfl rfl (by decide) (xw_potset hi (by decide)) hd kk
  · exact z_put C h6 tyX6 tyX6_ok nmX6 (18 + i) (xw_pot hi) (show vwCl[P.2.2 i]? = some (RX6, TX6, 7) by rw [h]; rfl) 6 (by decide) hlink (fun _ h => h) rfl rfl rfl (by decide) (xw_potset hi (by decide)) hd kk
  · exact z_put C h7 tyX7 tyX7_ok nmX7 (18 + i) (xw_pot hi) (show vwCl[P.2.2 i]? = some (RX7, TX7, 7) by rw [h]; rfl) 6 (by decide) hlink (fun _ h => h) rfl rfl rfl (by decide) (xw_potset hi (by decide)) hd kk
end ZX
theorem z5 {k : Nat} {P Q : Prop} (h : k = 0 ∨ k = 2 ∨ k = 5 ∨ k = 6 ∨ k = 7) (h0 : k = 0 → Q → P) (h2 : k = 2 → Q → P) (h5 : k = 5 → Q → P) (h6 : k = 6 → Q → P) (h7 : k = 7 → Q → P) (hq : Q) : P := by
  rcases h with h | h | h | h | h
  · exact h0 h hq
  · exact h2 h hq
  · exact h5 h hq
  · exact h6 h hq
  · exact h7 h hq
/-- by a pot's class: its kind, how long it keeps -/
def kd (k : Nat) : Int32 := if k = 0 then 4 else if k = 2 then 1 else if k = 6 then 2 else if k = 7 then 3 else 0
def kp (k : Nat) : Int32 := if k = 0 then 6 else if k = 2 then 1 else if k = 6 then 3 else if k = 7 then 9 else 0
end
section
theorem zz_end : True := trivial
end
