section
-- ===== PART A: goes FIRST, ahead of the names: the tables' words, and 'selects' of the private methods out of them =====
/-- a private method of a class that the tables say can be made, by its rows of tables_1 -/
def lw_okq (q : MethodName × Nat) : Prop := (q.1.cls ≠ "java/lang/invoke/MethodHandle" ∧ q.1.cls ≠ "java/lang/invoke/VarHandle") ∧ Cond.instantiable q.1.cls q.2 ∈ tables_1 ∧ Cond.privateMethod q.1 ∈ tables_1 ∧ Cond.instanceMethod q.1 ∈ tables_1
theorem lw_p0 : lw_okq (⟨"RiverCampaign$State", "stand", "(II)V"⟩, 14) := ⟨⟨by decide +kernel, by decide +kernel⟩, List.mem_of_getElem? (i := 47) (by decide +kernel), List.mem_of_getElem? (i := 356) (by decide +kernel), List.mem_of_getElem? (i := 357) (by decide +kernel)⟩
theorem lw_p1 : lw_okq (⟨"RiverCampaign", "moveUnit", "(II)I"⟩, 10) := ⟨⟨by decide +kernel, by decide +kernel⟩, List.mem_of_getElem? (i := 15) (by decide +kernel), List.mem_of_getElem? (i := 366) (by decide +kernel), List.mem_of_getElem? (i := 367) (by decide +kernel)⟩
theorem lw_p2 : lw_okq (⟨"RiverCampaign$Ways", "goOn", "(LRiverCampaign$State;II)V"⟩, 2) := ⟨⟨by decide +kernel, by decide +kernel⟩, List.mem_of_getElem? (i := 182) (by decide +kernel), List.mem_of_getElem? (i := 388) (by decide +kernel), List.mem_of_getElem? (i := 389) (by decide +kernel)⟩
theorem lw_p3 : lw_okq (⟨"RiverCampaign", "recordedIfDone", "(I)I"⟩, 10) := ⟨⟨by decide +kernel, by decide +kernel⟩, List.mem_of_getElem? (i := 15) (by decide +kernel), List.mem_of_getElem? (i := 406) (by decide +kernel), List.mem_of_getElem? (i := 407) (by decide +kernel)⟩
theorem lw_p4 : lw_okq (⟨"RiverCampaign", "strike", "(II)I"⟩, 10) := ⟨⟨by decide +kernel, by decide +kernel⟩, List.mem_of_getElem? (i := 15) (by decide +kernel), List.mem_of_getElem? (i := 414) (by decide +kernel), List.mem_of_getElem? (i := 415) (by decide +kernel)⟩
theorem lw_p5 : lw_okq (⟨"RiverCampaign", "canFight", "(II)Z"⟩, 10) := ⟨⟨by decide +kernel, by decide +kernel⟩, List.mem_of_getElem? (i := 15) (by decide +kernel), List.mem_of_getElem? (i := 418) (by decide +kernel), List.mem_of_getElem? (i := 419) (by decide +kernel)⟩
theorem lw_p6 : lw_okq (⟨"RiverCampaign$Supply", "spread", "(I)V"⟩, 3) := ⟨⟨by decide +kernel, by decide +kernel⟩, List.mem_of_getElem? (i := 196) (by decide +kernel), List.mem_of_getElem? (i := 439) (by decide +kernel), List.mem_of_getElem? (i := 440) (by decide +kernel)⟩
theorem lw_p7 : lw_okq (⟨"RiverCampaign$Fight", "powerOfAttack", "(LRiverCampaign$State;II)I"⟩, 6) := ⟨⟨by decide +kernel, by decide +kernel⟩, List.mem_of_getElem? (i := 214) (by decide +kernel), List.mem_of_getElem? (i := 444) (by decide +kernel), List.mem_of_getElem? (i := 445) (by decide +kernel)⟩
theorem lw_p8 : lw_okq (⟨"RiverCampaign$Fight", "powerOfDefence", "(LRiverCampaign$State;I)I"⟩, 6) := ⟨⟨by decide +kernel, by decide +kernel⟩, List.mem_of_getElem? (i := 214) (by decide +kernel), List.mem_of_getElem? (i := 454) (by decide +kernel), List.mem_of_getElem? (i := 455) (by decide +kernel)⟩
theorem lw_p9 : lw_okq (⟨"RiverCampaign", "finishTurn", "()I"⟩, 10) := ⟨⟨by decide +kernel, by decide +kernel⟩, List.mem_of_getElem? (i := 15) (by decide +kernel), List.mem_of_getElem? (i := 474) (by decide +kernel), List.mem_of_getElem? (i := 475) (by decide +kernel)⟩
theorem lw_p10 : lw_okq (⟨"RiverCampaign", "starve", "(I)I"⟩, 10) := ⟨⟨by decide +kernel, by decide +kernel⟩, List.mem_of_getElem? (i := 15) (by decide +kernel), List.mem_of_getElem? (i := 478) (by decide +kernel), List.mem_of_getElem? (i := 479) (by decide +kernel)⟩
theorem lw_p11 : lw_okq (⟨"RiverCampaign$Orders", "stageAfter", "(IC)I"⟩, 9) := ⟨⟨by decide +kernel, by decide +kernel⟩, List.mem_of_getElem? (i := 142) (by decide +kernel), List.mem_of_getElem? (i := 502) (by decide +kernel), List.mem_of_getElem? (i := 503) (by decide +kernel)⟩
theorem lw_p12 : lw_okq (⟨"RiverCampaign$Orders", "readFirst", "(C)I"⟩, 9) := ⟨⟨by decide +kernel, by decide +kernel⟩, List.mem_of_getElem? (i := 142) (by decide +kernel), List.mem_of_getElem? (i := 506) (by decide +kernel), List.mem_of_getElem? (i := 507) (by decide +kernel)⟩
theorem lw_p13 : lw_okq (⟨"RiverCampaign$Orders", "addOrder", "(I)I"⟩, 9) := ⟨⟨by decide +kernel, by decide +kernel⟩, List.mem_of_getElem? (i := 142) (by decide +kernel), List.mem_of_getElem? (i := 510) (by decide +kernel), List.mem_of_getElem? (i := 511) (by decide +kernel)⟩
theorem lw_p14 : lw_okq (⟨"RiverCampaign$Orders", "readUnit", "(I)I"⟩, 9) := ⟨⟨by decide +kernel, by decide +kernel⟩, List.mem_of_getElem? (i := 142) (by decide +kernel), List.mem_of_getElem? (i := 517) (by decide +kernel), List.mem_of_getElem? (i := 518) (by decide +kernel)⟩
theorem lw_p15 : lw_okq (⟨"RiverCampaign$Orders", "readSign", "(C)I"⟩, 9) := ⟨⟨by decide +kernel, by decide +kernel⟩, List.mem_of_getElem? (i := 142) (by decide +kernel), List.mem_of_getElem? (i := 521) (by decide +kernel), List.mem_of_getElem? (i := 522) (by decide +kernel)⟩
def lw_privs_1 : List (MethodName × Nat) := [(⟨"RiverCampaign$State", "stand", "(II)V"⟩, 14), (⟨"RiverCampaign", "moveUnit", "(II)I"⟩, 10), (⟨"RiverCampaign$Ways", "goOn", "(LRiverCampaign$State;II)V"⟩, 2), (⟨"RiverCampaign", "recordedIfDone", "(I)I"⟩, 10), (⟨"RiverCampaign", "strike", "(II)I"⟩, 10), (⟨"RiverCampaign", "canFight", "(II)Z"⟩, 10), (⟨"RiverCampaign$Supply", "spread", "(I)V"⟩, 3), (⟨"RiverCampaign$Fight", "powerOfAttack", "(LRiverCampaign$State;II)I"⟩, 6), (⟨"RiverCampaign$Fight", "powerOfDefence", "(LRiverCampaign$State;I)I"⟩, 6), (⟨"RiverCampaign", "finishTurn", "()I"⟩, 10), (⟨"RiverCampaign", "starve", "(I)I"⟩, 10), (⟨"RiverCampaign$Orders", "stageAfter", "(IC)I"⟩, 9), (⟨"RiverCampaign$Orders", "readFirst", "(C)I"⟩, 9), (⟨"RiverCampaign$Orders", "addOrder", "(I)I"⟩, 9), (⟨"RiverCampaign$Orders", "readUnit", "(I)I"⟩, 9), (⟨"RiverCampaign$Orders", "readSign", "(C)I"⟩, 9)]
theorem lw_r1 : ∀ q ∈ lw_privs_1, lw_okq q := List.forall_mem_cons.mpr ⟨lw_p0, List.forall_mem_cons.mpr ⟨lw_p1, List.forall_mem_cons.mpr ⟨lw_p2, List.forall_mem_cons.mpr ⟨lw_p3, List.forall_mem_cons.mpr ⟨lw_p4, List.forall_mem_cons.mpr ⟨lw_p5, List.forall_mem_cons.mpr ⟨lw_p6, List.forall_mem_cons.mpr ⟨lw_p7, List.forall_mem_cons.mpr ⟨lw_p8, List.forall_mem_cons.mpr ⟨lw_p9, List.forall_mem_cons.mpr ⟨lw_p10, List.forall_mem_cons.mpr ⟨lw_p11, List.forall_mem_cons.mpr ⟨lw_p12, List.forall_mem_cons.mpr ⟨lw_p13, List.forall_mem_cons.mpr ⟨lw_p14, List.forall_mem_cons.mpr ⟨lw_p15, fun _ h => absurd h List.not_mem_nil⟩⟩⟩⟩⟩⟩⟩⟩⟩⟩⟩⟩⟩⟩⟩⟩
theorem lw_p16 : lw_okq (⟨"RiverCampaign$Orders", "readColumn", "(C)I"⟩, 9) := ⟨⟨by decide +kernel, by decide +kernel⟩, List.mem_of_getElem? (i := 142) (by decide +kernel), List.mem_of_getElem? (i := 525) (by decide +kernel), List.mem_of_getElem? (i := 526) (by decide +kernel)⟩
theorem lw_p17 : lw_okq (⟨"RiverCampaign$Orders", "readRow", "(C)I"⟩, 9) := ⟨⟨by decide +kernel, by decide +kernel⟩, List.mem_of_getElem? (i := 142) (by decide +kernel), List.mem_of_getElem? (i := 529) (by decide +kernel), List.mem_of_getElem? (i := 530) (by decide +kernel)⟩
theorem lw_p18 : lw_okq (⟨"RiverCampaign$State", "isSeenByUnit", "(II)Z"⟩, 14) := ⟨⟨by decide +kernel, by decide +kernel⟩, List.mem_of_getElem? (i := 47) (by decide +kernel), List.mem_of_getElem? (i := 573) (by decide +kernel), List.mem_of_getElem? (i := 574) (by decide +kernel)⟩
theorem lw_p19 : lw_okq (⟨"RiverCampaign$State", "isSeenByFort", "(II)Z"⟩, 14) := ⟨⟨by decide +kernel, by decide +kernel⟩, List.mem_of_getElem? (i := 47) (by decide +kernel), List.mem_of_getElem? (i := 585) (by decide +kernel), List.mem_of_getElem? (i := 586) (by decide +kernel)⟩
theorem lw_p20 : lw_okq (⟨"RiverCampaignModel", "records", "()V"⟩, 18) := ⟨⟨by decide +kernel, by decide +kernel⟩, List.mem_of_getElem? (i := 641) (by decide +kernel), List.mem_of_getElem? (i := 712) (by decide +kernel), List.mem_of_getElem? (i := 713) (by decide +kernel)⟩
theorem lw_p21 : lw_okq (⟨"RiverCampaignModel", "hasRiver", "(II)Z"⟩, 18) := ⟨⟨by decide +kernel, by decide +kernel⟩, List.mem_of_getElem? (i := 641) (by decide +kernel), List.mem_of_getElem? (i := 723) (by decide +kernel), List.mem_of_getElem? (i := 724) (by decide +kernel)⟩
theorem lw_p22 : lw_okq (⟨"RiverCampaignModel", "rivers", "()I"⟩, 18) := ⟨⟨by decide +kernel, by decide +kernel⟩, List.mem_of_getElem? (i := 641) (by decide +kernel), List.mem_of_getElem? (i := 727) (by decide +kernel), List.mem_of_getElem? (i := 728) (by decide +kernel)⟩
theorem lw_p23 : lw_okq (⟨"RiverCampaignModel", "unitOn", "(I)I"⟩, 18) := ⟨⟨by decide +kernel, by decide +kernel⟩, List.mem_of_getElem? (i := 641) (by decide +kernel), List.mem_of_getElem? (i := 735) (by decide +kernel), List.mem_of_getElem? (i := 736) (by decide +kernel)⟩
theorem lw_p24 : lw_okq (⟨"RiverCampaignModel", "of", "(II)I"⟩, 18) := ⟨⟨by decide +kernel, by decide +kernel⟩, List.mem_of_getElem? (i := 641) (by decide +kernel), List.mem_of_getElem? (i := 739) (by decide +kernel), List.mem_of_getElem? (i := 740) (by decide +kernel)⟩
theorem lw_p25 : lw_okq (⟨"RiverCampaignModel", "forts", "(I)I"⟩, 18) := ⟨⟨by decide +kernel, by decide +kernel⟩, List.mem_of_getElem? (i := 641) (by decide +kernel), List.mem_of_getElem? (i := 743) (by decide +kernel), List.mem_of_getElem? (i := 744) (by decide +kernel)⟩
theorem lw_p26 : lw_okq (⟨"RiverCampaignModel", "lay", "(III)V"⟩, 18) := ⟨⟨by decide +kernel, by decide +kernel⟩, List.mem_of_getElem? (i := 641) (by decide +kernel), List.mem_of_getElem? (i := 755) (by decide +kernel), List.mem_of_getElem? (i := 756) (by decide +kernel)⟩
theorem lw_p27 : lw_okq (⟨"RiverCampaignModel", "stands", "(II)V"⟩, 18) := ⟨⟨by decide +kernel, by decide +kernel⟩, List.mem_of_getElem? (i := 641) (by decide +kernel), List.mem_of_getElem? (i := 759) (by decide +kernel), List.mem_of_getElem? (i := 760) (by decide +kernel)⟩
theorem lw_p28 : lw_okq (⟨"RiverCampaignModel", "refusesMove", "(II)I"⟩, 18) := ⟨⟨by decide +kernel, by decide +kernel⟩, List.mem_of_getElem? (i := 641) (by decide +kernel), List.mem_of_getElem? (i := 767) (by decide +kernel), List.mem_of_getElem? (i := 768) (by decide +kernel)⟩
theorem lw_p29 : lw_okq (⟨"RiverCampaignModel", "isUnit", "(I)Z"⟩, 18) := ⟨⟨by decide +kernel, by decide +kernel⟩, List.mem_of_getElem? (i := 641) (by decide +kernel), List.mem_of_getElem? (i := 771) (by decide +kernel), List.mem_of_getElem? (i := 772) (by decide +kernel)⟩
theorem lw_p30 : lw_okq (⟨"RiverCampaignModel", "isAtTurn", "(I)Z"⟩, 18) := ⟨⟨by decide +kernel, by decide +kernel⟩, List.mem_of_getElem? (i := 641) (by decide +kernel), List.mem_of_getElem? (i := 775) (by decide +kernel), List.mem_of_getElem? (i := 776) (by decide +kernel)⟩
theorem lw_p31 : lw_okq (⟨"RiverCampaignModel", "laysWays", "(I)V"⟩, 18) := ⟨⟨by decide +kernel, by decide +kernel⟩, List.mem_of_getElem? (i := 641) (by decide +kernel), List.mem_of_getElem? (i := 779) (by decide +kernel), List.mem_of_getElem? (i := 780) (by decide +kernel)⟩
def lw_privs_2 : List (MethodName × Nat) := [(⟨"RiverCampaign$Orders", "readColumn", "(C)I"⟩, 9), (⟨"RiverCampaign$Orders", "readRow", "(C)I"⟩, 9), (⟨"RiverCampaign$State", "isSeenByUnit", "(II)Z"⟩, 14), (⟨"RiverCampaign$State", "isSeenByFort", "(II)Z"⟩, 14), (⟨"RiverCampaignModel", "records", "()V"⟩, 18), (⟨"RiverCampaignModel", "hasRiver", "(II)Z"⟩, 18), (⟨"RiverCampaignModel", "rivers", "()I"⟩, 18), (⟨"RiverCampaignModel", "unitOn", "(I)I"⟩, 18), (⟨"RiverCampaignModel", "of", "(II)I"⟩, 18), (⟨"RiverCampaignModel", "forts", "(I)I"⟩, 18), (⟨"RiverCampaignModel", "lay", "(III)V"⟩, 18), (⟨"RiverCampaignModel", "stands", "(II)V"⟩, 18), (⟨"RiverCampaignModel", "refusesMove", "(II)I"⟩, 18), (⟨"RiverCampaignModel", "isUnit", "(I)Z"⟩, 18), (⟨"RiverCampaignModel", "isAtTurn", "(I)Z"⟩, 18), (⟨"RiverCampaignModel", "laysWays", "(I)V"⟩, 18)]
theorem lw_r2 : ∀ q ∈ lw_privs_2, lw_okq q := List.forall_mem_cons.mpr ⟨lw_p16, List.forall_mem_cons.mpr ⟨lw_p17, List.forall_mem_cons.mpr ⟨lw_p18, List.forall_mem_cons.mpr ⟨lw_p19, List.forall_mem_cons.mpr ⟨lw_p20, List.forall_mem_cons.mpr ⟨lw_p21, List.forall_mem_cons.mpr ⟨lw_p22, List.forall_mem_cons.mpr ⟨lw_p23, List.forall_mem_cons.mpr ⟨lw_p24, List.forall_mem_cons.mpr ⟨lw_p25, List.forall_mem_cons.mpr ⟨lw_p26, List.forall_mem_cons.mpr ⟨lw_p27, List.forall_mem_cons.mpr ⟨lw_p28, List.forall_mem_cons.mpr ⟨lw_p29, List.forall_mem_cons.mpr ⟨lw_p30, List.forall_mem_cons.mpr ⟨lw_p31, fun _ h => absurd h List.not_mem_nil⟩⟩⟩⟩⟩⟩⟩⟩⟩⟩⟩⟩⟩⟩⟩⟩
theorem lw_p32 : lw_okq (⟨"RiverCampaignModel", "laysZone", "(I)V"⟩, 18) := ⟨⟨by decide +kernel, by decide +kernel⟩, List.mem_of_getElem? (i := 641) (by decide +kernel), List.mem_of_getElem? (i := 783) (by decide +kernel), List.mem_of_getElem? (i := 784) (by decide +kernel)⟩
theorem lw_p33 : lw_okq (⟨"RiverCampaignModel", "isInZone", "(II)Z"⟩, 18) := ⟨⟨by decide +kernel, by decide +kernel⟩, List.mem_of_getElem? (i := 641) (by decide +kernel), List.mem_of_getElem? (i := 787) (by decide +kernel), List.mem_of_getElem? (i := 788) (by decide +kernel)⟩
theorem lw_p34 : lw_okq (⟨"RiverCampaignModel", "isOn", "(II)Z"⟩, 18) := ⟨⟨by decide +kernel, by decide +kernel⟩, List.mem_of_getElem? (i := 641) (by decide +kernel), List.mem_of_getElem? (i := 791) (by decide +kernel), List.mem_of_getElem? (i := 792) (by decide +kernel)⟩
theorem lw_p35 : lw_okq (⟨"RiverCampaignModel", "entering", "(III)I"⟩, 18) := ⟨⟨by decide +kernel, by decide +kernel⟩, List.mem_of_getElem? (i := 641) (by decide +kernel), List.mem_of_getElem? (i := 795) (by decide +kernel), List.mem_of_getElem? (i := 796) (by decide +kernel)⟩
theorem lw_p36 : lw_okq (⟨"RiverCampaignModel", "cheapest", "()I"⟩, 18) := ⟨⟨by decide +kernel, by decide +kernel⟩, List.mem_of_getElem? (i := 641) (by decide +kernel), List.mem_of_getElem? (i := 799) (by decide +kernel), List.mem_of_getElem? (i := 800) (by decide +kernel)⟩
theorem lw_p37 : lw_okq (⟨"RiverCampaignModel", "canReach", "(II)Z"⟩, 18) := ⟨⟨by decide +kernel, by decide +kernel⟩, List.mem_of_getElem? (i := 641) (by decide +kernel), List.mem_of_getElem? (i := 803) (by decide +kernel), List.mem_of_getElem? (i := 804) (by decide +kernel)⟩
theorem lw_p38 : lw_okq (⟨"RiverCampaignModel", "moves", "(II)I"⟩, 18) := ⟨⟨by decide +kernel, by decide +kernel⟩, List.mem_of_getElem? (i := 641) (by decide +kernel), List.mem_of_getElem? (i := 807) (by decide +kernel), List.mem_of_getElem? (i := 808) (by decide +kernel)⟩
theorem lw_p39 : lw_okq (⟨"RiverCampaignModel", "refusesAttack", "(II)I"⟩, 18) := ⟨⟨by decide +kernel, by decide +kernel⟩, List.mem_of_getElem? (i := 641) (by decide +kernel), List.mem_of_getElem? (i := 815) (by decide +kernel), List.mem_of_getElem? (i := 816) (by decide +kernel)⟩
theorem lw_p40 : lw_okq (⟨"RiverCampaignModel", "canFight", "(II)Z"⟩, 18) := ⟨⟨by decide +kernel, by decide +kernel⟩, List.mem_of_getElem? (i := 641) (by decide +kernel), List.mem_of_getElem? (i := 819) (by decide +kernel), List.mem_of_getElem? (i := 820) (by decide +kernel)⟩
theorem lw_p41 : lw_okq (⟨"RiverCampaignModel", "fights", "(II)I"⟩, 18) := ⟨⟨by decide +kernel, by decide +kernel⟩, List.mem_of_getElem? (i := 641) (by decide +kernel), List.mem_of_getElem? (i := 826) (by decide +kernel), List.mem_of_getElem? (i := 827) (by decide +kernel)⟩
theorem lw_p42 : lw_okq (⟨"RiverCampaignModel", "power", "(II)I"⟩, 18) := ⟨⟨by decide +kernel, by decide +kernel⟩, List.mem_of_getElem? (i := 641) (by decide +kernel), List.mem_of_getElem? (i := 830) (by decide +kernel), List.mem_of_getElem? (i := 831) (by decide +kernel)⟩
theorem lw_p43 : lw_okq (⟨"RiverCampaignModel", "isSupplied", "(I)Z"⟩, 18) := ⟨⟨by decide +kernel, by decide +kernel⟩, List.mem_of_getElem? (i := 641) (by decide +kernel), List.mem_of_getElem? (i := 834) (by decide +kernel), List.mem_of_getElem? (i := 835) (by decide +kernel)⟩
theorem lw_p44 : lw_okq (⟨"RiverCampaignModel", "toSource", "(I)I"⟩, 18) := ⟨⟨by decide +kernel, by decide +kernel⟩, List.mem_of_getElem? (i := 641) (by decide +kernel), List.mem_of_getElem? (i := 838) (by decide +kernel), List.mem_of_getElem? (i := 839) (by decide +kernel)⟩
theorem lw_p45 : lw_okq (⟨"RiverCampaignModel", "isSource", "(II)Z"⟩, 18) := ⟨⟨by decide +kernel, by decide +kernel⟩, List.mem_of_getElem? (i := 641) (by decide +kernel), List.mem_of_getElem? (i := 842) (by decide +kernel), List.mem_of_getElem? (i := 843) (by decide +kernel)⟩
theorem lw_p46 : lw_okq (⟨"RiverCampaignModel", "isFree", "(II)Z"⟩, 18) := ⟨⟨by decide +kernel, by decide +kernel⟩, List.mem_of_getElem? (i := 641) (by decide +kernel), List.mem_of_getElem? (i := 846) (by decide +kernel), List.mem_of_getElem? (i := 847) (by decide +kernel)⟩
theorem lw_p47 : lw_okq (⟨"RiverCampaignModel", "defence", "(I)I"⟩, 18) := ⟨⟨by decide +kernel, by decide +kernel⟩, List.mem_of_getElem? (i := 641) (by decide +kernel), List.mem_of_getElem? (i := 850) (by decide +kernel), List.mem_of_getElem? (i := 851) (by decide +kernel)⟩
def lw_privs_3 : List (MethodName × Nat) := [(⟨"RiverCampaignModel", "laysZone", "(I)V"⟩, 18), (⟨"RiverCampaignModel", "isInZone", "(II)Z"⟩, 18), (⟨"RiverCampaignModel", "isOn", "(II)Z"⟩, 18), (⟨"RiverCampaignModel", "entering", "(III)I"⟩, 18), (⟨"RiverCampaignModel", "cheapest", "()I"⟩, 18), (⟨"RiverCampaignModel", "canReach", "(II)Z"⟩, 18), (⟨"RiverCampaignModel", "moves", "(II)I"⟩, 18), (⟨"RiverCampaignModel", "refusesAttack", "(II)I"⟩, 18), (⟨"RiverCampaignModel", "canFight", "(II)Z"⟩, 18), (⟨"RiverCampaignModel", "fights", "(II)I"⟩, 18), (⟨"RiverCampaignModel", "power", "(II)I"⟩, 18), (⟨"RiverCampaignModel", "isSupplied", "(I)Z"⟩, 18), (⟨"RiverCampaignModel", "toSource", "(I)I"⟩, 18), (⟨"RiverCampaignModel", "isSource", "(II)Z"⟩, 18), (⟨"RiverCampaignModel", "isFree", "(II)Z"⟩, 18), (⟨"RiverCampaignModel", "defence", "(I)I"⟩, 18)]
theorem lw_r3 : ∀ q ∈ lw_privs_3, lw_okq q := List.forall_mem_cons.mpr ⟨lw_p32, List.forall_mem_cons.mpr ⟨lw_p33, List.forall_mem_cons.mpr ⟨lw_p34, List.forall_mem_cons.mpr ⟨lw_p35, List.forall_mem_cons.mpr ⟨lw_p36, List.forall_mem_cons.mpr ⟨lw_p37, List.forall_mem_cons.mpr ⟨lw_p38, List.forall_mem_cons.mpr ⟨lw_p39, List.forall_mem_cons.mpr ⟨lw_p40, List.forall_mem_cons.mpr ⟨lw_p41, List.forall_mem_cons.mpr ⟨lw_p42, List.forall_mem_cons.mpr ⟨lw_p43, List.forall_mem_cons.mpr ⟨lw_p44, List.forall_mem_cons.mpr ⟨lw_p45, List.forall_mem_cons.mpr ⟨lw_p46, List.forall_mem_cons.mpr ⟨lw_p47, fun _ h => absurd h List.not_mem_nil⟩⟩⟩⟩⟩⟩⟩⟩⟩⟩⟩⟩⟩⟩⟩⟩
theorem lw_p48 : lw_okq (⟨"RiverCampaignModel", "weakened", "(II)I"⟩, 18) := ⟨⟨by decide +kernel, by decide +kernel⟩, List.mem_of_getElem? (i := 641) (by decide +kernel), List.mem_of_getElem? (i := 854) (by decide +kernel), List.mem_of_getElem? (i := 855) (by decide +kernel)⟩
theorem lw_p49 : lw_okq (⟨"RiverCampaignModel", "ends", "()I"⟩, 18) := ⟨⟨by decide +kernel, by decide +kernel⟩, List.mem_of_getElem? (i := 641) (by decide +kernel), List.mem_of_getElem? (i := 862) (by decide +kernel), List.mem_of_getElem? (i := 863) (by decide +kernel)⟩
theorem lw_p50 : lw_okq (⟨"RiverCampaignModel", "reads", "()I"⟩, 18) := ⟨⟨by decide +kernel, by decide +kernel⟩, List.mem_of_getElem? (i := 641) (by decide +kernel), List.mem_of_getElem? (i := 878) (by decide +kernel), List.mem_of_getElem? (i := 879) (by decide +kernel)⟩
theorem lw_p51 : lw_okq (⟨"RiverCampaignModel", "readsOrder", "()V"⟩, 18) := ⟨⟨by decide +kernel, by decide +kernel⟩, List.mem_of_getElem? (i := 641) (by decide +kernel), List.mem_of_getElem? (i := 882) (by decide +kernel), List.mem_of_getElem? (i := 883) (by decide +kernel)⟩
theorem lw_p52 : lw_okq (⟨"RiverCampaignModel", "sign", "()I"⟩, 18) := ⟨⟨by decide +kernel, by decide +kernel⟩, List.mem_of_getElem? (i := 641) (by decide +kernel), List.mem_of_getElem? (i := 886) (by decide +kernel), List.mem_of_getElem? (i := 887) (by decide +kernel)⟩
theorem lw_p53 : lw_okq (⟨"RiverCampaignModel", "takes", "(II)I"⟩, 18) := ⟨⟨by decide +kernel, by decide +kernel⟩, List.mem_of_getElem? (i := 641) (by decide +kernel), List.mem_of_getElem? (i := 890) (by decide +kernel), List.mem_of_getElem? (i := 891) (by decide +kernel)⟩
theorem lw_p54 : lw_okq (⟨"RiverCampaignModel", "putAside", "()V"⟩, 18) := ⟨⟨by decide +kernel, by decide +kernel⟩, List.mem_of_getElem? (i := 641) (by decide +kernel), List.mem_of_getElem? (i := 894) (by decide +kernel), List.mem_of_getElem? (i := 895) (by decide +kernel)⟩
theorem lw_p55 : lw_okq (⟨"RiverCampaignModel", "does", "(I)I"⟩, 18) := ⟨⟨by decide +kernel, by decide +kernel⟩, List.mem_of_getElem? (i := 641) (by decide +kernel), List.mem_of_getElem? (i := 898) (by decide +kernel), List.mem_of_getElem? (i := 899) (by decide +kernel)⟩
theorem lw_p56 : lw_okq (⟨"RiverCampaignModel", "takeBack", "()V"⟩, 18) := ⟨⟨by decide +kernel, by decide +kernel⟩, List.mem_of_getElem? (i := 641) (by decide +kernel), List.mem_of_getElem? (i := 902) (by decide +kernel), List.mem_of_getElem? (i := 903) (by decide +kernel)⟩
theorem lw_p57 : lw_okq (⟨"RiverCampaignModel", "sees", "(II)Z"⟩, 18) := ⟨⟨by decide +kernel, by decide +kernel⟩, List.mem_of_getElem? (i := 641) (by decide +kernel), List.mem_of_getElem? (i := 922) (by decide +kernel), List.mem_of_getElem? (i := 923) (by decide +kernel)⟩
theorem lw_p58 : lw_okq (⟨"RiverCampaignModel", "laysDistances", "(I)V"⟩, 18) := ⟨⟨by decide +kernel, by decide +kernel⟩, List.mem_of_getElem? (i := 641) (by decide +kernel), List.mem_of_getElem? (i := 926) (by decide +kernel), List.mem_of_getElem? (i := 927) (by decide +kernel)⟩
theorem lw_p59 : lw_okq (⟨"RiverCampaignModel", "besides", "(I)I"⟩, 18) := ⟨⟨by decide +kernel, by decide +kernel⟩, List.mem_of_getElem? (i := 641) (by decide +kernel), List.mem_of_getElem? (i := 930) (by decide +kernel), List.mem_of_getElem? (i := 931) (by decide +kernel)⟩
theorem lw_p60 : lw_okq (⟨"RiverCampaignModel", "reaches", "(I)I"⟩, 18) := ⟨⟨by decide +kernel, by decide +kernel⟩, List.mem_of_getElem? (i := 641) (by decide +kernel), List.mem_of_getElem? (i := 946) (by decide +kernel), List.mem_of_getElem? (i := 947) (by decide +kernel)⟩
theorem lw_p61 : lw_okq (⟨"RiverCampaignModel", "unitsOf", "(II)I"⟩, 18) := ⟨⟨by decide +kernel, by decide +kernel⟩, List.mem_of_getElem? (i := 641) (by decide +kernel), List.mem_of_getElem? (i := 966) (by decide +kernel), List.mem_of_getElem? (i := 967) (by decide +kernel)⟩
theorem lw_p62 : lw_okq (⟨"RiverCampaignModel", "seen", "(I)I"⟩, 18) := ⟨⟨by decide +kernel, by decide +kernel⟩, List.mem_of_getElem? (i := 641) (by decide +kernel), List.mem_of_getElem? (i := 970) (by decide +kernel), List.mem_of_getElem? (i := 971) (by decide +kernel)⟩
def lw_privs_4 : List (MethodName × Nat) := [(⟨"RiverCampaignModel", "weakened", "(II)I"⟩, 18), (⟨"RiverCampaignModel", "ends", "()I"⟩, 18), (⟨"RiverCampaignModel", "reads", "()I"⟩, 18), (⟨"RiverCampaignModel", "readsOrder", "()V"⟩, 18), (⟨"RiverCampaignModel", "sign", "()I"⟩, 18), (⟨"RiverCampaignModel", "takes", "(II)I"⟩, 18), (⟨"RiverCampaignModel", "putAside", "()V"⟩, 18), (⟨"RiverCampaignModel", "does", "(I)I"⟩, 18), (⟨"RiverCampaignModel", "takeBack", "()V"⟩, 18), (⟨"RiverCampaignModel", "sees", "(II)Z"⟩, 18), (⟨"RiverCampaignModel", "laysDistances", "(I)V"⟩, 18), (⟨"RiverCampaignModel", "besides", "(I)I"⟩, 18), (⟨"RiverCampaignModel", "reaches", "(I)I"⟩, 18), (⟨"RiverCampaignModel", "unitsOf", "(II)I"⟩, 18), (⟨"RiverCampaignModel", "seen", "(I)I"⟩, 18)]
theorem lw_r4 : ∀ q ∈ lw_privs_4, lw_okq q := List.forall_mem_cons.mpr ⟨lw_p48, List.forall_mem_cons.mpr ⟨lw_p49, List.forall_mem_cons.mpr ⟨lw_p50, List.forall_mem_cons.mpr ⟨lw_p51, List.forall_mem_cons.mpr ⟨lw_p52, List.forall_mem_cons.mpr ⟨lw_p53, List.forall_mem_cons.mpr ⟨lw_p54, List.forall_mem_cons.mpr ⟨lw_p55, List.forall_mem_cons.mpr ⟨lw_p56, List.forall_mem_cons.mpr ⟨lw_p57, List.forall_mem_cons.mpr ⟨lw_p58, List.forall_mem_cons.mpr ⟨lw_p59, List.forall_mem_cons.mpr ⟨lw_p60, List.forall_mem_cons.mpr ⟨lw_p61, List.forall_mem_cons.mpr ⟨lw_p62, fun _ h => absurd h List.not_mem_nil⟩⟩⟩⟩⟩⟩⟩⟩⟩⟩⟩⟩⟩⟩⟩
def lw_privs : List (MethodName × Nat) := lw_privs_1 ++ (lw_privs_2 ++ (lw_privs_3 ++ (lw_privs_4)))
def lw_tbl : List Cond := k2_sels lw_privs ++ tables_1
theorem lw_privs_ok : ∀ q ∈ lw_privs, lw_okq q := by
  show ∀ q ∈ lw_privs_1 ++ (lw_privs_2 ++ (lw_privs_3 ++ (lw_privs_4))), lw_okq q
  exact List.forall_mem_append.mpr ⟨lw_r1, List.forall_mem_append.mpr ⟨lw_r2, List.forall_mem_append.mpr ⟨lw_r3, lw_r4⟩⟩⟩
-- ===== end of PART A
end
section
/-! ===== BEGIN words of one list among another's, by their places ===== -/
theorem goodIn_r {big : List Cond} (ws : List Cond) (ps : List Nat) (hp : ws = ps.filterMap (fun i => big[i]?)) (h : ws.all goodWord = true) : GoodIn big ws := by
  intro w hw
  have h1 := List.all_eq_true.mp h w hw
  rw [hp] at hw
  obtain ⟨i, -, hi⟩ := List.mem_filterMap.mp hw
  have hm : w ∈ big := by first | exact List.mem_of_getElem? hi | exact List.getElem?_mem hi
  exact ⟨hm, good_of_word h1⟩
theorem goodIn_app {big a b : List Cond} (ha : GoodIn big a) (hb : GoodIn big b) : GoodIn big (a ++ b) := fun w h => (List.mem_append.mp h).elim (ha w) (hb w)
theorem goodIn_ca {big a b : List Cond} {c : Cond} (ha : GoodIn big (c :: a)) (hb : GoodIn big b) : GoodIn big (c :: (a ++ b)) := fun w h => (List.mem_cons.mp h).elim (fun e => ha w (List.mem_cons.mpr (Or.inl e))) (fun h => (List.mem_append.mp h).elim (fun h => ha w (List.mem_cons.mpr (Or.inr h))) (hb w))
theorem goodIn_sub {big ws : List Cond} (hm : ∀ w ∈ ws, w ∈ big) (h : ws.all goodWord = true) : GoodIn big ws := fun w hw => ⟨hm w hw, good_of_word (List.all_eq_true.mp h w hw)⟩
/-! ===== END ===== -/

/-! ===== BEGIN printed: names, fields, word lists, decode rows ===== -/
def RX0 : String := "RiverCampaign$Board"
def TX0 : u_T := fun k => match k with
  | _ => ("RiverCampaign$Board", "neighbours", "[I", true)
def tyX0 : Nat → FieldType := fun k => match k with
  | _ => .array .int
abbrev wsX00 : List Cond := u_ws RX0 TX0 1
theorem nmX0 : ∀ a, a < 1 → ∀ b, b < 1 → a ≠ b → (TX0 a).2.1 ≠ (TX0 b).2.1 := by decide +kernel
theorem tyX0_ok : ∀ k, k < 1 → parseFieldDescriptor (TX0 k).2.2.1 = some (tyX0 k) := by decide +kernel
abbrev cX0_init : ByteArray := prog_2_method_1_code
def yX0_init : MethodName := ⟨RX0, "<init>", "()V"⟩
abbrev cX0_isHex : ByteArray := prog_2_method_2_code
def yX0_isHex : MethodName := ⟨RX0, "isHex", "(I)Z"⟩
abbrev cX0_isDirection : ByteArray := prog_2_method_3_code
def yX0_isDirection : MethodName := ⟨RX0, "isDirection", "(I)Z"⟩
abbrev cX0_opposite : ByteArray := prog_2_method_4_code
def yX0_opposite : MethodName := ⟨RX0, "opposite", "(I)I"⟩
abbrev cX0_stepFrom : ByteArray := prog_2_method_5_code
def yX0_stepFrom : MethodName := ⟨RX0, "stepFrom", "(II)I"⟩
abbrev cX0_stepsBetween : ByteArray := prog_2_method_6_code
def yX0_stepsBetween : MethodName := ⟨RX0, "stepsBetween", "(II)I"⟩
abbrev cX0_slantOf : ByteArray := prog_2_method_7_code
def yX0_slantOf : MethodName := ⟨RX0, "slantOf", "(I)I"⟩
abbrev cX0_neighbourCount : ByteArray := prog_2_method_8_code
def yX0_neighbourCount : MethodName := ⟨RX0, "neighbourCount", "(I)I"⟩
abbrev cX0_directionTo : ByteArray := prog_2_method_9_code
def yX0_directionTo : MethodName := ⟨RX0, "directionTo", "(II)I"⟩
def RX1 : String := "RiverCampaign$Fight"
def TX1 : u_T := fun k => match k with
  | 0 => ("RiverCampaign$Fight", "board", "LRiverCampaign$Board;", true)
  | 1 => ("RiverCampaign$Fight", "supply", "LRiverCampaign$Supply;", true)
  | 2 => ("RiverCampaign$Fight", "attackPower", "I", false)
  | 3 => ("RiverCampaign$Fight", "defencePower", "I", false)
  | 4 => ("RiverCampaign$Fight", "attackerLeft", "I", false)
  | _ => ("RiverCampaign$Fight", "defenderLeft", "I", false)
def tyX1 : Nat → FieldType := fun k => match k with
  | 0 => .object "RiverCampaign$Board"
  | 1 => .object "RiverCampaign$Supply"
  | 2 => .int
  | 3 => .int
  | 4 => .int
  | _ => .int
abbrev wsX10 : List Cond := u_ws RX1 TX1 6
theorem nmX1 : ∀ a, a < 6 → ∀ b, b < 6 → a ≠ b → (TX1 a).2.1 ≠ (TX1 b).2.1 := by decide +kernel
theorem tyX1_ok : ∀ k, k < 6 → parseFieldDescriptor (TX1 k).2.2.1 = some (tyX1 k) := by decide +kernel
abbrev cX1_init : ByteArray := prog_3_method_1_code
def yX1_init : MethodName := ⟨RX1, "<init>", "(LRiverCampaign$Board;LRiverCampaign$Supply;)V"⟩
abbrev cX1_weigh : ByteArray := prog_3_method_2_code
def yX1_weigh : MethodName := ⟨RX1, "weigh", "(LRiverCampaign$State;II)V"⟩
abbrev cX1_powerOfAttack : ByteArray := prog_3_method_3_code
def yX1_powerOfAttack : MethodName := ⟨RX1, "powerOfAttack", "(LRiverCampaign$State;II)I"⟩
abbrev cX1_powerOfDefence : ByteArray := prog_3_method_4_code
def yX1_powerOfDefence : MethodName := ⟨RX1, "powerOfDefence", "(LRiverCampaign$State;I)I"⟩
def RX2 : String := "RiverCampaign$History"
def TX2 : u_T := fun k => match k with
  | 0 => ("RiverCampaign$History", "states", "[LRiverCampaign$State;", true)
  | 1 => ("RiverCampaign$History", "next", "I", false)
  | _ => ("RiverCampaign$History", "size", "I", false)
def tyX2 : Nat → FieldType := fun k => match k with
  | 0 => .array (.object "RiverCampaign$State")
  | 1 => .int
  | _ => .int
abbrev wsX20 : List Cond := u_ws RX2 TX2 3
theorem nmX2 : ∀ a, a < 3 → ∀ b, b < 3 → a ≠ b → (TX2 a).2.1 ≠ (TX2 b).2.1 := by decide +kernel
theorem tyX2_ok : ∀ k, k < 3 → parseFieldDescriptor (TX2 k).2.2.1 = some (tyX2 k) := by decide +kernel
abbrev cX2_init : ByteArray := prog_4_method_1_code
def yX2_init : MethodName := ⟨RX2, "<init>", "(LRiverCampaign$Board;)V"⟩
abbrev cX2_record : ByteArray := prog_4_method_2_code
def yX2_record : MethodName := ⟨RX2, "record", "(LRiverCampaign$State;)V"⟩
abbrev cX2_takeBack : ByteArray := prog_4_method_3_code
def yX2_takeBack : MethodName := ⟨RX2, "takeBack", "(LRiverCampaign$State;)Z"⟩
def RX3 : String := "RiverCampaign$Orders"
def TX3 : u_T := fun k => match k with
  | 0 => ("RiverCampaign$Orders", "text", "[C", true)
  | 1 => ("RiverCampaign$Orders", "length", "I", false)
  | 2 => ("RiverCampaign$Orders", "count", "I", false)
  | 3 => ("RiverCampaign$Orders", "signs", "[C", true)
  | 4 => ("RiverCampaign$Orders", "units", "[I", true)
  | 5 => ("RiverCampaign$Orders", "hexes", "[I", true)
  | 6 => ("RiverCampaign$Orders", "unitRead", "I", false)
  | 7 => ("RiverCampaign$Orders", "signRead", "C", false)
  | _ => ("RiverCampaign$Orders", "columnRead", "I", false)
def tyX3 : Nat → FieldType := fun k => match k with
  | 0 => .array .char
  | 1 => .int
  | 2 => .int
  | 3 => .array .char
  | 4 => .array .int
  | 5 => .array .int
  | 6 => .int
  | 7 => .char
  | _ => .int
abbrev wsX30 : List Cond := u_ws RX3 TX3 9
theorem nmX3 : ∀ a, a < 9 → ∀ b, b < 9 → a ≠ b → (TX3 a).2.1 ≠ (TX3 b).2.1 := by decide +kernel
theorem tyX3_ok : ∀ k, k < 9 → parseFieldDescriptor (TX3 k).2.2.1 = some (tyX3 k) := by decide +kernel
abbrev cX3_init : ByteArray := prog_5_method_1_code
def yX3_init : MethodName := ⟨RX3, "<init>", "()V"⟩
abbrev cX3_append : ByteArray := prog_5_method_2_code
def yX3_append : MethodName := ⟨RX3, "append", "(C)Z"⟩
abbrev cX3_read : ByteArray := prog_5_method_3_code
def yX3_read : MethodName := ⟨RX3, "read", "()I"⟩
abbrev cX3_stageAfter : ByteArray := prog_5_method_4_code
def yX3_stageAfter : MethodName := ⟨RX3, "stageAfter", "(IC)I"⟩
abbrev cX3_isIn : ByteArray := prog_5_method_5_code
def yX3_isIn : MethodName := ⟨RX3, "isIn", "(CCC)Z"⟩
abbrev cX3_readFirst : ByteArray := prog_5_method_6_code
def yX3_readFirst : MethodName := ⟨RX3, "readFirst", "(C)I"⟩
abbrev cX3_readUnit : ByteArray := prog_5_method_7_code
def yX3_readUnit : MethodName := ⟨RX3, "readUnit", "(I)I"⟩
abbrev cX3_readSign : ByteArray := prog_5_method_8_code
def yX3_readSign : MethodName := ⟨RX3, "readSign", "(C)I"⟩
abbrev cX3_readColumn : ByteArray := prog_5_method_9_code
def yX3_readColumn : MethodName := ⟨RX3, "readColumn", "(C)I"⟩
abbrev cX3_readRow : ByteArray := prog_5_method_10_code
def yX3_readRow : MethodName := ⟨RX3, "readRow", "(C)I"⟩
abbrev cX3_addOrder : ByteArray := prog_5_method_11_code
def yX3_addOrder : MethodName := ⟨RX3, "addOrder", "(I)I"⟩
def RX4 : String := "RiverCampaign$State"
def TX4 : u_T := fun k => match k with
  | 0 => ("RiverCampaign$State", "board", "LRiverCampaign$Board;", true)
  | 1 => ("RiverCampaign$State", "grounds", "[I", true)
  | 2 => ("RiverCampaign$State", "rivers", "[I", true)
  | 3 => ("RiverCampaign$State", "forts", "[I", true)
  | 4 => ("RiverCampaign$State", "unitOn", "[I", true)
  | 5 => ("RiverCampaign$State", "bases", "[I", true)
  | 6 => ("RiverCampaign$State", "units", "I", false)
  | 7 => ("RiverCampaign$State", "sides", "[I", true)
  | 8 => ("RiverCampaign$State", "strengths", "[I", true)
  | 9 => ("RiverCampaign$State", "hexes", "[I", true)
  | 10 => ("RiverCampaign$State", "points", "[I", true)
  | 11 => ("RiverCampaign$State", "attacksLeft", "[I", true)
  | 12 => ("RiverCampaign$State", "starved", "[I", true)
  | _ => ("RiverCampaign$State", "turns", "I", false)
def tyX4 : Nat → FieldType := fun k => match k with
  | 0 => .object "RiverCampaign$Board"
  | 1 => .array .int
  | 2 => .array .int
  | 3 => .array .int
  | 4 => .array .int
  | 5 => .array .int
  | 6 => .int
  | 7 => .array .int
  | 8 => .array .int
  | 9 => .array .int
  | 10 => .array .int
  | 11 => .array .int
  | 12 => .array .int
  | _ => .int
abbrev wsX40 : List Cond := u_ws RX4 TX4 14
theorem nmX4 : ∀ a, a < 14 → ∀ b, b < 14 → a ≠ b → (TX4 a).2.1 ≠ (TX4 b).2.1 := by decide +kernel
theorem tyX4_ok : ∀ k, k < 14 → parseFieldDescriptor (TX4 k).2.2.1 = some (tyX4 k) := by decide +kernel
abbrev cX4_init : ByteArray := prog_6_method_1_code
def yX4_init : MethodName := ⟨RX4, "<init>", "(LRiverCampaign$Board;)V"⟩
abbrev cX4_copyFrom : ByteArray := prog_6_method_2_code
def yX4_copyFrom : MethodName := ⟨RX4, "copyFrom", "(LRiverCampaign$State;)V"⟩
abbrev cX4_sideInTurn : ByteArray := prog_6_method_3_code
def yX4_sideInTurn : MethodName := ⟨RX4, "sideInTurn", "()I"⟩
abbrev cX4_isUnit : ByteArray := prog_6_method_4_code
def yX4_isUnit : MethodName := ⟨RX4, "isUnit", "(I)Z"⟩
abbrev cX4_isUnitOf : ByteArray := prog_6_method_5_code
def yX4_isUnitOf : MethodName := ⟨RX4, "isUnitOf", "(II)Z"⟩
abbrev cX4_sideOn : ByteArray := prog_6_method_6_code
def yX4_sideOn : MethodName := ⟨RX4, "sideOn", "(I)I"⟩
abbrev cX4_hasFort : ByteArray := prog_6_method_7_code
def yX4_hasFort : MethodName := ⟨RX4, "hasFort", "(I)Z"⟩
abbrev cX4_hasRiver : ByteArray := prog_6_method_8_code
def yX4_hasRiver : MethodName := ⟨RX4, "hasRiver", "(II)Z"⟩
abbrev cX4_addUnit : ByteArray := prog_6_method_9_code
def yX4_addUnit : MethodName := ⟨RX4, "addUnit", "(III)I"⟩
abbrev cX4_shift : ByteArray := prog_6_method_10_code
def yX4_shift : MethodName := ⟨RX4, "shift", "(II)V"⟩
abbrev cX4_stand : ByteArray := prog_6_method_11_code
def yX4_stand : MethodName := ⟨RX4, "stand", "(II)V"⟩
abbrev cX4_giveFortToUnit : ByteArray := prog_6_method_12_code
def yX4_giveFortToUnit : MethodName := ⟨RX4, "giveFortToUnit", "(I)V"⟩
abbrev cX4_setStrength : ByteArray := prog_6_method_13_code
def yX4_setStrength : MethodName := ⟨RX4, "setStrength", "(II)V"⟩
abbrev cX4_refresh : ByteArray := prog_6_method_14_code
def yX4_refresh : MethodName := ⟨RX4, "refresh", "(I)V"⟩
abbrev cX4_inZone : ByteArray := prog_6_method_15_code
def yX4_inZone : MethodName := ⟨RX4, "inZone", "(II)Z"⟩
abbrev cX4_isSeen : ByteArray := prog_6_method_16_code
def yX4_isSeen : MethodName := ⟨RX4, "isSeen", "(II)Z"⟩
abbrev cX4_isSeenByUnit : ByteArray := prog_6_method_17_code
def yX4_isSeenByUnit : MethodName := ⟨RX4, "isSeenByUnit", "(II)Z"⟩
abbrev cX4_isSeenByFort : ByteArray := prog_6_method_18_code
def yX4_isSeenByFort : MethodName := ⟨RX4, "isSeenByFort", "(II)Z"⟩
abbrev cX4_seenCount : ByteArray := prog_6_method_19_code
def yX4_seenCount : MethodName := ⟨RX4, "seenCount", "(I)I"⟩
abbrev cX4_unitCount : ByteArray := prog_6_method_20_code
def yX4_unitCount : MethodName := ⟨RX4, "unitCount", "(I)I"⟩
abbrev cX4_strengthOf : ByteArray := prog_6_method_21_code
def yX4_strengthOf : MethodName := ⟨RX4, "strengthOf", "(I)I"⟩
abbrev cX4_fortCount : ByteArray := prog_6_method_22_code
def yX4_fortCount : MethodName := ⟨RX4, "fortCount", "(I)I"⟩
abbrev cX4_riverCount : ByteArray := prog_6_method_23_code
def yX4_riverCount : MethodName := ⟨RX4, "riverCount", "()I"⟩
def RX5 : String := "RiverCampaign$Supply"
def TX5 : u_T := fun k => match k with
  | 0 => ("RiverCampaign$Supply", "board", "LRiverCampaign$Board;", true)
  | 1 => ("RiverCampaign$Supply", "steps", "[I", true)
  | _ => ("RiverCampaign$Supply", "free", "[Z", true)
def tyX5 : Nat → FieldType := fun k => match k with
  | 0 => .object "RiverCampaign$Board"
  | 1 => .array .int
  | _ => .array .boolean
abbrev wsX50 : List Cond := u_ws RX5 TX5 3
theorem nmX5 : ∀ a, a < 3 → ∀ b, b < 3 → a ≠ b → (TX5 a).2.1 ≠ (TX5 b).2.1 := by decide +kernel
theorem tyX5_ok : ∀ k, k < 3 → parseFieldDescriptor (TX5 k).2.2.1 = some (tyX5 k) := by decide +kernel
abbrev cX5_init : ByteArray := prog_7_method_1_code
def yX5_init : MethodName := ⟨RX5, "<init>", "(LRiverCampaign$Board;)V"⟩
abbrev cX5_measure : ByteArray := prog_7_method_2_code
def yX5_measure : MethodName := ⟨RX5, "measure", "(LRiverCampaign$State;I)V"⟩
abbrev cX5_spread : ByteArray := prog_7_method_3_code
def yX5_spread : MethodName := ⟨RX5, "spread", "(I)V"⟩
abbrev cX5_isFree : ByteArray := prog_7_method_4_code
def yX5_isFree : MethodName := ⟨RX5, "isFree", "(LRiverCampaign$State;II)Z"⟩
abbrev cX5_reaches : ByteArray := prog_7_method_5_code
def yX5_reaches : MethodName := ⟨RX5, "reaches", "(I)Z"⟩
def RX6 : String := "RiverCampaign$Ways"
def TX6 : u_T := fun k => match k with
  | 0 => ("RiverCampaign$Ways", "board", "LRiverCampaign$Board;", true)
  | _ => ("RiverCampaign$Ways", "costs", "[I", true)
def tyX6 : Nat → FieldType := fun k => match k with
  | 0 => .object "RiverCampaign$Board"
  | _ => .array .int
abbrev wsX60 : List Cond := u_ws RX6 TX6 2
theorem nmX6 : ∀ a, a < 2 → ∀ b, b < 2 → a ≠ b → (TX6 a).2.1 ≠ (TX6 b).2.1 := by decide +kernel
theorem tyX6_ok : ∀ k, k < 2 → parseFieldDescriptor (TX6 k).2.2.1 = some (tyX6 k) := by decide +kernel
abbrev cX6_init : ByteArray := prog_8_method_1_code
def yX6_init : MethodName := ⟨RX6, "<init>", "(LRiverCampaign$Board;)V"⟩
abbrev cX6_measure : ByteArray := prog_8_method_2_code
def yX6_measure : MethodName := ⟨RX6, "measure", "(LRiverCampaign$State;I)V"⟩
abbrev cX6_goOn : ByteArray := prog_8_method_3_code
def yX6_goOn : MethodName := ⟨RX6, "goOn", "(LRiverCampaign$State;II)V"⟩
abbrev cX6_costOfStep : ByteArray := prog_8_method_4_code
def yX6_costOfStep : MethodName := ⟨RX6, "costOfStep", "(LRiverCampaign$State;III)I"⟩
abbrev cX6_canEndOn : ByteArray := prog_8_method_5_code
def yX6_canEndOn : MethodName := ⟨RX6, "canEndOn", "(LRiverCampaign$State;I)Z"⟩
abbrev cX6_endCount : ByteArray := prog_8_method_6_code
def yX6_endCount : MethodName := ⟨RX6, "endCount", "(LRiverCampaign$State;)I"⟩
def RX7 : String := "RiverCampaign"
def TX7 : u_T := fun k => match k with
  | 0 => ("RiverCampaign", "board", "LRiverCampaign$Board;", true)
  | 1 => ("RiverCampaign", "now", "LRiverCampaign$State;", true)
  | 2 => ("RiverCampaign", "past", "LRiverCampaign$State;", true)
  | 3 => ("RiverCampaign", "snapshot", "LRiverCampaign$State;", true)
  | 4 => ("RiverCampaign", "hasSnapshot", "Z", false)
  | 5 => ("RiverCampaign", "history", "LRiverCampaign$History;", true)
  | 6 => ("RiverCampaign", "orders", "LRiverCampaign$Orders;", true)
  | 7 => ("RiverCampaign", "ways", "LRiverCampaign$Ways;", true)
  | 8 => ("RiverCampaign", "supply", "LRiverCampaign$Supply;", true)
  | _ => ("RiverCampaign", "fight", "LRiverCampaign$Fight;", true)
def tyX7 : Nat → FieldType := fun k => match k with
  | 0 => .object "RiverCampaign$Board"
  | 1 => .object "RiverCampaign$State"
  | 2 => .object "RiverCampaign$State"
  | 3 => .object "RiverCampaign$State"
  | 4 => .boolean
  | 5 => .object "RiverCampaign$History"
  | 6 => .object "RiverCampaign$Orders"
  | 7 => .object "RiverCampaign$Ways"
  | 8 => .object "RiverCampaign$Supply"
  | _ => .object "RiverCampaign$Fight"
abbrev wsX70 : List Cond := u_ws RX7 TX7 10
theorem nmX7 : ∀ a, a < 10 → ∀ b, b < 10 → a ≠ b → (TX7 a).2.1 ≠ (TX7 b).2.1 := by decide +kernel
theorem tyX7_ok : ∀ k, k < 10 → parseFieldDescriptor (TX7 k).2.2.1 = some (tyX7 k) := by decide +kernel
abbrev cX7_init : ByteArray := prog_1_method_1_code
def yX7_init : MethodName := ⟨RX7, "<init>", "()V"⟩
abbrev cX7_ground : ByteArray := prog_1_method_2_code
def yX7_ground : MethodName := ⟨RX7, "ground", "(II)I"⟩
abbrev cX7_river : ByteArray := prog_1_method_3_code
def yX7_river : MethodName := ⟨RX7, "river", "(IIZ)I"⟩
abbrev cX7_fort : ByteArray := prog_1_method_4_code
def yX7_fort : MethodName := ⟨RX7, "fort", "(II)I"⟩
abbrev cX7_base : ByteArray := prog_1_method_5_code
def yX7_base : MethodName := ⟨RX7, "base", "(II)I"⟩
abbrev cX7_place : ByteArray := prog_1_method_6_code
def yX7_place : MethodName := ⟨RX7, "place", "(III)I"⟩
abbrev cX7_move : ByteArray := prog_1_method_7_code
def yX7_move : MethodName := ⟨RX7, "move", "(II)I"⟩
abbrev cX7_attack : ByteArray := prog_1_method_8_code
def yX7_attack : MethodName := ⟨RX7, "attack", "(II)I"⟩
abbrev cX7_endTurn : ByteArray := prog_1_method_9_code
def yX7_endTurn : MethodName := ⟨RX7, "endTurn", "()I"⟩
abbrev cX7_perform : ByteArray := prog_1_method_10_code
def yX7_perform : MethodName := ⟨RX7, "perform", "()I"⟩
abbrev cX7_recordedIfDone : ByteArray := prog_1_method_11_code
def yX7_recordedIfDone : MethodName := ⟨RX7, "recordedIfDone", "(I)I"⟩
abbrev cX7_moveUnit : ByteArray := prog_1_method_12_code
def yX7_moveUnit : MethodName := ⟨RX7, "moveUnit", "(II)I"⟩
abbrev cX7_strike : ByteArray := prog_1_method_13_code
def yX7_strike : MethodName := ⟨RX7, "strike", "(II)I"⟩
abbrev cX7_canFight : ByteArray := prog_1_method_14_code
def yX7_canFight : MethodName := ⟨RX7, "canFight", "(II)Z"⟩
abbrev cX7_finishTurn : ByteArray := prog_1_method_15_code
def yX7_finishTurn : MethodName := ⟨RX7, "finishTurn", "()I"⟩
abbrev cX7_starve : ByteArray := prog_1_method_16_code
def yX7_starve : MethodName := ⟨RX7, "starve", "(I)I"⟩
abbrev cX7_type : ByteArray := prog_1_method_17_code
def yX7_type : MethodName := ⟨RX7, "type", "(C)I"⟩
abbrev cX7_clearText : ByteArray := prog_1_method_18_code
def yX7_clearText : MethodName := ⟨RX7, "clearText", "()I"⟩
abbrev cX7_undo : ByteArray := prog_1_method_19_code
def yX7_undo : MethodName := ⟨RX7, "undo", "()I"⟩
abbrev cX7_keep : ByteArray := prog_1_method_20_code
def yX7_keep : MethodName := ⟨RX7, "keep", "()I"⟩
abbrev cX7_restore : ByteArray := prog_1_method_21_code
def yX7_restore : MethodName := ⟨RX7, "restore", "()I"⟩
abbrev cX7_hex : ByteArray := prog_1_method_22_code
def yX7_hex : MethodName := ⟨RX7, "hex", "(II)I"⟩
abbrev cX7_beside : ByteArray := prog_1_method_23_code
def yX7_beside : MethodName := ⟨RX7, "beside", "(II)I"⟩
abbrev cX7_distance : ByteArray := prog_1_method_24_code
def yX7_distance : MethodName := ⟨RX7, "distance", "(II)I"⟩
abbrev cX7_unit : ByteArray := prog_1_method_25_code
def yX7_unit : MethodName := ⟨RX7, "unit", "(II)I"⟩
abbrev cX7_cost : ByteArray := prog_1_method_26_code
def yX7_cost : MethodName := ⟨RX7, "cost", "(II)I"⟩
abbrev cX7_would : ByteArray := prog_1_method_27_code
def yX7_would : MethodName := ⟨RX7, "would", "(III)I"⟩
abbrev cX7_besieged : ByteArray := prog_1_method_28_code
def yX7_besieged : MethodName := ⟨RX7, "besieged", "(I)I"⟩
abbrev cX7_count : ByteArray := prog_1_method_29_code
def yX7_count : MethodName := ⟨RX7, "count", "(I)I"⟩
abbrev cX7_isSide : ByteArray := prog_1_method_30_code
def yX7_isSide : MethodName := ⟨RX7, "isSide", "(I)Z"⟩
abbrev cX7_oneIf : ByteArray := prog_1_method_31_code
def yX7_oneIf : MethodName := ⟨RX7, "oneIf", "(Z)I"⟩
def RX8 : String := "RiverCampaignModel"
def TX8 : u_T := fun k => match k with
  | 0 => ("RiverCampaignModel", "thrown", "I", false)
  | 1 => ("RiverCampaignModel", "s", "[I", true)
  | 2 => ("RiverCampaignModel", "aside", "[I", true)
  | 3 => ("RiverCampaignModel", "saved", "[I", true)
  | 4 => ("RiverCampaignModel", "savedMany", "I", false)
  | 5 => ("RiverCampaignModel", "snapshot", "[I", true)
  | 6 => ("RiverCampaignModel", "hasSnapshot", "Z", false)
  | 7 => ("RiverCampaignModel", "text", "[I", true)
  | 8 => ("RiverCampaignModel", "length", "I", false)
  | 9 => ("RiverCampaignModel", "costs", "[I", true)
  | 10 => ("RiverCampaignModel", "isDone", "[Z", true)
  | 11 => ("RiverCampaignModel", "steps", "[I", true)
  | 12 => ("RiverCampaignModel", "isZone", "[Z", true)
  | 13 => ("RiverCampaignModel", "starves", "[Z", true)
  | 14 => ("RiverCampaignModel", "at", "I", false)
  | 15 => ("RiverCampaignModel", "isWell", "Z", false)
  | 16 => ("RiverCampaignModel", "orders", "[I", true)
  | _ => ("RiverCampaignModel", "orderMany", "I", false)
def tyX8 : Nat → FieldType := fun k => match k with
  | 0 => .int
  | 1 => .array .int
  | 2 => .array .int
  | 3 => .array .int
  | 4 => .int
  | 5 => .array .int
  | 6 => .boolean
  | 7 => .array .int
  | 8 => .int
  | 9 => .array .int
  | 10 => .array .boolean
  | 11 => .array .int
  | 12 => .array .boolean
  | 13 => .array .boolean
  | 14 => .int
  | 15 => .boolean
  | 16 => .array .int
  | _ => .int
abbrev wsX80 : List Cond := u_ws RX8 TX8 18
theorem nmX8 : ∀ a, a < 18 → ∀ b, b < 18 → a ≠ b → (TX8 a).2.1 ≠ (TX8 b).2.1 := by decide +kernel
theorem tyX8_ok : ∀ k, k < 18 → parseFieldDescriptor (TX8 k).2.2.1 = some (tyX8 k) := by decide +kernel
abbrev cX8_init : ByteArray := prog_10_method_1_code
def yX8_init : MethodName := ⟨RX8, "<init>", "()V"⟩
abbrev cX8_in : ByteArray := prog_10_method_3_code
def yX8_in : MethodName := ⟨RX8, "in", "(III)Z"⟩
abbrev cX8_isHex : ByteArray := prog_10_method_4_code
def yX8_isHex : MethodName := ⟨RX8, "isHex", "(I)Z"⟩
abbrev cX8_of : ByteArray := prog_10_method_5_code
def yX8_of : MethodName := ⟨RX8, "of", "(II)I"⟩
abbrev cX8_lay : ByteArray := prog_10_method_6_code
def yX8_lay : MethodName := ⟨RX8, "lay", "(III)V"⟩
abbrev cX8_isUnit : ByteArray := prog_10_method_7_code
def yX8_isUnit : MethodName := ⟨RX8, "isUnit", "(I)Z"⟩
abbrev cX8_records : ByteArray := prog_10_method_8_code
def yX8_records : MethodName := ⟨RX8, "records", "()V"⟩
abbrev cX8_putAside : ByteArray := prog_10_method_9_code
def yX8_putAside : MethodName := ⟨RX8, "putAside", "()V"⟩
abbrev cX8_takeBack : ByteArray := prog_10_method_10_code
def yX8_takeBack : MethodName := ⟨RX8, "takeBack", "()V"⟩
abbrev cX8_next : ByteArray := prog_10_method_11_code
def yX8_next : MethodName := ⟨RX8, "next", "(II)I"⟩
abbrev cX8_directionTo : ByteArray := prog_10_method_12_code
def yX8_directionTo : MethodName := ⟨RX8, "directionTo", "(II)I"⟩
abbrev cX8_hasRiver : ByteArray := prog_10_method_13_code
def yX8_hasRiver : MethodName := ⟨RX8, "hasRiver", "(II)Z"⟩
abbrev cX8_unitOn : ByteArray := prog_10_method_14_code
def yX8_unitOn : MethodName := ⟨RX8, "unitOn", "(I)I"⟩
abbrev cX8_isOn : ByteArray := prog_10_method_15_code
def yX8_isOn : MethodName := ⟨RX8, "isOn", "(II)Z"⟩
abbrev cX8_isInZone : ByteArray := prog_10_method_16_code
def yX8_isInZone : MethodName := ⟨RX8, "isInZone", "(II)Z"⟩
abbrev cX8_laysZone : ByteArray := prog_10_method_17_code
def yX8_laysZone : MethodName := ⟨RX8, "laysZone", "(I)V"⟩
abbrev cX8_laysDistances : ByteArray := prog_10_method_18_code
def yX8_laysDistances : MethodName := ⟨RX8, "laysDistances", "(I)V"⟩
abbrev cX8_stands : ByteArray := prog_10_method_19_code
def yX8_stands : MethodName := ⟨RX8, "stands", "(II)V"⟩
abbrev cX8_entering : ByteArray := prog_10_method_20_code
def yX8_entering : MethodName := ⟨RX8, "entering", "(III)I"⟩
abbrev cX8_laysWays : ByteArray := prog_10_method_21_code
def yX8_laysWays : MethodName := ⟨RX8, "laysWays", "(I)V"⟩
abbrev cX8_cheapest : ByteArray := prog_10_method_22_code
def yX8_cheapest : MethodName := ⟨RX8, "cheapest", "()I"⟩
abbrev cX8_canReach : ByteArray := prog_10_method_23_code
def yX8_canReach : MethodName := ⟨RX8, "canReach", "(II)Z"⟩
abbrev cX8_isSource : ByteArray := prog_10_method_24_code
def yX8_isSource : MethodName := ⟨RX8, "isSource", "(II)Z"⟩
abbrev cX8_isFree : ByteArray := prog_10_method_25_code
def yX8_isFree : MethodName := ⟨RX8, "isFree", "(II)Z"⟩
abbrev cX8_toSource : ByteArray := prog_10_method_26_code
def yX8_toSource : MethodName := ⟨RX8, "toSource", "(I)I"⟩
abbrev cX8_isSupplied : ByteArray := prog_10_method_27_code
def yX8_isSupplied : MethodName := ⟨RX8, "isSupplied", "(I)Z"⟩
abbrev cX8_sees : ByteArray := prog_10_method_28_code
def yX8_sees : MethodName := ⟨RX8, "sees", "(II)Z"⟩
abbrev cX8_power : ByteArray := prog_10_method_29_code
def yX8_power : MethodName := ⟨RX8, "power", "(II)I"⟩
abbrev cX8_defence : ByteArray := prog_10_method_30_code
def yX8_defence : MethodName := ⟨RX8, "defence", "(I)I"⟩
abbrev cX8_weakened : ByteArray := prog_10_method_31_code
def yX8_weakened : MethodName := ⟨RX8, "weakened", "(II)I"⟩
abbrev cX8_canFight : ByteArray := prog_10_method_32_code
def yX8_canFight : MethodName := ⟨RX8, "canFight", "(II)Z"⟩
abbrev cX8_fights : ByteArray := prog_10_method_33_code
def yX8_fights : MethodName := ⟨RX8, "fights", "(II)I"⟩
abbrev cX8_ground : ByteArray := prog_10_method_34_code
def yX8_ground : MethodName := ⟨RX8, "ground", "(II)I"⟩
abbrev cX8_rivers : ByteArray := prog_10_method_35_code
def yX8_rivers : MethodName := ⟨RX8, "rivers", "()I"⟩
abbrev cX8_river : ByteArray := prog_10_method_36_code
def yX8_river : MethodName := ⟨RX8, "river", "(IIZ)I"⟩
abbrev cX8_forts : ByteArray := prog_10_method_37_code
def yX8_forts : MethodName := ⟨RX8, "forts", "(I)I"⟩
abbrev cX8_fort : ByteArray := prog_10_method_38_code
def yX8_fort : MethodName := ⟨RX8, "fort", "(II)I"⟩
abbrev cX8_base : ByteArray := prog_10_method_39_code
def yX8_base : MethodName := ⟨RX8, "base", "(II)I"⟩
abbrev cX8_place : ByteArray := prog_10_method_40_code
def yX8_place : MethodName := ⟨RX8, "place", "(III)I"⟩
abbrev cX8_isAtTurn : ByteArray := prog_10_method_41_code
def yX8_isAtTurn : MethodName := ⟨RX8, "isAtTurn", "(I)Z"⟩
abbrev cX8_refusesMove : ByteArray := prog_10_method_42_code
def yX8_refusesMove : MethodName := ⟨RX8, "refusesMove", "(II)I"⟩
abbrev cX8_moves : ByteArray := prog_10_method_43_code
def yX8_moves : MethodName := ⟨RX8, "moves", "(II)I"⟩
abbrev cX8_move : ByteArray := prog_10_method_44_code
def yX8_move : MethodName := ⟨RX8, "move", "(II)I"⟩
abbrev cX8_refusesAttack : ByteArray := prog_10_method_45_code
def yX8_refusesAttack : MethodName := ⟨RX8, "refusesAttack", "(II)I"⟩
abbrev cX8_attack : ByteArray := prog_10_method_46_code
def yX8_attack : MethodName := ⟨RX8, "attack", "(II)I"⟩
abbrev cX8_ends : ByteArray := prog_10_method_47_code
def yX8_ends : MethodName := ⟨RX8, "ends", "()I"⟩
abbrev cX8_endTurn : ByteArray := prog_10_method_48_code
def yX8_endTurn : MethodName := ⟨RX8, "endTurn", "()I"⟩
abbrev cX8_type : ByteArray := prog_10_method_49_code
def yX8_type : MethodName := ⟨RX8, "type", "(C)I"⟩
abbrev cX8_clearText : ByteArray := prog_10_method_50_code
def yX8_clearText : MethodName := ⟨RX8, "clearText", "()I"⟩
abbrev cX8_sign : ByteArray := prog_10_method_51_code
def yX8_sign : MethodName := ⟨RX8, "sign", "()I"⟩
abbrev cX8_takes : ByteArray := prog_10_method_52_code
def yX8_takes : MethodName := ⟨RX8, "takes", "(II)I"⟩
abbrev cX8_readsOrder : ByteArray := prog_10_method_53_code
def yX8_readsOrder : MethodName := ⟨RX8, "readsOrder", "()V"⟩
abbrev cX8_reads : ByteArray := prog_10_method_54_code
def yX8_reads : MethodName := ⟨RX8, "reads", "()I"⟩
abbrev cX8_does : ByteArray := prog_10_method_55_code
def yX8_does : MethodName := ⟨RX8, "does", "(I)I"⟩
abbrev cX8_perform : ByteArray := prog_10_method_56_code
def yX8_perform : MethodName := ⟨RX8, "perform", "()I"⟩
abbrev cX8_undo : ByteArray := prog_10_method_57_code
def yX8_undo : MethodName := ⟨RX8, "undo", "()I"⟩
abbrev cX8_keep : ByteArray := prog_10_method_58_code
def yX8_keep : MethodName := ⟨RX8, "keep", "()I"⟩
abbrev cX8_restore : ByteArray := prog_10_method_59_code
def yX8_restore : MethodName := ⟨RX8, "restore", "()I"⟩
abbrev cX8_besides : ByteArray := prog_10_method_60_code
def yX8_besides : MethodName := ⟨RX8, "besides", "(I)I"⟩
abbrev cX8_hex : ByteArray := prog_10_method_61_code
def yX8_hex : MethodName := ⟨RX8, "hex", "(II)I"⟩
abbrev cX8_beside : ByteArray := prog_10_method_62_code
def yX8_beside : MethodName := ⟨RX8, "beside", "(II)I"⟩
abbrev cX8_distance : ByteArray := prog_10_method_63_code
def yX8_distance : MethodName := ⟨RX8, "distance", "(II)I"⟩
abbrev cX8_reaches : ByteArray := prog_10_method_64_code
def yX8_reaches : MethodName := ⟨RX8, "reaches", "(I)I"⟩
abbrev cX8_unit : ByteArray := prog_10_method_65_code
def yX8_unit : MethodName := ⟨RX8, "unit", "(II)I"⟩
abbrev cX8_cost : ByteArray := prog_10_method_66_code
def yX8_cost : MethodName := ⟨RX8, "cost", "(II)I"⟩
abbrev cX8_would : ByteArray := prog_10_method_67_code
def yX8_would : MethodName := ⟨RX8, "would", "(III)I"⟩
abbrev cX8_besieged : ByteArray := prog_10_method_68_code
def yX8_besieged : MethodName := ⟨RX8, "besieged", "(I)I"⟩
abbrev cX8_unitsOf : ByteArray := prog_10_method_69_code
def yX8_unitsOf : MethodName := ⟨RX8, "unitsOf", "(II)I"⟩
abbrev cX8_seen : ByteArray := prog_10_method_70_code
def yX8_seen : MethodName := ⟨RX8, "seen", "(I)I"⟩
abbrev cX8_count : ByteArray := prog_10_method_71_code
def yX8_count : MethodName := ⟨RX8, "count", "(I)I"⟩
def RJ6 : String := "java/lang/Integer"
def TJ6 : u_T := fun k => match k with
  | _ => ("", "", "", false)
def tyJ6 : Nat → FieldType := fun k => match k with
  | _ => .int
abbrev wsJ60 : List Cond := u_ws RJ6 TJ6 0
theorem nmJ6 : ∀ a, a < 0 → ∀ b, b < 0 → a ≠ b → (TJ6 a).2.1 ≠ (TJ6 b).2.1 := by decide +kernel
theorem tyJ6_ok : ∀ k, k < 0 → parseFieldDescriptor (TJ6 k).2.2.1 = some (tyJ6 k) := by decide +kernel
abbrev cJ6_bitCount_0f7a4 : ByteArray := prog_11_method_49_code
def yJ6_bitCount_0f7a4 : MethodName := ⟨RJ6, "bitCount", "(I)I"⟩
def RJ9 : String := "java/lang/Math"
def TJ9 : u_T := fun k => match k with
  | _ => ("", "", "", false)
def tyJ9 : Nat → FieldType := fun k => match k with
  | _ => .int
abbrev wsJ90 : List Cond := u_ws RJ9 TJ9 0
theorem nmJ9 : ∀ a, a < 0 → ∀ b, b < 0 → a ≠ b → (TJ9 a).2.1 ≠ (TJ9 b).2.1 := by decide +kernel
theorem tyJ9_ok : ∀ k, k < 0 → parseFieldDescriptor (TJ9 k).2.2.1 = some (tyJ9 k) := by decide +kernel
abbrev cJ9_abs_0f7a4 : ByteArray := prog_12_method_59_code
def yJ9_abs_0f7a4 : MethodName := ⟨RJ9, "abs", "(I)I"⟩
abbrev cJ9_max_7cf53 : ByteArray := prog_12_method_65_code
def yJ9_max_7cf53 : MethodName := ⟨RJ9, "max", "(II)I"⟩
abbrev cJ9_min_7cf53 : ByteArray := prog_12_method_69_code
def yJ9_min_7cf53 : MethodName := ⟨RJ9, "min", "(II)I"⟩
def RJ10 : String := "java/lang/System"
def TJ10 : u_T := fun k => match k with
  | _ => ("", "", "", false)
def tyJ10 : Nat → FieldType := fun k => match k with
  | _ => .int
abbrev wsJ100 : List Cond := u_ws RJ10 TJ10 0
theorem nmJ10 : ∀ a, a < 0 → ∀ b, b < 0 → a ≠ b → (TJ10 a).2.1 ≠ (TJ10 b).2.1 := by decide +kernel
theorem tyJ10_ok : ∀ k, k < 0 → parseFieldDescriptor (TJ10 k).2.2.1 = some (tyJ10 k) := by decide +kernel
def RJ7 : String := "java/util/Arrays"
def TJ7 : u_T := fun k => match k with
  | _ => ("", "", "", false)
def tyJ7 : Nat → FieldType := fun k => match k with
  | _ => .int
abbrev wsJ70 : List Cond := u_ws RJ7 TJ7 0
theorem nmJ7 : ∀ a, a < 0 → ∀ b, b < 0 → a ≠ b → (TJ7 a).2.1 ≠ (TJ7 b).2.1 := by decide +kernel
theorem tyJ7_ok : ∀ k, k < 0 → parseFieldDescriptor (TJ7 k).2.2.1 = some (tyJ7 k) := by decide +kernel
abbrev cJ7_fill_53178 : ByteArray := prog_14_method_103_code
def yJ7_fill_53178 : MethodName := ⟨RJ7, "fill", "([II)V"⟩
def RL : String := "RiverCampaignLaw"
abbrev cL_law : ByteArray := code
def yL_law : MethodName := ⟨RL, "law", "([I)Z"⟩
abbrev vwCl : List vw_C := [(RX0, TX0, 1), (RX1, TX1, 6), (RX2, TX2, 3), (RX3, TX3, 9), (RX4, TX4, 14), (RX5, TX5, 3), (RX6, TX6, 2), (RX7, TX7, 10), (RX8, TX8, 18)]
-- the words that every method may use: the good ones of lw_tbl
def mmWall : List Cond := lw_tbl.filter goodWord
theorem mmW_of {w : Cond} (h : w ∈ lw_tbl) (hg : goodWord w = true) : w ∈ mmWall := List.mem_filter.mpr ⟨h, hg⟩
theorem mmW_tbl {w : Cond} (h : w ∈ mmWall) : w ∈ lw_tbl := (List.mem_filter.mp h).1
theorem mmW_good {w : Cond} (h : w ∈ mmWall) : (w.onTables && w.keeps) = true ∨ ∃ ty, w = .arrayClass ty := good_of_word (List.mem_filter.mp h).2
theorem mmW_1 (i : Nat) {w : Cond} (h : tables_1_1[i]? = some w) (hg : goodWord w = true) : w ∈ mmWall := mmW_of (List.mem_append_right (k2_sels lw_privs) (show w ∈ tables_1 from List.mem_append_left _ (List.mem_of_getElem? h))) hg
theorem mmW_2 (i : Nat) {w : Cond} (h : tables_1_2[i]? = some w) (hg : goodWord w = true) : w ∈ mmWall := mmW_of (List.mem_append_right (k2_sels lw_privs) (show w ∈ tables_1 from List.mem_append_right _ (List.mem_append_left _ (List.mem_of_getElem? h)))) hg
theorem mmW_3 (i : Nat) {w : Cond} (h : tables_1_3[i]? = some w) (hg : goodWord w = true) : w ∈ mmWall := mmW_of (List.mem_append_right (k2_sels lw_privs) (show w ∈ tables_1 from List.mem_append_right _ (List.mem_append_right _ (List.mem_append_left _ (List.mem_of_getElem? h))))) hg
theorem mmW_4 (i : Nat) {w : Cond} (h : tables_1_4[i]? = some w) (hg : goodWord w = true) : w ∈ mmWall := mmW_of (List.mem_append_right (k2_sels lw_privs) (show w ∈ tables_1 from List.mem_append_right _ (List.mem_append_right _ (List.mem_append_right _ (List.mem_append_left _ (List.mem_of_getElem? h)))))) hg
theorem mmW_5 (i : Nat) {w : Cond} (h : tables_1_5[i]? = some w) (hg : goodWord w = true) : w ∈ mmWall := mmW_of (List.mem_append_right (k2_sels lw_privs) (show w ∈ tables_1 from List.mem_append_right _ (List.mem_append_right _ (List.mem_append_right _ (List.mem_append_right _ ((List.mem_of_getElem? h))))))) hg
theorem mmW_p1 (i : Nat) {q : MethodName × Nat} (h : lw_privs_1[i]? = some q) (hg : goodWord (Cond.selects q.1.cls q.1 q.1) = true) : Cond.selects q.1.cls q.1 q.1 ∈ mmWall := mmW_of (List.mem_append_left tables_1 (List.mem_map.mpr ⟨q, (show q ∈ lw_privs from List.mem_append_left _ (List.mem_of_getElem? h)), rfl⟩)) hg
theorem mmW_p2 (i : Nat) {q : MethodName × Nat} (h : lw_privs_2[i]? = some q) (hg : goodWord (Cond.selects q.1.cls q.1 q.1) = true) : Cond.selects q.1.cls q.1 q.1 ∈ mmWall := mmW_of (List.mem_append_left tables_1 (List.mem_map.mpr ⟨q, (show q ∈ lw_privs from List.mem_append_right _ (List.mem_append_left _ (List.mem_of_getElem? h))), rfl⟩)) hg
theorem mmW_p3 (i : Nat) {q : MethodName × Nat} (h : lw_privs_3[i]? = some q) (hg : goodWord (Cond.selects q.1.cls q.1 q.1) = true) : Cond.selects q.1.cls q.1 q.1 ∈ mmWall := mmW_of (List.mem_append_left tables_1 (List.mem_map.mpr ⟨q, (show q ∈ lw_privs from List.mem_append_right _ (List.mem_append_right _ (List.mem_append_left _ (List.mem_of_getElem? h)))), rfl⟩)) hg
theorem mmW_p4 (i : Nat) {q : MethodName × Nat} (h : lw_privs_4[i]? = some q) (hg : goodWord (Cond.selects q.1.cls q.1 q.1) = true) : Cond.selects q.1.cls q.1 q.1 ∈ mmWall := mmW_of (List.mem_append_left tables_1 (List.mem_map.mpr ⟨q, (show q ∈ lw_privs from List.mem_append_right _ (List.mem_append_right _ (List.mem_append_right _ ((List.mem_of_getElem? h))))), rfl⟩)) hg
theorem mm_ws {C : String} {T : u_T} {N : Nat} (h : ∀ k, k < N → u_lay C T k ∈ mmWall) : ∀ w ∈ u_ws C T N, w ∈ mmWall := by
  intro w hw
  obtain ⟨k, hk, rfl⟩ := List.mem_map.mp hw
  exact h k (List.mem_range.mp hk)
theorem inX0 : ∀ w ∈ wsX00, w ∈ mmWall := mm_ws (fun k hk => match k, hk with
  | 0, _ => mmW_1 42 rfl rfl
  | _ + 1, hk => absurd hk (by omega))
theorem inX1 : ∀ w ∈ wsX10, w ∈ mmWall := mm_ws (fun k hk => match k, hk with
  | 0, _ => mmW_1 229 rfl rfl
  | 1, _ => mmW_1 231 rfl rfl
  | 2, _ => mmW_1 233 rfl rfl
  | 3, _ => mmW_1 235 rfl rfl
  | 4, _ => mmW_1 237 rfl rfl
  | 5, _ => mmW_1 239 rfl rfl
  | _ + 6, hk => absurd hk (by omega))
theorem inX2 : ∀ w ∈ wsX20, w ∈ mmWall := mm_ws (fun k hk => match k, hk with
  | 0, _ => mmW_1 134 rfl rfl
  | 1, _ => mmW_1 136 rfl rfl
  | 2, _ => mmW_1 138 rfl rfl
  | _ + 3, hk => absurd hk (by omega))
theorem inX3 : ∀ w ∈ wsX30, w ∈ mmWall := mm_ws (fun k hk => match k, hk with
  | 0, _ => mmW_1 161 rfl rfl
  | 1, _ => mmW_1 163 rfl rfl
  | 2, _ => mmW_1 165 rfl rfl
  | 3, _ => mmW_1 167 rfl rfl
  | 4, _ => mmW_1 169 rfl rfl
  | 5, _ => mmW_1 171 rfl rfl
  | 6, _ => mmW_1 173 rfl rfl
  | 7, _ => mmW_1 175 rfl rfl
  | 8, _ => mmW_1 177 rfl rfl
  | _ + 9, hk => absurd hk (by omega))
theorem inX4 : ∀ w ∈ wsX40, w ∈ mmWall := mm_ws (fun k hk => match k, hk with
  | 0, _ => mmW_1 92 rfl rfl
  | 1, _ => mmW_1 94 rfl rfl
  | 2, _ => mmW_1 96 rfl rfl
  | 3, _ => mmW_1 98 rfl rfl
  | 4, _ => mmW_1 100 rfl rfl
  | 5, _ => mmW_1 102 rfl rfl
  | 6, _ => mmW_1 104 rfl rfl
  | 7, _ => mmW_1 106 rfl rfl
  | 8, _ => mmW_1 108 rfl rfl
  | 9, _ => mmW_1 110 rfl rfl
  | 10, _ => mmW_1 112 rfl rfl
  | 11, _ => mmW_1 114 rfl rfl
  | 12, _ => mmW_1 116 rfl rfl
  | 13, _ => mmW_1 118 rfl rfl
  | _ + 14, hk => absurd hk (by omega))
theorem inX5 : ∀ w ∈ wsX50, w ∈ mmWall := mm_ws (fun k hk => match k, hk with
  | 0, _ => mmW_1 205 rfl rfl
  | 1, _ => mmW_1 207 rfl rfl
  | 2, _ => mmW_1 209 rfl rfl
  | _ + 3, hk => absurd hk (by omega))
theorem inX6 : ∀ w ∈ wsX60, w ∈ mmWall := mm_ws (fun k hk => match k, hk with
  | 0, _ => mmW_1 190 rfl rfl
  | 1, _ => mmW_1 192 rfl rfl
  | _ + 2, hk => absurd hk (by omega))
theorem inX7 : ∀ w ∈ wsX70, w ∈ mmWall := mm_ws (fun k hk => match k, hk with
  | 0, _ => mmW_2 12 rfl rfl
  | 1, _ => mmW_2 14 rfl rfl
  | 2, _ => mmW_2 16 rfl rfl
  | 3, _ => mmW_2 18 rfl rfl
  | 4, _ => mmW_2 20 rfl rfl
  | 5, _ => mmW_2 22 rfl rfl
  | 6, _ => mmW_2 24 rfl rfl
  | 7, _ => mmW_2 26 rfl rfl
  | 8, _ => mmW_2 28 rfl rfl
  | 9, _ => mmW_2 30 rfl rfl
  | _ + 10, hk => absurd hk (by omega))
theorem inX8 : ∀ w ∈ wsX80, w ∈ mmWall := mm_ws (fun k hk => match k, hk with
  | 0, _ => mmW_3 184 rfl rfl
  | 1, _ => mmW_3 186 rfl rfl
  | 2, _ => mmW_3 188 rfl rfl
  | 3, _ => mmW_3 190 rfl rfl
  | 4, _ => mmW_3 192 rfl rfl
  | 5, _ => mmW_3 194 rfl rfl
  | 6, _ => mmW_3 196 rfl rfl
  | 7, _ => mmW_3 198 rfl rfl
  | 8, _ => mmW_3 200 rfl rfl
  | 9, _ => mmW_3 202 rfl rfl
  | 10, _ => mmW_3 204 rfl rfl
  | 11, _ => mmW_3 206 rfl rfl
  | 12, _ => mmW_3 208 rfl rfl
  | 13, _ => mmW_3 210 rfl rfl
  | 14, _ => mmW_3 212 rfl rfl
  | 15, _ => mmW_3 214 rfl rfl
  | 16, _ => mmW_3 216 rfl rfl
  | 17, _ => mmW_3 218 rfl rfl
  | _ + 18, hk => absurd hk (by omega))
end
section
-- the cells that stand once both constructors have ended: objects (class, fields: none an int, some j the cell j) and rows (type, length, the cells of a row of objects)
abbrev MLay : Type := (Nat × List (Option Nat)) ⊕ (Nat × Nat × Option (List Nat))
def mmLay : List MLay := [
  .inl (7, [some 1, some 3, some 15, some 27, none, some 87, some 89, some 94, some 96, some 99]),
  .inl (0, [some 2]),
  .inr (0, 378, none),
  .inl (4, [some 1, some 4, some 5, some 6, some 7, some 8, none, some 9, some 10, some 11, some 12, some 13, some 14, none]),
  .inr (0, 63, none),
  .inr (0, 63, none),
  .inr (0, 63, none),
  .inr (0, 63, none),
  .inr (0, 2, none),
  .inr (0, 16, none),
  .inr (0, 16, none),
  .inr (0, 16, none),
  .inr (0, 16, none),
  .inr (0, 16, none),
  .inr (0, 16, none),
  .inl (4, [some 1, some 16, some 17, some 18, some 19, some 20, none, some 21, some 22, some 23, some 24, some 25, some 26, none]),
  .inr (0, 63, none),
  .inr (0, 63, none),
  .inr (0, 63, none),
  .inr (0, 63, none),
  .inr (0, 2, none),
  .inr (0, 16, none),
  .inr (0, 16, none),
  .inr (0, 16, none),
  .inr (0, 16, none),
  .inr (0, 16, none),
  .inr (0, 16, none),
  .inl (4, [some 1, some 28, some 29, some 30, some 31, some 32, none, some 33, some 34, some 35, some 36, some 37, some 38, none]),
  .inr (0, 63, none),
  .inr (0, 63, none),
  .inr (0, 63, none),
  .inr (0, 63, none),
  .inr (0, 2, none),
  .inr (0, 16, none),
  .inr (0, 16, none),
  .inr (0, 16, none),
  .inr (0, 16, none),
  .inr (0, 16, none),
  .inr (0, 16, none),
  .inl (4, [some 1, some 40, some 41, some 42, some 43, some 44, none, some 45, some 46, some 47, some 48, some 49, some 50, none]),
  .inr (0, 63, none),
  .inr (0, 63, none),
  .inr (0, 63, none),
  .inr (0, 63, none),
  .inr (0, 2, none),
  .inr (0, 16, none),
  .inr (0, 16, none),
  .inr (0, 16, none),
  .inr (0, 16, none),
  .inr (0, 16, none),
  .inr (0, 16, none),
  .inl (4, [some 1, some 52, some 53, some 54, some 55, some 56, none, some 57, some 58, some 59, some 60, some 61, some 62, none]),
  .inr (0, 63, none),
  .inr (0, 63, none),
  .inr (0, 63, none),
  .inr (0, 63, none),
  .inr (0, 2, none),
  .inr (0, 16, none),
  .inr (0, 16, none),
  .inr (0, 16, none),
  .inr (0, 16, none),
  .inr (0, 16, none),
  .inr (0, 16, none),
  .inl (4, [some 1, some 64, some 65, some 66, some 67, some 68, none, some 69, some 70, some 71, some 72, some 73, some 74, none]),
  .inr (0, 63, none),
  .inr (0, 63, none),
  .inr (0, 63, none),
  .inr (0, 63, none),
  .inr (0, 2, none),
  .inr (0, 16, none),
  .inr (0, 16, none),
  .inr (0, 16, none),
  .inr (0, 16, none),
  .inr (0, 16, none),
  .inr (0, 16, none),
  .inl (4, [some 1, some 76, some 77, some 78, some 79, some 80, none, some 81, some 82, some 83, some 84, some 85, some 86, none]),
  .inr (0, 63, none),
  .inr (0, 63, none),
  .inr (0, 63, none),
  .inr (0, 63, none),
  .inr (0, 2, none),
  .inr (0, 16, none),
  .inr (0, 16, none),
  .inr (0, 16, none),
  .inr (0, 16, none),
  .inr (0, 16, none),
  .inr (0, 16, none),
  .inl (2, [some 88, none, none]),
  .inr (3, 4, some [39, 51, 63, 75]),
  .inl (3, [some 90, none, none, some 91, some 92, some 93, none, none, none]),
  .inr (1, 60, none),
  .inr (1, 30, none),
  .inr (0, 30, none),
  .inr (0, 30, none),
  .inl (6, [some 1, some 95]),
  .inr (0, 63, none),
  .inl (5, [some 1, some 97, some 98]),
  .inr (0, 63, none),
  .inr (2, 63, none),
  .inl (1, [some 1, some 96, none, none, none, none]),
  .inl (8, [none, some 101, some 102, some 103, none, some 104, none, some 105, none, some 106, some 107, some 108, some 109, some 110, none, none, some 111, none]),
  .inr (0, 289, none),
  .inr (0, 289, none),
  .inr (0, 1156, none),
  .inr (0, 289, none),
  .inr (0, 60, none),
  .inr (0, 63, none),
  .inr (2, 63, none),
  .inr (0, 63, none),
  .inr (2, 63, none),
  .inr (2, 16, none),
  .inr (0, 96, none)]
end
section
-- A MACHINE OF CELLS BY NUMBER over the kit's worlds: the layout is fixed (mmLay), only whole numbers change. MH: what stands in the cell k at place i. MV: a whole number, or a cell's number.
abbrev MH : Type := Nat → Nat → Int32
abbrev MV : Type := Int32 ⊕ Nat
abbrev MMeth : Type := MethodName × ByteArray × Nat × Option FieldType
def mmUp (h : MH) (k : Nat) (g : Nat → Int32) : MH := fun j => if j = k then g else h j
abbrev mmSet (h : MH) (k i : Nat) (v : Int32) : MH := mmUp h k (upd (h k) i v)
theorem mmUp_same (h : MH) (k : Nat) (g : Nat → Int32) : mmUp h k g k = g := if_pos rfl
theorem mmUp_ne (h : MH) {j k : Nat} (g : Nat → Int32) (hj : j ≠ k) : mmUp h k g j = h j := if_neg hj
def mmFv (ρ : Nat → Nat) (x : Int32) : Option Nat → Value
  | none => .int x
  | some j => .ref (ρ j)
def mmV (ρ : Nat → Nat) : MV → Value
  | .inl x => .int x
  | .inr j => .ref (ρ j)
theorem mmV_cat (ρ : Nat → Nat) (v : MV) : (mmV ρ v).category = 1 := by cases v <;> rfl
def mmCell (ρ : Nat → Nat) (ca : Nat → ClassId) (h : Nat → Int32) : MLay → va_E
  | .inl (ci, fk) => .inr (ci, fk.mapIdx (fun f o => mmFv ρ (h f) o))
  | .inr (ti, n, none) => .inl (ca ti, n, .inl h)
  | .inr (ti, n, some rs) => .inl (ca ti, n, .inr (.inr (.inr (.inr (fun i => (rs[i]?).map ρ)))))
def mmWorld (ρ : Nat → Nat) (ca : Nat → ClassId) (h : MH) : va_W := mmLay.mapIdx (fun k e => (ρ k, mmCell ρ ca (h k) e))
def mmTys (ca : Nat → ClassId) : List (ClassId × FieldType) := [(ca 0, .int), (ca 1, .char), (ca 2, .boolean), (ca 3, .object RX4)]
theorem mmWorld_get {ρ : Nat → Nat} {ca : Nat → ClassId} {h : MH} {k : Nat} {e : MLay} (he : mmLay[k]? = some e) : (mmWorld ρ ca h)[k]? = some (ρ k, mmCell ρ ca (h k) e) := by
  simp [mmWorld, List.getElem?_mapIdx, he]
theorem mmWorld_at {ρ : Nat → Nat} {ca : Nat → ClassId} {h : MH} {k : Nat} {q : Nat × va_E} (hq : (mmWorld ρ ca h)[k]? = some q) : ∃ e, mmLay[k]? = some e ∧ q = (ρ k, mmCell ρ ca (h k) e) := by
  simp only [mmWorld, List.getElem?_mapIdx] at hq
  cases he : mmLay[k]? with
  | none => rw [he] at hq; cases hq
  | some e => rw [he] at hq; exact ⟨e, rfl, (Option.some.inj hq).symm⟩
theorem mmWorld_set {ρ : Nat → Nat} {ca : Nat → ClassId} {h : MH} {k : Nat} {e : MLay} {g : Nat → Int32} {x : va_E} (he : mmLay[k]? = some e) (hx : mmCell ρ ca g e = x) : (mmWorld ρ ca h).set k (ρ k, x) = mmWorld ρ ca (mmUp h k g) := by
  subst hx
  apply List.ext_getElem?
  intro j
  rw [List.getElem?_set]
  by_cases hj : k = j
  · subst hj
    have hlt : k < (mmWorld ρ ca h).length := (List.getElem?_eq_some_iff.mp (mmWorld_get (ρ := ρ) (ca := ca) (h := h) he)).1
    rw [if_pos rfl, if_pos hlt, mmWorld_get he, mmUp_same]
  · rw [if_neg hj]
    simp only [mmWorld, List.getElem?_mapIdx]
    cases hjj : mmLay[j]? with
    | none => rfl
    | some ej => simp [mmUp_ne h g (fun q => hj q.symm)]
theorem mmWorld_D {ρ : Nat → Nat} {ca : Nat → ClassId} {h h' : MH} {A : Nat → Prop} (hD : va_D A (mmWorld ρ ca h)) : va_D A (mmWorld ρ ca h') := by
  refine ⟨fun i j p q hi hj hpq => ?_, fun k q hk => ?_⟩
  · obtain ⟨ei, hei, rfl⟩ := mmWorld_at hi
    obtain ⟨ej, hej, rfl⟩ := mmWorld_at hj
    exact hD.1 i j (ρ i, mmCell ρ ca (h i) ei) (ρ j, mmCell ρ ca (h j) ej) (mmWorld_get hei) (mmWorld_get hej) hpq
  · obtain ⟨ek, hek, rfl⟩ := mmWorld_at hk
    exact hD.2 k (ρ k, mmCell ρ ca (h k) ek) (mmWorld_get hek)
theorem mmWorld_A {ρ : Nat → Nat} {ca : Nat → ClassId} {h h' : MH} {sz : Nat} {q : Nat} (hq : va_A (mmWorld ρ ca h) sz q) : va_A (mmWorld ρ ca h') sz q := by
  rcases hq with ⟨k, e, hk⟩ | hq
  · obtain ⟨ek, hek, he⟩ := mmWorld_at hk
    have h1 := mmWorld_get (ρ := ρ) (ca := ca) (h := h') hek
    have h2 : q = ρ k := congrArg Prod.fst he
    rw [h2]
    exact Or.inl ⟨k, _, h1⟩
  · exact Or.inr hq
-- locals
def mmLv (ρ : Nat → Nat) (ls : List (Option MV)) : List (Nat × Value) := (List.range ls.length).filterMap (fun i => (ls[i]?.join).map (fun v => (i, mmV ρ v)))
theorem mmLv_mem {ρ : Nat → Nat} {ls : List (Option MV)} {q : Nat × Value} : q ∈ mmLv ρ ls ↔ ∃ v, ls[q.1]? = some (some v) ∧ q.2 = mmV ρ v := by
  unfold mmLv
  rw [List.mem_filterMap]
  constructor
  · rintro ⟨i, -, hi⟩
    cases hl : ls[i]? with
    | none => rw [hl] at hi; cases hi
    | some o =>
      cases o with
      | none => rw [hl] at hi; cases hi
      | some v =>
        rw [hl] at hi
        obtain rfl := Option.some.inj hi
        exact ⟨v, hl, rfl⟩
  · rintro ⟨v, h1, h2⟩
    refine ⟨q.1, ?_, ?_⟩
    · rw [List.mem_range]
      exact (List.getElem?_eq_some_iff.mp h1).1
    · rw [h1]
      show some (q.1, mmV ρ v) = some q
      rw [← h2]
theorem mmL_get {ρ : Nat → Nat} {ls : List (Option MV)} {la : Array Slot} {nL i : Nat} {v : MV} (hl : lv_has la nL (mmLv ρ ls)) (hv : ls[i]? = some (some v)) : la[i]? = some (.val (mmV ρ v)) := hl.2.2 (i, mmV ρ v) (mmLv_mem.mpr ⟨v, hv, rfl⟩)
theorem mmL_set {ρ : Nat → Nat} {ls : List (Option MV)} {la : Array Slot} {nL i : Nat} {v : MV} (hl : lv_has la nL ((i, mmV ρ v) :: (mmLv ρ ls).filter (fun q => !(q.1 == i) && !(q.1 + 1 == i && q.2.category == 2)))) : lv_has la nL (mmLv ρ (ls.set i (some v))) := by
  refine ⟨hl.1, hl.2.1, fun q hq => ?_⟩
  obtain ⟨w, h1, h2⟩ := mmLv_mem.mp hq
  rw [List.getElem?_set] at h1
  by_cases hi : i = q.1
  · rw [if_pos hi] at h1
    split at h1
    · have hw : v = w := Option.some.inj (Option.some.inj h1)
      subst hw
      have h3 := hl.2.2 (i, mmV ρ v) List.mem_cons_self
      rw [h2, ← hi]
      exact h3
    · cases h1
  · rw [if_neg hi] at h1
    refine hl.2.2 q (List.mem_cons_of_mem _ (List.mem_filter.mpr ⟨mmLv_mem.mpr ⟨w, h1, h2⟩, ?_⟩))
    have h3 : q.2.category = 1 := by rw [h2]; exact mmV_cat ρ w
    simp [h3]
    exact fun h => hi h.symm
theorem mmL_entry (ρ : Nat → Nat) (vs : List MV) : ∀ (k : Nat) (i : Nat) (v : MV), vs[i]? = some v → (k + i, mmV ρ v) ∈ lv_args k (vs.map (mmV ρ)) := by
  induction vs with
  | nil => intro k i v h; simp at h
  | cons a t ih =>
    intro k i v h
    show (k + i, mmV ρ v) ∈ (k, mmV ρ a) :: lv_args (if (mmV ρ a).category = 2 then k + 2 else k + 1) (t.map (mmV ρ))
    rw [mmV_cat, if_neg (by decide)]
    cases i with
    | zero =>
      have h1 : a = v := Option.some.inj h
      subst h1
      exact List.mem_cons_self
    | succ j =>
      have h1 := ih (k + 1) j v (by simpa using h)
      rw [show k + (j + 1) = k + 1 + j by omega]
      exact List.mem_cons_of_mem _ h1
theorem mmL_sl (ρ : Nat → Nat) (vs : List MV) : (lg_sl (vs.map (mmV ρ))).length = vs.length := by
  induction vs with
  | nil => rfl
  | cons a t ih =>
    simp only [lg_sl, List.map_cons, List.flatMap_cons, mmV_cat] at ih ⊢
    simp only [List.length_append, ih]
    simp; omega
def mmStart (nL : Nat) (vs : List MV) : List (Option MV) := vs.map some ++ List.replicate (nL - vs.length) none
theorem mmL_start {ρ : Nat → Nat} {vs : List MV} {la : Array Slot} {nL : Nat} (hl : lv_has la nL (lv_args 0 (vs.map (mmV ρ)))) : lv_has la nL (mmLv ρ (mmStart nL vs)) := by
  refine ⟨hl.1, hl.2.1, fun q hq => ?_⟩
  obtain ⟨w, h1, h2⟩ := mmLv_mem.mp hq
  have h3 : vs[q.1]? = some w := by
    unfold mmStart at h1
    rw [List.getElem?_append] at h1
    split at h1
    · rw [List.getElem?_map] at h1
      cases hv : vs[q.1]? with
      | none => rw [hv] at h1; cases h1
      | some y => rw [hv] at h1; exact Option.some.inj h1
    · rw [List.getElem?_replicate] at h1
      split at h1
      · cases h1
      · cases h1
  have h4 := mmL_entry ρ vs 0 q.1 w h3
  rw [Nat.zero_add, ← h2] at h4
  exact hl.2.2 q h4
end
section
-- THE JUDGEMENT: MW d M pc ls st h Q: with the machine of cells at pc of the method M, its locals ls, its stack st and the whole numbers h, in a room of d frames, the method comes to its end with an answer r and numbers h' of which Q r h' holds. MC: a method's contract.
def mmWs (M : MMeth) : List Cond := .code M.1 M.2.1 M.2.2.1 M.2.2.2 :: mmWall
def mmRoom (d : Nat) : Room := { frames := d, cells := 0, slots := 0, locals := 32 * d }
def mmB (D : va_G) (ρ : Nat → Nat) (ca : Nat → ClassId) (h : MH) (t : State) : Prop := va_P D vwCl (mmWorld ρ ca h) t.heap ∧ va_K D vwCl (mmTys ca) t
def mmQc (M : MMeth) (D : va_G) (ρ : Nat → Nat) (ca : Nat → ClassId) (A : Nat → Prop) (Q : Int32 → MH → Prop) : Array Value → State → Outcome → State → Prop :=
  match M.2.2.2 with
  | none => va_Qv (fun h' : MH => Q 0 h') (mmB D ρ ca) A
  | some _ => va_Qi Q (mmB D ρ ca) A
def mmCtx (p : Program) (s : State) (m : MethodId) (args : Array Value) (meth : Method) (c : Code) (M : MMeth) (D : va_G) (ρ : Nat → Nat) (ca : Nat → ClassId) (A : Nat → Prop) : Prop :=
  p.tables.exec = Jvm.exec ∧ c.code = M.2.1 ∧ c.maxLocals = M.2.2.1 ∧ s.vm.findClass M.1.cls = some m.cls ∧ (∀ w ∈ mmWall, w.before args s = true) ∧ meth.sig.returnType = M.2.2.2 ∧ meth.locks = false ∧ va_K D vwCl (mmTys ca) s ∧ (∀ h : MH, va_D A (mmWorld ρ ca h)) ∧ (∀ q, s.heap.size ≤ q → A q)
def MW (d : Nat) (M : MMeth) (pc : Nat) (ls : List (Option MV)) (st : List MV) (h : MH) (Q : Int32 → MH → Prop) : Prop :=
  ∀ (p : Program) (l : Launch) (e : Env) (s : State) (m : MethodId) (args : Array Value) (below : List Frame) (meth : Method) (c : Code) (D : va_G) (ρ : Nat → Nat) (ca : Nat → ClassId) (A : Nat → Prop), mmCtx p s m args meth c M D ρ ca A →
  ∀ (H : Heap) (locs : List Loc) (la : Array Slot), va_P D vwCl (mmWorld ρ ca h) H → va_S A s.heap H locs → lv_has la M.2.2.1 (mmLv ρ ls) →
    W p l e (mmRoom d) s m args below meth c H locs 0 0 (MQ below (mmQc M D ρ ca A Q) args s 0 0 A) (F0 m pc la (st.map (mmV ρ)))
def MC (d : Nat) (M : MMeth) (vs : List MV) (h : MH) (Q : Int32 → MH → Prop) : Prop :=
  ∀ (l : Launch) (D : va_G) (ρ : Nat → Nat) (ca : Nat → ClassId) (sz : Nat), va_D (fun _ => True) (mmWorld ρ ca h) →
    Met l M.1 (mmWs M) (mmRoom d) (va_Pc (vs.map (mmV ρ)) (fun U => U.heap.size = sz ∧ mmB D ρ ca h U)) (mmQc M D ρ ca (va_A (mmWorld ρ ca h) sz) Q) 0 0 (va_A (mmWorld ρ ca h) sz)
set_option maxHeartbeats 1000000 in
theorem MC.of {d : Nat} {M : MMeth} {vs : List MV} {h : MH} {Q : Int32 → MH → Prop} (hy : plainName M.1.cls = true) (hn : vs.length ≤ M.2.2.1) (k : MW d M 0 (mmStart M.2.2.1 vs) [] h Q) : MC d M vs h Q := by
  intro l D ρ ca sz hD0
  refine Met.ofW (cc := M.2.1) (maxL := M.2.2.1) (ret := M.2.2.2) hy rfl ?_
  intro p e s m args below meth c s₁ B hml hv
  obtain ⟨rfl, hsz, hP, hK⟩ := hv
  have hts : ∀ w ∈ mmWs M, w.before (vs.map (mmV ρ)).toArray s = true := atoms_spec (ws := mmWs M) B.pre
  have hown : s.vm.findClass M.1.cls = some m.cls := findClass_of_methodNamed B.named
  subst hsz
  have hl := lv_entry (vs.map (mmV ρ)) (n := M.2.2.1) (by rw [mmL_sl]; exact hn)
  rw [lg_entry_eq]
  exact k p l e s m _ below meth c D ρ ca _ ⟨B.exec, B.bytes, hml, hown, fun w hw => hts w (List.mem_cons_of_mem _ hw), B.returns, B.notSynchronized, hK, fun h' => mmWorld_D (hD0.self (sz := s.heap.size)), fun q hq => Or.inr hq⟩ s.heap [] _ hP va_S.rf (mmL_start hl)
theorem MC.mono {d : Nat} {M : MMeth} {vs : List MV} {h : MH} {Q Q' : Int32 → MH → Prop} (hc : MC d M vs h Q) (hq : ∀ r h', Q r h' → Q' r h') : MC d M vs h Q' := by
  intro l D ρ ca sz hD
  have h1 := hc l D ρ ca sz hD
  have h2 : ∀ a st o t, mmQc M D ρ ca (va_A (mmWorld ρ ca h) sz) Q a st o t → mmQc M D ρ ca (va_A (mmWorld ρ ca h) sz) Q' a st o t := by
    intro a st o t hh
    unfold mmQc at hh ⊢
    cases hM : M.2.2.2 with
    | none =>
      rw [hM] at hh
      obtain ⟨⟨u, e1, e2, e3⟩, e4⟩ := hh
      exact ⟨⟨u, e1, hq _ _ e2, e3⟩, e4⟩
    | some ty =>
      rw [hM] at hh
      obtain ⟨⟨r, u, e1, e2, e3⟩, e4⟩ := hh
      exact ⟨⟨r, u, e1, hq _ _ e2, e3⟩, e4⟩
  intro p e ha hc' hk s m args below hf hap hP hK
  obtain ⟨k, o, g1, g2, g3, g4⟩ := h1 p e ha hc' hk s m args below hf hap hP hK
  exact ⟨k, o, g1, g2, g3, h2 _ _ _ _ g4.1, g4.2⟩
section MM
variable {d : Nat} {M : MMeth} {pc : Nat} {ls : List (Option MV)} {st : List MV} {h : MH} {Q : Int32 → MH → Prop}
theorem MW.mono {Q' : Int32 → MH → Prop} (k : MW d M pc ls st h Q) (hq : ∀ r h', Q r h' → Q' r h') : MW d M pc ls st h Q' := by
  intro p l e s m args below meth c D ρ ca A C H locs la hP hS hl T hT X
  obtain ⟨t, g1, o, g2, g3, g4, g5⟩ := k p l e s m args below meth c D ρ ca A C H locs la hP hS hl T hT X
  refine ⟨t, g1, o, g2, g3, ?_, g5⟩
  unfold mmQc at g4 ⊢
  cases hM : M.2.2.2 with
  | none =>
    rw [hM] at g4
    obtain ⟨⟨u, e1, e2, e3⟩, e4⟩ := g4
    exact ⟨⟨u, e1, hq _ _ e2, e3⟩, e4⟩
  | some ty =>
    rw [hM] at g4
    obtain ⟨⟨r, u, e1, e2, e3⟩, e4⟩ := g4
    exact ⟨⟨r, u, e1, hq _ _ e2, e3⟩, e4⟩
/-- fewer locals known, or the same ones -/
theorem MW.locals {ls' : List (Option MV)} (hs : ∀ (i : Nat) (v : MV), ls'[i]? = some (some v) → ls[i]? = some (some v)) (k : MW d M pc ls' st h Q) : MW d M pc ls st h Q := by
  intro p l e s m args below meth c D ρ ca A C H locs la hP hS hl
  refine k p l e s m args below meth c D ρ ca A C H locs la hP hS ⟨hl.1, hl.2.1, fun q hq => ?_⟩
  obtain ⟨v, h1, h2⟩ := mmLv_mem.mp hq
  exact hl.2.2 q (mmLv_mem.mpr ⟨v, hs _ _ h1, h2⟩)
theorem MW.iconst {n : Int} {v : Int32} (hd : decode M.2.1 pc = .ok (.iconst n, 1)) (hv : Int32.ofInt n = v) (k : MW d M (pc + 1) ls (.inl v :: st) h Q) : MW d M pc ls st h Q :=
  fun p l e s m args below meth c D ρ ca A C H locs la hP hS hl => lv_iconst C.1 C.2.1 hd hv (k p l e s m args below meth c D ρ ca A C H locs la hP hS hl)
theorem MW.bipush {n : Int} {v : Int32} (hd : decode M.2.1 pc = .ok (.bipush n, 2)) (hv : (Int8.ofInt n).toInt32 = v) (k : MW d M (pc + 2) ls (.inl v :: st) h Q) : MW d M pc ls st h Q :=
  fun p l e s m args below meth c D ρ ca A C H locs la hP hS hl => lv_bipush C.1 C.2.1 hd hv (k p l e s m args below meth c D ρ ca A C H locs la hP hS hl)
theorem MW.sipush {n : Int} {v : Int32} (hd : decode M.2.1 pc = .ok (.sipush n, 3)) (hv : (Int16.ofInt n).toInt32 = v) (k : MW d M (pc + 3) ls (.inl v :: st) h Q) : MW d M pc ls st h Q :=
  fun p l e s m args below meth c D ρ ca A C H locs la hP hS hl => lv_sipush C.1 C.2.1 hd hv (k p l e s m args below meth c D ρ ca A C H locs la hP hS hl)
theorem MW.ldcw {ix : Nat} {v : Int32} (hd : decode M.2.1 pc = .ok (.ldc_w ix, 3)) (hw : Cond.constant M.1.cls ix v ∈ mmWall) (k : MW d M (pc + 3) ls (.inl v :: st) h Q) : MW d M pc ls st h Q :=
  fun p l e s m args below meth c D ρ ca A C H locs la hP hS hl => lv_ldcw C.1 C.2.1 C.2.2.2.1 (C.2.2.2.2.1 _ hw) hd (k p l e s m args below meth c D ρ ca A C H locs la hP hS hl)
theorem MW.iload_n {i : Fin 4} {v : Int32} (hd : decode M.2.1 pc = .ok (.iload_n i, 1)) (hv : ls[(i : Nat)]? = some (some (.inl v))) (k : MW d M (pc + 1) ls (.inl v :: st) h Q) : MW d M pc ls st h Q :=
  fun p l e s m args below meth c D ρ ca A C H locs la hP hS hl => lv_iload_n C.1 C.2.1 hd rfl (mmL_get hl hv) (k p l e s m args below meth c D ρ ca A C H locs la hP hS hl)
theorem MW.iload {i : Nat} {v : Int32} (hd : decode M.2.1 pc = .ok (.iload i, 2)) (hv : ls[i]? = some (some (.inl v))) (k : MW d M (pc + 2) ls (.inl v :: st) h Q) : MW d M pc ls st h Q :=
  fun p l e s m args below meth c D ρ ca A C H locs la hP hS hl => lv_iload C.1 C.2.1 hd (mmL_get hl hv) (k p l e s m args below meth c D ρ ca A C H locs la hP hS hl)
theorem MW.aload_n {i : Fin 4} {v : Nat} (hd : decode M.2.1 pc = .ok (.aload_n i, 1)) (hv : ls[(i : Nat)]? = some (some (.inr v))) (k : MW d M (pc + 1) ls (.inr v :: st) h Q) : MW d M pc ls st h Q :=
  fun p l e s m args below meth c D ρ ca A C H locs la hP hS hl => lv_aload_n C.1 C.2.1 hd rfl (mmL_get hl hv) (k p l e s m args below meth c D ρ ca A C H locs la hP hS hl)
theorem MW.istore_n {i : Fin 4} {v : Int32} (hd : decode M.2.1 pc = .ok (.istore_n i, 1)) (hn : (i : Nat) < M.2.2.1) {ls' : List (Option MV)} (hs : ls.set i (some (.inl v)) = ls') (k : MW d M (pc + 1) ls' st h Q) : MW d M pc ls (.inl v :: st) h Q := by
  subst hs
  exact fun p l e s m args below meth c D ρ ca A C H locs la hP hS hl => lv_istore_n C.1 C.2.1 hd rfl hl hn rfl (fun la' hl' => k p l e s m args below meth c D ρ ca A C H locs la' hP hS (mmL_set (v := .inl v) hl'))
theorem MW.istore {i : Nat} {v : Int32} (hd : decode M.2.1 pc = .ok (.istore i, 2)) (hn : i < M.2.2.1) {ls' : List (Option MV)} (hs : ls.set i (some (.inl v)) = ls') (k : MW d M (pc + 2) ls' st h Q) : MW d M pc ls (.inl v :: st) h Q := by
  subst hs
  exact fun p l e s m args below meth c D ρ ca A C H locs la hP hS hl => lv_istore C.1 C.2.1 hd hl hn rfl (fun la' hl' => k p l e s m args below meth c D ρ ca A C H locs la' hP hS (mmL_set (v := .inl v) hl'))
theorem mmLv_pos {ρ : Nat → Nat} {i : Nat} {v : MV} (hv : ls[i]? = some (some v)) : ∃ k : Nat, (mmLv ρ ls)[k]? = some (i, mmV ρ v) := List.getElem?_of_mem (mmLv_mem.mpr ⟨v, hv, rfl⟩)
theorem MW.iinc {i : Nat} {n : Int} {x v : Int32} (hd : decode M.2.1 pc = .ok (.iinc i n, 3)) (hv : ls[i]? = some (some (.inl x))) (hx : x + Int32.ofInt n = v) (hn : i < M.2.2.1) {ls' : List (Option MV)} (hs : ls.set i (some (.inl v)) = ls') (k : MW d M (pc + 3) ls' st h Q) : MW d M pc ls st h Q := by
  subst hs
  intro p l e s m args below meth c D ρ ca A C H locs la hP hS hl
  obtain ⟨j, hj⟩ := mmLv_pos (ρ := ρ) hv
  exact lv_iinc C.1 C.2.1 hd hl hj hx hn rfl (fun la' hl' => k p l e s m args below meth c D ρ ca A C H locs la' hP hS (mmL_set (v := .inl v) hl'))
theorem MW.iadd {x y v : Int32} (hd : decode M.2.1 pc = .ok (.iadd, 1)) (hv : x + y = v) (k : MW d M (pc + 1) ls (.inl v :: st) h Q) : MW d M pc ls (.inl y :: .inl x :: st) h Q := by
  subst hv
  exact fun p l e s m args below meth c D ρ ca A C H locs la hP hS hl => lv_iadd C.1 C.2.1 hd (k p l e s m args below meth c D ρ ca A C H locs la hP hS hl)
theorem MW.isub {x y v : Int32} (hd : decode M.2.1 pc = .ok (.isub, 1)) (hv : x - y = v) (k : MW d M (pc + 1) ls (.inl v :: st) h Q) : MW d M pc ls (.inl y :: .inl x :: st) h Q := by
  subst hv
  exact fun p l e s m args below meth c D ρ ca A C H locs la hP hS hl => lv_isub C.1 C.2.1 hd (k p l e s m args below meth c D ρ ca A C H locs la hP hS hl)
theorem MW.imul {x y v : Int32} (hd : decode M.2.1 pc = .ok (.imul, 1)) (hv : x * y = v) (k : MW d M (pc + 1) ls (.inl v :: st) h Q) : MW d M pc ls (.inl y :: .inl x :: st) h Q := by
  subst hv
  exact fun p l e s m args below meth c D ρ ca A C H locs la hP hS hl => lv_imul C.1 C.2.1 hd (k p l e s m args below meth c D ρ ca A C H locs la hP hS hl)
theorem MW.iand {x y v : Int32} (hd : decode M.2.1 pc = .ok (.iand, 1)) (hv : x &&& y = v) (k : MW d M (pc + 1) ls (.inl v :: st) h Q) : MW d M pc ls (.inl y :: .inl x :: st) h Q := by
  subst hv
  exact fun p l e s m args below meth c D ρ ca A C H locs la hP hS hl => lv_iand C.1 C.2.1 hd (k p l e s m args below meth c D ρ ca A C H locs la hP hS hl)
theorem MW.ixor {x y v : Int32} (hd : decode M.2.1 pc = .ok (.ixor, 1)) (hv : x ^^^ y = v) (k : MW d M (pc + 1) ls (.inl v :: st) h Q) : MW d M pc ls (.inl y :: .inl x :: st) h Q := by
  subst hv
  exact fun p l e s m args below meth c D ρ ca A C H locs la hP hS hl => lv_ixor C.1 C.2.1 hd (k p l e s m args below meth c D ρ ca A C H locs la hP hS hl)
theorem MW.idiv {x y v : Int32} (hd : decode M.2.1 pc = .ok (.idiv, 1)) (hne : ¬ y = 0) (hv : x / y = v) (k : MW d M (pc + 1) ls (.inl v :: st) h Q) : MW d M pc ls (.inl y :: .inl x :: st) h Q := by
  subst hv
  exact fun p l e s m args below meth c D ρ ca A C H locs la hP hS hl => lv_idiv C.1 C.2.1 hd hne (k p l e s m args below meth c D ρ ca A C H locs la hP hS hl)
theorem MW.irem {x y v : Int32} (hd : decode M.2.1 pc = .ok (.irem, 1)) (hne : ¬ y = 0) (hv : x - x / y * y = v) (k : MW d M (pc + 1) ls (.inl v :: st) h Q) : MW d M pc ls (.inl y :: .inl x :: st) h Q := by
  subst hv
  exact fun p l e s m args below meth c D ρ ca A C H locs la hP hS hl => lv_irem C.1 C.2.1 hd hne (k p l e s m args below meth c D ρ ca A C H locs la hP hS hl)
theorem MW.ineg {x v : Int32} (hd : decode M.2.1 pc = .ok (.ineg, 1)) (hv : -x = v) (k : MW d M (pc + 1) ls (.inl v :: st) h Q) : MW d M pc ls (.inl x :: st) h Q := by
  subst hv
  exact fun p l e s m args below meth c D ρ ca A C H locs la hP hS hl => lv_ineg C.1 C.2.1 hd (k p l e s m args below meth c D ρ ca A C H locs la hP hS hl)
theorem MW.ishl {x y v : Int32} (hd : decode M.2.1 pc = .ok (.ishl, 1)) (hv : x <<< (y &&& 31) = v) (k : MW d M (pc + 1) ls (.inl v :: st) h Q) : MW d M pc ls (.inl y :: .inl x :: st) h Q := by
  subst hv
  exact fun p l e s m args below meth c D ρ ca A C H locs la hP hS hl => lv_ishl C.1 C.2.1 hd (k p l e s m args below meth c D ρ ca A C H locs la hP hS hl)
theorem MW.ishr {x y v : Int32} (hd : decode M.2.1 pc = .ok (.ishr, 1)) (hv : x >>> (y &&& 31) = v) (k : MW d M (pc + 1) ls (.inl v :: st) h Q) : MW d M pc ls (.inl y :: .inl x :: st) h Q := by
  subst hv
  exact fun p l e s m args below meth c D ρ ca A C H locs la hP hS hl => lv_ishr C.1 C.2.1 hd (k p l e s m args below meth c D ρ ca A C H locs la hP hS hl)
theorem MW.iushr {x y v : Int32} (hd : decode M.2.1 pc = .ok (.iushr, 1)) (hv : (x.toUInt32 >>> (y.toUInt32 &&& Int32.toUInt32 31)).toInt32 = v) (k : MW d M (pc + 1) ls (.inl v :: st) h Q) : MW d M pc ls (.inl y :: .inl x :: st) h Q :=
  fun p l e s m args below meth c D ρ ca A C H locs la hP hS hl => lv_iushr C.1 C.2.1 hd hv (k p l e s m args below meth c D ρ ca A C H locs la hP hS hl)
theorem MW.i2c {x v : Int32} (hd : decode M.2.1 pc = .ok (.i2c, 1)) (hv : (x.toUInt32 % 65536).toInt32 = v) (k : MW d M (pc + 1) ls (.inl v :: st) h Q) : MW d M pc ls (.inl x :: st) h Q :=
  fun p l e s m args below meth c D ρ ca A C H locs la hP hS hl => lv_i2c C.1 C.2.1 hd hv (k p l e s m args below meth c D ρ ca A C H locs la hP hS hl)
theorem MW.dup {v : MV} (hd : decode M.2.1 pc = .ok (.dup, 1)) (k : MW d M (pc + 1) ls (v :: v :: st) h Q) : MW d M pc ls (v :: st) h Q :=
  fun p l e s m args below meth c D ρ ca A C H locs la hP hS hl => lv_dup C.1 C.2.1 hd (mmV_cat ρ v) (k p l e s m args below meth c D ρ ca A C H locs la hP hS hl)
theorem MW.dup2 {v w : MV} (hd : decode M.2.1 pc = .ok (.dup2, 1)) (k : MW d M (pc + 1) ls (v :: w :: v :: w :: st) h Q) : MW d M pc ls (v :: w :: st) h Q :=
  fun p l e s m args below meth c D ρ ca A C H locs la hP hS hl => lv_dup2_11 C.1 C.2.1 hd (mmV_cat ρ v) (mmV_cat ρ w) (k p l e s m args below meth c D ρ ca A C H locs la hP hS hl)
theorem MW.pop {v : MV} (hd : decode M.2.1 pc = .ok (.pop, 1)) (k : MW d M (pc + 1) ls st h Q) : MW d M pc ls (v :: st) h Q :=
  fun p l e s m args below meth c D ρ ca A C H locs la hP hS hl => lv_pop C.1 C.2.1 hd (mmV_cat ρ v) (k p l e s m args below meth c D ρ ca A C H locs la hP hS hl)
theorem MW.goto {off : Int} {tgt : Nat} (hd : decode M.2.1 pc = .ok (.goto off, 3)) (ht : (pc : Int) + off = (tgt : Int)) (k : MW d M tgt ls st h Q) : MW d M pc ls st h Q :=
  fun p l e s m args below meth c D ρ ca A C H locs la hP hS hl => lv_goto C.1 C.2.1 hd ht (k p l e s m args below meth c D ρ ca A C H locs la hP hS hl)
end MM
end
section
section MMB
variable {d : Nat} {M : MMeth} {pc : Nat} {ls : List (Option MV)} {st : List MV} {h : MH} {Q : Int32 → MH → Prop}
theorem MW.if_eq {x : Int32} {off : Int} {tgt : Nat} (hd : decode M.2.1 pc = .ok (.ifCond .eq off, 3)) (ht : (pc : Int) + off = (tgt : Int)) (kt : x = 0 → MW d M tgt ls st h Q) (kf : ¬ x = 0 → MW d M (pc + 3) ls st h Q) : MW d M pc ls (.inl x :: st) h Q :=
  fun p l e s m args below meth c D ρ ca A C H locs la hP hS hl => lv_if_eq C.1 C.2.1 hd ht (fun hc => kt hc p l e s m args below meth c D ρ ca A C H locs la hP hS hl) (fun hc => kf hc p l e s m args below meth c D ρ ca A C H locs la hP hS hl)
theorem MW.icmp_eq {x y : Int32} {off : Int} {tgt : Nat} (hd : decode M.2.1 pc = .ok (.if_icmp .eq off, 3)) (ht : (pc : Int) + off = (tgt : Int)) (kt : x = y → MW d M tgt ls st h Q) (kf : ¬ x = y → MW d M (pc + 3) ls st h Q) : MW d M pc ls (.inl y :: .inl x :: st) h Q :=
  fun p l e s m args below meth c D ρ ca A C H locs la hP hS hl => lv_icmp_eq C.1 C.2.1 hd ht (fun hc => kt hc p l e s m args below meth c D ρ ca A C H locs la hP hS hl) (fun hc => kf hc p l e s m args below meth c D ρ ca A C H locs la hP hS hl)
theorem MW.if_ne {x : Int32} {off : Int} {tgt : Nat} (hd : decode M.2.1 pc = .ok (.ifCond .ne off, 3)) (ht : (pc : Int) + off = (tgt : Int)) (kt : ¬ x = 0 → MW d M tgt ls st h Q) (kf : x = 0 → MW d M (pc + 3) ls st h Q) : MW d M pc ls (.inl x :: st) h Q :=
  fun p l e s m args below meth c D ρ ca A C H locs la hP hS hl => lv_if_ne C.1 C.2.1 hd ht (fun hc => kt hc p l e s m args below meth c D ρ ca A C H locs la hP hS hl) (fun hc => kf hc p l e s m args below meth c D ρ ca A C H locs la hP hS hl)
theorem MW.icmp_ne {x y : Int32} {off : Int} {tgt : Nat} (hd : decode M.2.1 pc = .ok (.if_icmp .ne off, 3)) (ht : (pc : Int) + off = (tgt : Int)) (kt : ¬ x = y → MW d M tgt ls st h Q) (kf : x = y → MW d M (pc + 3) ls st h Q) : MW d M pc ls (.inl y :: .inl x :: st) h Q :=
  fun p l e s m args below meth c D ρ ca A C H locs la hP hS hl => lv_icmp_ne C.1 C.2.1 hd ht (fun hc => kt hc p l e s m args below meth c D ρ ca A C H locs la hP hS hl) (fun hc => kf hc p l e s m args below meth c D ρ ca A C H locs la hP hS hl)
theorem MW.if_lt {x : Int32} {off : Int} {tgt : Nat} (hd : decode M.2.1 pc = .ok (.ifCond .lt off, 3)) (ht : (pc : Int) + off = (tgt : Int)) (kt : x < 0 → MW d M tgt ls st h Q) (kf : ¬ x < 0 → MW d M (pc + 3) ls st h Q) : MW d M pc ls (.inl x :: st) h Q :=
  fun p l e s m args below meth c D ρ ca A C H locs la hP hS hl => lv_if_lt C.1 C.2.1 hd ht (fun hc => kt hc p l e s m args below meth c D ρ ca A C H locs la hP hS hl) (fun hc => kf hc p l e s m args below meth c D ρ ca A C H locs la hP hS hl)
theorem MW.icmp_lt {x y : Int32} {off : Int} {tgt : Nat} (hd : decode M.2.1 pc = .ok (.if_icmp .lt off, 3)) (ht : (pc : Int) + off = (tgt : Int)) (kt : x < y → MW d M tgt ls st h Q) (kf : ¬ x < y → MW d M (pc + 3) ls st h Q) : MW d M pc ls (.inl y :: .inl x :: st) h Q :=
  fun p l e s m args below meth c D ρ ca A C H locs la hP hS hl => lv_icmp_lt C.1 C.2.1 hd ht (fun hc => kt hc p l e s m args below meth c D ρ ca A C H locs la hP hS hl) (fun hc => kf hc p l e s m args below meth c D ρ ca A C H locs la hP hS hl)
theorem MW.if_ge {x : Int32} {off : Int} {tgt : Nat} (hd : decode M.2.1 pc = .ok (.ifCond .ge off, 3)) (ht : (pc : Int) + off = (tgt : Int)) (kt : 0 ≤ x → MW d M tgt ls st h Q) (kf : ¬ 0 ≤ x → MW d M (pc + 3) ls st h Q) : MW d M pc ls (.inl x :: st) h Q :=
  fun p l e s m args below meth c D ρ ca A C H locs la hP hS hl => lv_if_ge C.1 C.2.1 hd ht (fun hc => kt hc p l e s m args below meth c D ρ ca A C H locs la hP hS hl) (fun hc => kf hc p l e s m args below meth c D ρ ca A C H locs la hP hS hl)
theorem MW.icmp_ge {x y : Int32} {off : Int} {tgt : Nat} (hd : decode M.2.1 pc = .ok (.if_icmp .ge off, 3)) (ht : (pc : Int) + off = (tgt : Int)) (kt : y ≤ x → MW d M tgt ls st h Q) (kf : ¬ y ≤ x → MW d M (pc + 3) ls st h Q) : MW d M pc ls (.inl y :: .inl x :: st) h Q :=
  fun p l e s m args below meth c D ρ ca A C H locs la hP hS hl => lv_icmp_ge C.1 C.2.1 hd ht (fun hc => kt hc p l e s m args below meth c D ρ ca A C H locs la hP hS hl) (fun hc => kf hc p l e s m args below meth c D ρ ca A C H locs la hP hS hl)
theorem MW.if_gt {x : Int32} {off : Int} {tgt : Nat} (hd : decode M.2.1 pc = .ok (.ifCond .gt off, 3)) (ht : (pc : Int) + off = (tgt : Int)) (kt : 0 < x → MW d M tgt ls st h Q) (kf : ¬ 0 < x → MW d M (pc + 3) ls st h Q) : MW d M pc ls (.inl x :: st) h Q :=
  fun p l e s m args below meth c D ρ ca A C H locs la hP hS hl => lv_if_gt C.1 C.2.1 hd ht (fun hc => kt hc p l e s m args below meth c D ρ ca A C H locs la hP hS hl) (fun hc => kf hc p l e s m args below meth c D ρ ca A C H locs la hP hS hl)
theorem MW.icmp_gt {x y : Int32} {off : Int} {tgt : Nat} (hd : decode M.2.1 pc = .ok (.if_icmp .gt off, 3)) (ht : (pc : Int) + off = (tgt : Int)) (kt : y < x → MW d M tgt ls st h Q) (kf : ¬ y < x → MW d M (pc + 3) ls st h Q) : MW d M pc ls (.inl y :: .inl x :: st) h Q :=
  fun p l e s m args below meth c D ρ ca A C H locs la hP hS hl => lv_icmp_gt C.1 C.2.1 hd ht (fun hc => kt hc p l e s m args below meth c D ρ ca A C H locs la hP hS hl) (fun hc => kf hc p l e s m args below meth c D ρ ca A C H locs la hP hS hl)
theorem MW.if_le {x : Int32} {off : Int} {tgt : Nat} (hd : decode M.2.1 pc = .ok (.ifCond .le off, 3)) (ht : (pc : Int) + off = (tgt : Int)) (kt : x ≤ 0 → MW d M tgt ls st h Q) (kf : ¬ x ≤ 0 → MW d M (pc + 3) ls st h Q) : MW d M pc ls (.inl x :: st) h Q :=
  fun p l e s m args below meth c D ρ ca A C H locs la hP hS hl => lv_if_le C.1 C.2.1 hd ht (fun hc => kt hc p l e s m args below meth c D ρ ca A C H locs la hP hS hl) (fun hc => kf hc p l e s m args below meth c D ρ ca A C H locs la hP hS hl)
theorem MW.icmp_le {x y : Int32} {off : Int} {tgt : Nat} (hd : decode M.2.1 pc = .ok (.if_icmp .le off, 3)) (ht : (pc : Int) + off = (tgt : Int)) (kt : x ≤ y → MW d M tgt ls st h Q) (kf : ¬ x ≤ y → MW d M (pc + 3) ls st h Q) : MW d M pc ls (.inl y :: .inl x :: st) h Q :=
  fun p l e s m args below meth c D ρ ca A C H locs la hP hS hl => lv_icmp_le C.1 C.2.1 hd ht (fun hc => kt hc p l e s m args below meth c D ρ ca A C H locs la hP hS hl) (fun hc => kf hc p l e s m args below meth c D ρ ca A C H locs la hP hS hl)
end MMB
end
section
-- rows that read and write cells
/-- the pool's entry ix of the class own names the field f of the class number ci -/
def mmFL (own : String) (ix ci f : Nat) : Prop := ∃ (C : String) (T : u_T) (N : Nat), vwCl[ci]? = some (C, T, N) ∧ f < N ∧ (∀ w ∈ u_ws C T N, w ∈ mmWall) ∧ Cond.fieldLink own ix (T f).1 (T f).2.1 (T f).2.2.1 ∈ mmWall
/-- the same of a field that is no final one and holds whole numbers of the type ty -/
def mmFP (own : String) (ix ci f : Nat) (ty : FieldType) : Prop := ∃ (C : String) (T : u_T) (N : Nat), vwCl[ci]? = some (C, T, N) ∧ f < N ∧ (∀ w ∈ u_ws C T N, w ∈ mmWall) ∧ Cond.fieldLink own ix (T f).1 (T f).2.1 (T f).2.2.1 ∈ mmWall ∧ (T f).2.2.2 = false ∧ parseFieldDescriptor (T f).2.2.1 = some ty ∧ (∃ ty0 : Nat → FieldType, ∀ k, k < N → parseFieldDescriptor (T k).2.2.1 = some (ty0 k)) ∧ (∀ a, a < N → ∀ b, b < N → a ≠ b → (T a).2.1 ≠ (T b).2.1)
/-- the cell k is an object of the class number ci; its field f holds a whole number (none), or the cell j for ever (some j) -/
def mmFk (k ci f : Nat) (o : Option Nat) : Prop := ∃ fk : List (Option Nat), mmLay[k]? = some (.inl (ci, fk)) ∧ fk[f]? = some o
def mmIsObj (k ci : Nat) : Prop := ∃ fk : List (Option Nat), mmLay[k]? = some (.inl (ci, fk))
def mmAr (k ti n : Nat) : Prop := mmLay[k]? = some (.inr (ti, n, none))
section MMH
variable {d : Nat} {M : MMeth} {pc : Nat} {ls : List (Option MV)} {st : List MV} {h : MH} {Q : Int32 → MH → Prop}
theorem MW.getI {ix k ci f : Nat} {v : Int32} (hd : decode M.2.1 pc = .ok (.getfield ix, 3)) (hf : mmFL M.1.cls ix ci f) (hk : mmFk k ci f none) (hv : h k f = v) (kk : MW d M (pc + 3) ls (.inl v :: st) h Q) : MW d M pc ls (.inr k :: st) h Q := by
  subst hv
  intro p l e s m args below meth c D ρ ca A C H locs la hP hS hl
  obtain ⟨Cn, T, N, h1, h2, h3, h4⟩ := hf
  obtain ⟨fk, h5, h6⟩ := hk
  refine va_get C.1 C.2.1 C.2.2.2.2.1 h3 C.2.2.2.1 C.2.2.2.2.2.2.2.1 hP k (mmWorld_get h5) h1 f h2 (C.2.2.2.2.1 _ h4) (fun _ hx => hx) (v := .int (h k f)) ?_ hd (kk p l e s m args below meth c D ρ ca A C H locs la hP hS hl)
  simp [List.getElem?_mapIdx, h6, mmFv]
theorem MW.getR {ix k ci f j : Nat} (hd : decode M.2.1 pc = .ok (.getfield ix, 3)) (hf : mmFL M.1.cls ix ci f) (hk : mmFk k ci f (some j)) (kk : MW d M (pc + 3) ls (.inr j :: st) h Q) : MW d M pc ls (.inr k :: st) h Q := by
  intro p l e s m args below meth c D ρ ca A C H locs la hP hS hl
  obtain ⟨Cn, T, N, h1, h2, h3, h4⟩ := hf
  obtain ⟨fk, h5, h6⟩ := hk
  refine va_get C.1 C.2.1 C.2.2.2.2.1 h3 C.2.2.2.1 C.2.2.2.2.2.2.2.1 hP k (mmWorld_get h5) h1 f h2 (C.2.2.2.2.1 _ h4) (fun _ hx => hx) (v := .ref (ρ j)) ?_ hd (kk p l e s m args below meth c D ρ ca A C H locs la hP hS hl)
  simp [List.getElem?_mapIdx, h6, mmFv]
theorem mm_mapIdx_set {ρ : Nat → Nat} {g : Nat → Int32} {fk : List (Option Nat)} {f : Nat} {v : Int32} (hf : fk[f]? = some none) : (fk.mapIdx (fun i o => mmFv ρ (g i) o)).set f (.int v) = fk.mapIdx (fun i o => mmFv ρ (upd g f v i) o) := by
  apply List.ext_getElem?
  intro j
  rw [List.getElem?_set]
  have hlt : f < fk.length := (List.getElem?_eq_some_iff.mp hf).1
  by_cases hj : f = j
  · subst hj
    rw [if_pos rfl, if_pos (by simpa using hlt)]
    simp [List.getElem?_mapIdx, hf, mmFv, upd]
  · rw [if_neg hj]
    simp only [List.getElem?_mapIdx]
    cases fk[j]? with
    | none => rfl
    | some o => simp [upd, if_neg (fun q => hj (Eq.symm q) : ¬ j = f)]
theorem MW.put {ix k ci f : Nat} {ty : FieldType} {v : Int32} (hd : decode M.2.1 pc = .ok (.putfield ix, 3)) (hf : mmFP M.1.cls ix ci f ty) (hk : mmFk k ci f none) (hn : narrow ty (.int v) = .int v) (hfit : fits ty (.int v) = true) (kk : MW d M (pc + 3) ls st (mmSet h k f v) Q) : MW d M pc ls (.inl v :: .inr k :: st) h Q := by
  intro p l e s m args below meth c D ρ ca A C H locs la hP hS hl
  obtain ⟨Cn, T, N, h1, h2, h3, h4, h7, h8, ⟨ty0, h9⟩, h10⟩ := hf
  obtain ⟨fk, h5, h6⟩ := hk
  have hlt : f < fk.length := (List.getElem?_eq_some_iff.mp h6).1
  refine va_put C.1 C.2.1 C.2.2.2.2.1 h3 ty0 h9 h10 C.2.2.2.1 C.2.2.2.2.2.2.2.1 hP (C.2.2.2.2.2.2.2.2.1 h) hS k (mmWorld_get h5) h1 f h2 (C.2.2.2.2.1 _ h4) (fun _ hx => hx) h7 h8 hn hfit (by simpa using hlt) hd (fun H1 locs1 hP1 _ hS1 => ?_)
  have e1 : (mmWorld ρ ca h).set k (ρ k, .inr (ci, (fk.mapIdx (fun f o => mmFv ρ (h k f) o)).set f (.int v))) = mmWorld ρ ca (mmSet h k f v) := mmWorld_set h5 (by show Sum.inr (ci, fk.mapIdx _) = Sum.inr (ci, _); rw [← mm_mapIdx_set h6])
  have hP1 : va_P D vwCl ((mmWorld ρ ca h).set k (ρ k, .inr (ci, (fk.mapIdx (fun f o => mmFv ρ (h k f) o)).set f (.int v)))) H1 := hP1
  rw [e1] at hP1
  exact kk p l e s m args below meth c D ρ ca A C H1 locs1 la hP1 hS1 hl
theorem MW.iald {k n : Nat} {i v : Int32} (hd : decode M.2.1 pc = .ok (.iaload, 1)) (hk : mmAr k 0 n) (hi : vp_in i n) (hv : h k i.toNatClampNeg = v) (kk : MW d M (pc + 1) ls (.inl v :: st) h Q) : MW d M pc ls (.inl i :: .inr k :: st) h Q := by
  subst hv
  exact fun p l e s m args below meth c D ρ ca A C H locs la hP hS hl => va_iald C.1 C.2.1 C.2.2.2.2.2.2.2.1 hP k 0 (mmWorld_get hk) rfl hi hd (kk p l e s m args below meth c D ρ ca A C H locs la hP hS hl)
theorem MW.cald {k n : Nat} {i v : Int32} (hd : decode M.2.1 pc = .ok (.caload, 1)) (hk : mmAr k 1 n) (hi : vp_in i n) (hv : h k i.toNatClampNeg = v) (kk : MW d M (pc + 1) ls (.inl v :: st) h Q) : MW d M pc ls (.inl i :: .inr k :: st) h Q := by
  subst hv
  exact fun p l e s m args below meth c D ρ ca A C H locs la hP hS hl => va_cald C.1 C.2.1 C.2.2.2.2.2.2.2.1 hP k 1 (mmWorld_get hk) rfl hi hd (kk p l e s m args below meth c D ρ ca A C H locs la hP hS hl)
theorem MW.zald {k n : Nat} {i v : Int32} (hd : decode M.2.1 pc = .ok (.baload, 1)) (hk : mmAr k 2 n) (hi : vp_in i n) (hv : h k i.toNatClampNeg = v) (kk : MW d M (pc + 1) ls (.inl v :: st) h Q) : MW d M pc ls (.inl i :: .inr k :: st) h Q := by
  subst hv
  exact fun p l e s m args below meth c D ρ ca A C H locs la hP hS hl => va_zald C.1 C.2.1 C.2.2.2.2.2.2.2.1 hP k 2 (mmWorld_get hk) rfl hi hd (kk p l e s m args below meth c D ρ ca A C H locs la hP hS hl)
theorem MW.aald {k n j : Nat} {rs : List Nat} {i : Int32} (hd : decode M.2.1 pc = .ok (.aaload, 1)) (hk : mmLay[k]? = some (.inr (3, n, some rs))) (hi : vp_in i n) (hj : rs[i.toNatClampNeg]? = some j) (kk : MW d M (pc + 1) ls (.inr j :: st) h Q) : MW d M pc ls (.inl i :: .inr k :: st) h Q := by
  intro p l e s m args below meth c D ρ ca A C H locs la hP hS hl
  refine va_aldq C.1 C.2.1 C.2.2.2.2.2.2.2.1 hP k 3 (mmWorld_get hk) rfl hi hd ?_
  simp only [hj, Option.map_some]
  exact kk p l e s m args below meth c D ρ ca A C H locs la hP hS hl
theorem MW.alen {k ti n : Nat} {v : Int32} {ty : FieldType} (hd : decode M.2.1 pc = .ok (.arraylength, 1)) (hk : mmAr k ti n) (ht : ti = 0) (hv : Int32.ofNat n = v) (kk : MW d M (pc + 1) ls (.inl v :: st) h Q) : MW d M pc ls (.inr k :: st) h Q := by
  subst ht
  exact fun p l e s m args below meth c D ρ ca A C H locs la hP hS hl => va_alen C.1 C.2.1 C.2.2.2.2.2.2.2.1 hP k 0 (mmWorld_get hk) (ty := .int) rfl hv hd (kk p l e s m args below meth c D ρ ca A C H locs la hP hS hl)
theorem MW.iast {k n : Nat} {i v : Int32} (hd : decode M.2.1 pc = .ok (.iastore, 1)) (hk : mmAr k 0 n) (hi : vp_in i n) (kk : MW d M (pc + 1) ls st (mmSet h k i.toNatClampNeg v) Q) : MW d M pc ls (.inl v :: .inl i :: .inr k :: st) h Q := by
  intro p l e s m args below meth c D ρ ca A C H locs la hP hS hl
  refine va_iast C.1 C.2.1 C.2.2.2.2.2.2.2.1 hP (C.2.2.2.2.2.2.2.2.1 h) hS k 0 (mmWorld_get hk) rfl hi hd (fun H1 locs1 hP1 _ hS1 => ?_)
  have e1 : (mmWorld ρ ca h).set k (ρ k, .inl (ca 0, n, .inl (upd (h k) i.toNatClampNeg v))) = mmWorld ρ ca (mmSet h k i.toNatClampNeg v) := mmWorld_set hk rfl
  rw [e1] at hP1
  exact kk p l e s m args below meth c D ρ ca A C H1 locs1 la hP1 hS1 hl
theorem MW.cast {k n : Nat} {i v w : Int32} (hd : decode M.2.1 pc = .ok (.castore, 1)) (hk : mmAr k 1 n) (hi : vp_in i n) (hw : vp_nar .char v = w) (kk : MW d M (pc + 1) ls st (mmSet h k i.toNatClampNeg w) Q) : MW d M pc ls (.inl v :: .inl i :: .inr k :: st) h Q := by
  subst hw
  intro p l e s m args below meth c D ρ ca A C H locs la hP hS hl
  refine va_cast C.1 C.2.1 C.2.2.2.2.2.2.2.1 hP (C.2.2.2.2.2.2.2.2.1 h) hS k 1 (mmWorld_get hk) rfl hi hd (fun H1 locs1 hP1 _ hS1 => ?_)
  have e1 : (mmWorld ρ ca h).set k (ρ k, .inl (ca 1, n, .inl (upd (h k) i.toNatClampNeg (vp_nar .char v)))) = mmWorld ρ ca (mmSet h k i.toNatClampNeg (vp_nar .char v)) := mmWorld_set hk rfl
  rw [e1] at hP1
  exact kk p l e s m args below meth c D ρ ca A C H1 locs1 la hP1 hS1 hl
theorem MW.zast {k n : Nat} {i v w : Int32} (hd : decode M.2.1 pc = .ok (.bastore, 1)) (hk : mmAr k 2 n) (hi : vp_in i n) (hw : vp_nar .boolean v = w) (kk : MW d M (pc + 1) ls st (mmSet h k i.toNatClampNeg w) Q) : MW d M pc ls (.inl v :: .inl i :: .inr k :: st) h Q := by
  subst hw
  intro p l e s m args below meth c D ρ ca A C H locs la hP hS hl
  refine va_zast C.1 C.2.1 C.2.2.2.2.2.2.2.1 hP (C.2.2.2.2.2.2.2.2.1 h) hS k 2 (mmWorld_get hk) rfl hi hd (fun H1 locs1 hP1 _ hS1 => ?_)
  have e1 : (mmWorld ρ ca h).set k (ρ k, .inl (ca 2, n, .inl (upd (h k) i.toNatClampNeg (vp_nar .boolean v)))) = mmWorld ρ ca (mmSet h k i.toNatClampNeg (vp_nar .boolean v)) := mmWorld_set hk rfl
  rw [e1] at hP1
  exact kk p l e s m args below meth c D ρ ca A C H1 locs1 la hP1 hS1 hl
theorem MW.iret {v : Int32} {ty : FieldType} (hd : decode M.2.1 pc = .ok (.ireturn, 1)) (hr : M.2.2.2 = some ty) (hn : narrow ty (.int v) = .int v) (hq : Q v h) : MW d M pc ls (.inl v :: []) h Q := by
  intro p l e s m args below meth c D ρ ca A C H locs la hP hS hl
  have hlocks : meth.locks = false := C.2.2.2.2.2.2.1
  have hK : va_K D vwCl (mmTys ca) s := C.2.2.2.2.2.2.2.1
  refine W.zret C.1 C.2.1 (C.2.2.2.2.2.1.trans hr) hn (fun t ht hW => ?_) hS.2.2 hd
  unfold mmQc
  rw [hr]
  exact ⟨⟨v, h, rfl, hq, by unfold mmB; rw [ht]; exact ⟨hP, va_K.moved hW.alike hK⟩⟩, hS.F ht⟩
theorem MW.vret (hd : decode M.2.1 pc = .ok (.return_, 1)) (hr : M.2.2.2 = none) (hq : Q 0 h) : MW d M pc ls [] h Q := by
  intro p l e s m args below meth c D ρ ca A C H locs la hP hS hl
  have hlocks : meth.locks = false := C.2.2.2.2.2.2.1
  have hK : va_K D vwCl (mmTys ca) s := C.2.2.2.2.2.2.2.1
  refine W.vret C.1 C.2.1 (C.2.2.2.2.2.1.trans hr) (fun t ht hW => ?_) hS.2.2 hd
  unfold mmQc
  rw [hr]
  exact ⟨⟨h, rfl, hq, by unfold mmB; rw [ht]; exact ⟨hP, va_K.moved hW.alike hK⟩⟩, hS.F ht⟩
theorem MW.tableOut {dflt lo hi : Int} {offs : Array Int} {len tgt : Nat} {x : Int32} (hd : decode M.2.1 pc = .ok (.tableswitch dflt lo hi offs, len)) (hx : x.toInt < lo ∨ hi < x.toInt) (ht : (pc : Int) + dflt = (tgt : Int)) (k : MW d M tgt ls st h Q) : MW d M pc ls (.inl x :: st) h Q :=
  fun p l e s m args below meth c D ρ ca A C H locs la hP hS hl => lv_tableOut C.1 C.2.1 hd hx ht (k p l e s m args below meth c D ρ ca A C H locs la hP hS hl)
theorem MW.tableIn {dflt lo hi off : Int} {offs : Array Int} {len tgt : Nat} {x : Int32} (hd : decode M.2.1 pc = .ok (.tableswitch dflt lo hi offs, len)) (h1 : ¬ x.toInt < lo) (h2 : ¬ hi < x.toInt) (ho : offs[(x.toInt - lo).toNat]? = some off) (ht : (pc : Int) + off = (tgt : Int)) (k : MW d M tgt ls st h Q) : MW d M pc ls (.inl x :: st) h Q :=
  fun p l e s m args below meth c D ρ ca A C H locs la hP hS hl => lv_tableIn C.1 C.2.1 hd h1 h2 ho ht (k p l e s m args below meth c D ρ ca A C H locs la hP hS hl)
end MMH
end
section
-- calls
/-- the pool's entry ix of the class own calls the method M2 with n arguments: a static one -/
def mmCS (own : String) (ix : Nat) (M2 : MMeth) (n : Nat) : Prop := Cond.methodLink own ix M2.1 ∈ mmWall ∧ Cond.initialized M2.1.cls ∈ mmWall ∧ Cond.code M2.1 M2.2.1 M2.2.2.1 M2.2.2.2 ∈ mmWall ∧ (M2.1.cls ≠ "java/lang/invoke/MethodHandle" ∧ M2.1.cls ≠ "java/lang/invoke/VarHandle") ∧ (parseMethodDescriptor M2.1.desc).map (fun z => z.parameters.length) = some n ∧ M2.2.2.1 ≤ 13 ∧ Cond.static M2.1 ∈ mmWall
/-- one of an object, of the class number ci -/
def mmCV (own : String) (ix : Nat) (M2 : MMeth) (n ci : Nat) : Prop := Cond.methodLink own ix M2.1 ∈ mmWall ∧ Cond.initialized M2.1.cls ∈ mmWall ∧ Cond.code M2.1 M2.2.1 M2.2.2.1 M2.2.2.2 ∈ mmWall ∧ (M2.1.cls ≠ "java/lang/invoke/MethodHandle" ∧ M2.1.cls ≠ "java/lang/invoke/VarHandle") ∧ (parseMethodDescriptor M2.1.desc).map (fun z => z.parameters.length) = some n ∧ M2.2.2.1 ≤ 13 ∧ Cond.instanceMethod M2.1 ∈ mmWall ∧ Cond.selects M2.1.cls M2.1 M2.1 ∈ mmWall ∧ ∃ (T : u_T) (N : Nat), vwCl[ci]? = some (M2.1.cls, T, N)
section MMC
variable {d : Nat} {M : MMeth} {pc : Nat} {ls : List (Option MV)} {st : List MV} {h : MH} {Q : Int32 → MH → Prop}
theorem mm_callB {d2 n : Nat} {own : String} {ix : Nat} {M2 : MMeth} {s : State} {args : Array Value} (hts : ∀ w ∈ mmWall, w.before args s = true) (h1 : Cond.methodLink own ix M2.1 ∈ mmWall) (h2 : Cond.initialized M2.1.cls ∈ mmWall) (h3 : Cond.code M2.1 M2.2.1 M2.2.2.1 M2.2.2.2 ∈ mmWall) (h4 : M2.1.cls ≠ "java/lang/invoke/MethodHandle" ∧ M2.1.cls ≠ "java/lang/invoke/VarHandle") (h5 : (parseMethodDescriptor M2.1.desc).map (fun z => z.parameters.length) = some n) (h6 : M2.2.2.1 ≤ 13) (hdd : d2 + 1 ≤ d) :
    CallB (mmRoom d) s args own ix M2.1 M2.2.1 M2.2.2.1 M2.2.2.2 (mmWs M2) (mmRoom d2) 0 0 n := by
  refine ⟨rfl, rfl, hdd, ?_, ?_, List.mem_cons_self, hts _ h3, hts _ h2, h4, fun sig h => ?_, hts _ h1⟩
  · show 8 + (M2.2.2.1 + 11) + 32 * d2 ≤ 32 * d
    omega
  · intro w hw a' U hW
    have hwm : w ∈ mmWall := by
      rcases List.mem_cons.mp hw with rfl | hw
      · exact h3
      · exact hw
    exact word_at hW (mmW_good hwm) (hts w hwm)
  · rw [h] at h5
    exact (Option.some.inj h5).symm
theorem mm_pc {vs : List MV} {ρ : Nat → Nat} {D : va_G} {ca : Nat → ClassId} {sz : Nat} : FrameBlind (va_Pc (vs.map (mmV ρ)) (fun U => U.heap.size = sz ∧ mmB D ρ ca h U)) := by
  intro a U g mk q
  obtain ⟨q1, q2, q3, q4⟩ := q
  exact ⟨q1, q2, q3, va_K.moved (u := U) (U := U.calling g mk a) (Vm.Alike.refl U.vm) q4⟩
theorem mm_pre {vs : List MV} {ρ : Nat → Nat} {D : va_G} {ca : Nat → ClassId} {s : State} {H : Heap} (hP : va_P D vwCl (mmWorld ρ ca h) H) (hK : va_K D vwCl (mmTys ca) s) : PreS s H (va_Pc (vs.map (mmV ρ)) (fun U => U.heap.size = H.size ∧ mmB D ρ ca h U)) (vs.map (mmV ρ)) :=
  ⟨mm_pc, fun U hU hW => ⟨rfl, by rw [hU], by unfold mmB; rw [hU]; exact ⟨hP, va_K.moved hW.alike hK⟩⟩⟩
theorem mm_free {ρ : Nat → Nat} {ca : Nat → ClassId} {A : Nat → Prop} {H0 H : Heap} {locs : List Loc} (hD : va_D A (mmWorld ρ ca h)) (hS : va_S A H0 H locs) (hA : ∀ q, H0.size ≤ q → A q) : ∀ q, va_A (mmWorld ρ ca h) H.size q → A q := by
  intro q hq
  rcases hq with ⟨k, e, hk⟩ | hq
  · exact hD.2 k (q, e) hk
  · exact hA q (Nat.le_trans hS.1 hq)
theorem mm_sum (ρ : Nat → Nat) (st : List MV) : ((st.map (mmV ρ)).map fun v => v.category).sum = st.length := by
  induction st with
  | nil => rfl
  | cons a t ih =>
    simp only [List.map_cons, List.sum_cons, List.length_cons, mmV_cat, ih]
    omega
theorem mm_room {m : MethodId} {pc : Nat} {la : Array Slot} {stk : List Value} (ρ : Nat → Nat) (st : List MV) (hs : st.length ≤ 8) : 2 * (F0 m pc la stk).monitorRoom + ((st.map (mmV ρ)).map fun v => v.category).sum ≤ 8 :=
  lv_room (by rw [mm_sum]; exact hs)
theorem MW.callS {d2 ix : Nat} {M2 : MMeth} {as : List MV} {st0 : List MV} {Q2 : Int32 → MH → Prop} {ty : FieldType} (hd : decode M.2.1 pc = .ok (.invokestatic ix, 3)) (hl2 : mmCS M.1.cls ix M2 as.length) (hr2 : M2.2.2.2 = some ty) (hdd : d2 + 1 ≤ d) (hst : st.length ≤ 8) (hs : st0 = as.reverse ++ st) (hc : MC d2 M2 as h Q2) (kk : ∀ r h', Q2 r h' → MW d M (pc + 3) ls (.inl r :: st) h' Q) : MW d M pc ls st0 h Q := by
  subst hs
  intro p l e s m args below meth c D ρ ca A C H locs la hP hS hl
  obtain ⟨c1, c2, c3, c4, c5, c6, c7⟩ := hl2
  have hM := hc l D ρ ca H.size ((C.2.2.2.2.2.2.2.2.1 h).weaken (fun _ _ _ _ => trivial))
  have hF := mm_free (C.2.2.2.2.2.2.2.2.1 h) hS C.2.2.2.2.2.2.2.2.2
  have hrun := va_runS (H := H) (locs := locs) (cells := 0) (slots := 0) (e := e) (below := below) (meth := meth) (rest := st.map (mmV ρ)) (g := F0 m pc la ((as.reverse ++ st).map (mmV ρ))) ⟨C.1, C.2.1, C.2.2.1, C.2.2.2.1, C.2.2.2.2.1⟩ hM ⟨mm_callB C.2.2.2.2.1 c1 c2 c3 c4 c5 c6 hdd, C.2.2.2.2.1 _ c7⟩ (mm_pre hP C.2.2.2.2.2.2.2.1) rfl (by simp) hl.1 (by simp) (mm_room ρ st hst) hd ⟨Nat.zero_le _, Nat.zero_le _⟩
  unfold mmQc at hrun
  rw [hr2] at hrun
  exact va_calli hrun hS (fun q _ hq => hF q hq) hF (fun r u t H1 locs1 ht hvm hw hB hz1 hk1 hS1 => kk r u hw p l e s m args below meth c D ρ ca A C H1 locs1 la (ht ▸ hB.1) hS1 hl)
theorem MW.callSv {d2 ix : Nat} {M2 : MMeth} {as : List MV} {st0 : List MV} {Q2 : Int32 → MH → Prop} (hd : decode M.2.1 pc = .ok (.invokestatic ix, 3)) (hl2 : mmCS M.1.cls ix M2 as.length) (hr2 : M2.2.2.2 = none) (hdd : d2 + 1 ≤ d) (hst : st.length ≤ 8) (hs : st0 = as.reverse ++ st) (hc : MC d2 M2 as h Q2) (kk : ∀ h', Q2 0 h' → MW d M (pc + 3) ls st h' Q) : MW d M pc ls st0 h Q := by
  subst hs
  intro p l e s m args below meth c D ρ ca A C H locs la hP hS hl
  obtain ⟨c1, c2, c3, c4, c5, c6, c7⟩ := hl2
  have hM := hc l D ρ ca H.size ((C.2.2.2.2.2.2.2.2.1 h).weaken (fun _ _ _ _ => trivial))
  have hF := mm_free (C.2.2.2.2.2.2.2.2.1 h) hS C.2.2.2.2.2.2.2.2.2
  have hrun := va_runS (H := H) (locs := locs) (cells := 0) (slots := 0) (e := e) (below := below) (meth := meth) (rest := st.map (mmV ρ)) (g := F0 m pc la ((as.reverse ++ st).map (mmV ρ))) ⟨C.1, C.2.1, C.2.2.1, C.2.2.2.1, C.2.2.2.2.1⟩ hM ⟨mm_callB C.2.2.2.2.1 c1 c2 c3 c4 c5 c6 hdd, C.2.2.2.2.1 _ c7⟩ (mm_pre hP C.2.2.2.2.2.2.2.1) rfl (by simp) hl.1 (by simp) (mm_room ρ st hst) hd ⟨Nat.zero_le _, Nat.zero_le _⟩
  unfold mmQc at hrun
  rw [hr2] at hrun
  exact va_callv hrun hS (fun q _ hq => hF q hq) hF (fun u t H1 locs1 ht hvm hw hB hz1 hk1 hS1 => kk u hw p l e s m args below meth c D ρ ca A C H1 locs1 la (ht ▸ hB.1) hS1 hl)
theorem MW.callV {d2 ix k ci : Nat} {M2 : MMeth} {as : List MV} {st0 : List MV} {Q2 : Int32 → MH → Prop} {ty : FieldType} (hd : decode M.2.1 pc = .ok (.invokevirtual ix, 3)) (hl2 : mmCV M.1.cls ix M2 as.length ci) (hk : mmIsObj k ci) (hr2 : M2.2.2.2 = some ty) (hdd : d2 + 1 ≤ d) (hst : st.length ≤ 8) (hs : st0 = as.reverse ++ .inr k :: st) (hc : MC d2 M2 (.inr k :: as) h Q2) (kk : ∀ r h', Q2 r h' → MW d M (pc + 3) ls (.inl r :: st) h' Q) : MW d M pc ls st0 h Q := by
  subst hs
  intro p l e s m args below meth c D ρ ca A C H locs la hP hS hl
  obtain ⟨c1, c2, c3, c4, c5, c6, c7, c8, T, N, c9⟩ := hl2
  obtain ⟨fk, hk⟩ := hk
  have hM := hc l D ρ ca H.size ((C.2.2.2.2.2.2.2.2.1 h).weaken (fun _ _ _ _ => trivial))
  have hF := mm_free (C.2.2.2.2.2.2.2.2.1 h) hS C.2.2.2.2.2.2.2.2.2
  have hpre := mm_pre (vs := .inr k :: as) hP C.2.2.2.2.2.2.2.1
  have hrun := va_runV (H := H) (locs := locs) (cells := 0) (slots := 0) (e := e) (below := below) (meth := meth) (As := as.map (mmV ρ)) (b := ρ k) (C := M2.1.cls) (rest := st.map (mmV ρ)) (g := F0 m pc la ((as.reverse ++ .inr k :: st).map (mmV ρ))) ⟨C.1, C.2.1, C.2.2.1, C.2.2.2.1, C.2.2.2.2.1⟩ hM ⟨mm_callB C.2.2.2.2.1 c1 c2 c3 c4 c5 c6 hdd, C.2.2.2.2.1 _ c7, C.2.2.2.2.1 _ c8⟩ ⟨hpre.1, va_recv C.2.2.2.2.2.2.2.1 hP c9 (mmWorld_get hk), hpre.2⟩ rfl (by simp) hl.1 (by simp [mmV]) (mm_room ρ st hst) hd ⟨Nat.zero_le _, Nat.zero_le _⟩
  unfold mmQc at hrun
  rw [hr2] at hrun
  exact va_calli hrun hS (fun q _ hq => hF q hq) hF (fun r u t H1 locs1 ht hvm hw hB hz1 hk1 hS1 => kk r u hw p l e s m args below meth c D ρ ca A C H1 locs1 la (ht ▸ hB.1) hS1 hl)
theorem MW.callVv {d2 ix k ci : Nat} {M2 : MMeth} {as : List MV} {st0 : List MV} {Q2 : Int32 → MH → Prop} (hd : decode M.2.1 pc = .ok (.invokevirtual ix, 3)) (hl2 : mmCV M.1.cls ix M2 as.length ci) (hk : mmIsObj k ci) (hr2 : M2.2.2.2 = none) (hdd : d2 + 1 ≤ d) (hst : st.length ≤ 8) (hs : st0 = as.reverse ++ .inr k :: st) (hc : MC d2 M2 (.inr k :: as) h Q2) (kk : ∀ h', Q2 0 h' → MW d M (pc + 3) ls st h' Q) : MW d M pc ls st0 h Q := by
  subst hs
  intro p l e s m args below meth c D ρ ca A C H locs la hP hS hl
  obtain ⟨c1, c2, c3, c4, c5, c6, c7, c8, T, N, c9⟩ := hl2
  obtain ⟨fk, hk⟩ := hk
  have hM := hc l D ρ ca H.size ((C.2.2.2.2.2.2.2.2.1 h).weaken (fun _ _ _ _ => trivial))
  have hF := mm_free (C.2.2.2.2.2.2.2.2.1 h) hS C.2.2.2.2.2.2.2.2.2
  have hpre := mm_pre (vs := .inr k :: as) hP C.2.2.2.2.2.2.2.1
  have hrun := va_runV (H := H) (locs := locs) (cells := 0) (slots := 0) (e := e) (below := below) (meth := meth) (As := as.map (mmV ρ)) (b := ρ k) (C := M2.1.cls) (rest := st.map (mmV ρ)) (g := F0 m pc la ((as.reverse ++ .inr k :: st).map (mmV ρ))) ⟨C.1, C.2.1, C.2.2.1, C.2.2.2.1, C.2.2.2.2.1⟩ hM ⟨mm_callB C.2.2.2.2.1 c1 c2 c3 c4 c5 c6 hdd, C.2.2.2.2.1 _ c7, C.2.2.2.2.1 _ c8⟩ ⟨hpre.1, va_recv C.2.2.2.2.2.2.2.1 hP c9 (mmWorld_get hk), hpre.2⟩ rfl (by simp) hl.1 (by simp [mmV]) (mm_room ρ st hst) hd ⟨Nat.zero_le _, Nat.zero_le _⟩
  unfold mmQc at hrun
  rw [hr2] at hrun
  exact va_callv hrun hS (fun q _ hq => hF q hq) hF (fun u t H1 locs1 ht hvm hw hB hz1 hk1 hS1 => kk u hw p l e s m args below meth c D ρ ca A C H1 locs1 la (ht ▸ hB.1) hS1 hl)
/-- System.arraycopy over rows of ints -/
theorem MW.copy {ix k0 k1 n0 n1 : Nat} {sp dp n : Int32} (hd : decode M.2.1 pc = .ok (.invokestatic ix, 3)) (h1 : Cond.methodLink M.1.cls ix arraycopyName ∈ mmWall) (h2 : Cond.native arraycopyName ∈ mmWall) (h3 : Cond.static arraycopyName ∈ mmWall) (h4 : Cond.initialized "java/lang/System" ∈ mmWall) (hk0 : mmAr k0 0 n0) (hk1 : mmAr k1 0 n1) (g1 : ¬ sp < 0) (g2 : ¬ dp < 0) (g3 : ¬ n < 0) (g4 : sp.toNatClampNeg + n.toNatClampNeg ≤ n0) (g5 : dp.toNatClampNeg + n.toNatClampNeg ≤ n1) (hdd : 2 ≤ d) (hst : st.length ≤ 8) (kk : MW d M (pc + 3) ls st (mmUp h k1 (va_cpy (h k0) (h k1) sp.toNatClampNeg dp.toNatClampNeg n.toNatClampNeg)) Q) : MW d M pc ls (.inl n :: .inl dp :: .inr k1 :: .inl sp :: .inr k0 :: st) h Q := by
  intro p l e s m args below meth c D ρ ca A C H locs la hP hS hl
  refine va_copyi C.1 C.2.1 (C.2.2.1.trans hl.1.symm) C.2.2.2.1 (C.2.2.2.2.1 _ h1) (C.2.2.2.2.1 _ h2) (C.2.2.2.2.1 _ h3) (C.2.2.2.2.1 _ h4) C.2.2.2.2.2.2.2.1 hP (C.2.2.2.2.2.2.2.2.1 h) hS k0 k1 0 0 (mmWorld_get hk0) (mmWorld_get hk1) rfl rfl rfl g1 g2 g3 g4 g5 (fun _ _ => rfl) (by show 1 ≤ d; omega) ?_ hd (fun H1 locs1 hP1 _ hS1 => ?_)
  · rw [mm_sum]
    have e1 : nativeFrameWords "java/lang/System" "arraycopy" 5 ≤ 40 := by decide
    show st.length + (nativeFrameWords "java/lang/System" "arraycopy" 5 + 11) ≤ 32 * d
    omega
  · have e1 : (mmWorld ρ ca h).set k1 (ρ k1, .inl (ca 0, n1, .inl (va_cpy (h k0) (h k1) sp.toNatClampNeg dp.toNatClampNeg n.toNatClampNeg))) = mmWorld ρ ca (mmUp h k1 (va_cpy (h k0) (h k1) sp.toNatClampNeg dp.toNatClampNeg n.toNatClampNeg)) := mmWorld_set hk1 rfl
    rw [e1] at hP1
    exact kk p l e s m args below meth c D ρ ca A C H1 locs1 la hP1 hS1 hl
end MMC
end
section
theorem mm_last : True := True.intro
end
