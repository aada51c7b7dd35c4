section
-- ===== PART A: goes FIRST, ahead of the names: the tables' words, and 'selects' of the private methods out of them =====
/-- a private method of a class that the tables say can be made, by its rows of tables_1 -/
def lw_okq (q : MethodName × Nat) : Prop := (q.1.cls ≠ "java/lang/invoke/MethodHandle" ∧ q.1.cls ≠ "java/lang/invoke/VarHandle") ∧ Cond.instantiable q.1.cls q.2 ∈ tables_1 ∧ Cond.privateMethod q.1 ∈ tables_1 ∧ Cond.instanceMethod q.1 ∈ tables_1
theorem lw_p0 : lw_okq (⟨"RiverCampaign$State", "stand", "(II)V"⟩, 14) := ⟨⟨by decide +kernel, by decide +kernel⟩, List.mem_of_getElem? (i := 47) (by decide +kernel), List.mem_of_getElem? (i := 356) (by decide +kernel), List.mem_of_getElem? (i := 357) (by decide +kernel)⟩
theorem lw_p1 : lw_okq (⟨"RiverCampaign", "moveUnit", "(II)I"⟩, 10) := ⟨⟨by decide +kernel, by decide +kernel⟩, List.mem_of_getElem? (i := 15) (by decide +kernel), List.mem_of_getElem? (i := 366) (by decide +kernel), List.mem_of_getElem? (i := 367) (by decide +kernel)⟩
theorem lw_p2 : lw_okq (⟨"RiverCampaign$Ways", "goOn", "(LRiverCampaign$State;II)V"⟩, 2) := ⟨⟨by decide +kernel, by decide +kernel⟩, List.mem_of_getElem? (i := 182) (by decide +kernel), List.mem_of_getElem? (i := 388) (by decide +kernel), List.mem_of_getElem? (i := 389) (by decide +kernel)⟩
theorem lw_p3 : lw_okq (⟨"RiverCampaign", "recordedIfDone", "(I)I"⟩, 10) := ⟨⟨by decide +kernel, by decide +kernel⟩, List.mem_of_getElem? (i := 15) (by decide +kernel), List.mem_of_getElem? (i := 406) (by decide +kernel), List.mem_of_getElem? (i := 407) (by decide +kernel)⟩
theorem lw_p4 : lw_okq (⟨"RiverCampaign", "strike", "(II)I"⟩, 10) := ⟨⟨by decide +kernel, by decide +kernel⟩, List.mem_of_getElem? (i := 15) (by decide +kernel), List.mem_of_getElem? (i := 414) (by decide +kernel), List.mem_of_getElem? (i := 415) (by decide +kernel)⟩
theorem lw_p5 : lw_okq (⟨"RiverCampaign", "canFight", "(II)Z"⟩, 10) := ⟨⟨by decide +kernel, by decide +kernel⟩, List.mem_of_getElem? (i := 15) (by decide +kernel), List.mem_of_getElem? (i := 418) (by decide +kernel), List.mem_of_getElem? (i := 419) (by decide +kernel)⟩
theorem lw_p6 : lw_okq (⟨"RiverCampaign$Supply", "spread", "(I)V"⟩, 3) := ⟨⟨by decide +kernel, by decide +kernel⟩, List.mem_of_getElem? (i := 196) (by decide +kernel), List.mem_of_getElem? (i := 439) (by decide +kernel), List.mem_of_getElem? (i := 440) (by decide +kernel)⟩
theorem lw_p7 : lw_okq (⟨"RiverCampaign$Fight", "powerOfAttack", "(LRiverCampaign$State;II)I"⟩, 6) := ⟨⟨by decide +kernel, by decide +kernel⟩, List.mem_of_getElem? (i := 214) (by decide +kernel), List.mem_of_getElem? (i := 444) (by decide +kernel), List.mem_of_getElem? (i := 445) (by decide +kernel)⟩
theorem lw_p8 : lw_okq (⟨"RiverCampaign$Fight", "powerOfDefence", "(LRiverCampaign$State;I)I"⟩, 6) := ⟨⟨by decide +kernel, by decide +kernel⟩, List.mem_of_getElem? (i := 214) (by decide +kernel), List.mem_of_getElem? (i := 454) (by decide +kernel), List.mem_of_getElem? (i := 455) (by decide +kernel)⟩
theorem lw_p9 : lw_okq (⟨"RiverCampaign", "finishTurn", "()I"⟩, 10) := ⟨⟨by decide +kernel, by decide +kernel⟩, List.mem_of_getElem? (i := 15) (by decide +kernel), List.mem_of_getElem? (i := 474) (by decide +kernel), List.mem_of_getElem? (i := 475) (by decide +kernel)⟩
theorem lw_p10 : lw_okq (⟨"RiverCampaign", "starve", "(I)I"⟩, 10) := ⟨⟨by decide +kernel, by decide +kernel⟩, List.mem_of_getElem? (i := 15) (by decide +kernel), List.mem_of_getElem? (i := 478) (by decide +kernel), List.mem_of_getElem? (i := 479) (by decide +kernel)⟩
theorem lw_p11 : lw_okq (⟨"RiverCampaign$Orders", "stageAfter", "(IC)I"⟩, 9) := ⟨⟨by decide +kernel, by decide +kernel⟩, List.mem_of_getElem? (i := 142) (by decide +kernel), List.mem_of_getElem? (i := 502) (by decide +kernel), List.mem_of_getElem? (i := 503) (by decide +kernel)⟩
theorem lw_p12 : lw_okq (⟨"RiverCampaign$Orders", "readFirst", "(C)I"⟩, 9) := ⟨⟨by decide +kernel, by decide +kernel⟩, List.mem_of_getElem? (i := 142) (by decide +kernel), List.mem_of_getElem? (i := 506) (by decide +kernel), List.mem_of_getElem? (i := 507) (by decide +kernel)⟩
theorem lw_p13 : lw_okq (⟨"RiverCampaign$Orders", "addOrder", "(I)I"⟩, 9) := ⟨⟨by decide +kernel, by decide +kernel⟩, List.mem_of_getElem? (i := 142) (by decide +kernel), List.mem_of_getElem? (i := 510) (by decide +kernel), List.mem_of_getElem? (i := 511) (by decide +kernel)⟩
theorem lw_p14 : lw_okq (⟨"RiverCampaign$Orders", "readUnit", "(I)I"⟩, 9) := ⟨⟨by decide +kernel, by decide +kernel⟩, List.mem_of_getElem? (i := 142) (by decide +kernel), List.mem_of_getElem? (i := 517) (by decide +kernel), List.mem_of_getElem? (i := 518) (by decide +kernel)⟩
theorem lw_p15 : lw_okq (⟨"RiverCampaign$Orders", "readSign", "(C)I"⟩, 9) := ⟨⟨by decide +kernel, by decide +kernel⟩, List.mem_of_getElem? (i := 142) (by decide +kernel), List.mem_of_getElem? (i := 521) (by decide +kernel), List.mem_of_getElem? (i := 522) (by decide +kernel)⟩
def lw_privs_1 : List (MethodName × Nat) := [(⟨"RiverCampaign$State", "stand", "(II)V"⟩, 14), (⟨"RiverCampaign", "moveUnit", "(II)I"⟩, 10), (⟨"RiverCampaign$Ways", "goOn", "(LRiverCampaign$State;II)V"⟩, 2), (⟨"RiverCampaign", "recordedIfDone", "(I)I"⟩, 10), (⟨"RiverCampaign", "strike", "(II)I"⟩, 10), (⟨"RiverCampaign", "canFight", "(II)Z"⟩, 10), (⟨"RiverCampaign$Supply", "spread", "(I)V"⟩, 3), (⟨"RiverCampaign$Fight", "powerOfAttack", "(LRiverCampaign$State;II)I"⟩, 6), (⟨"RiverCampaign$Fight", "powerOfDefence", "(LRiverCampaign$State;I)I"⟩, 6), (⟨"RiverCampaign", "finishTurn", "()I"⟩, 10), (⟨"RiverCampaign", "starve", "(I)I"⟩, 10), (⟨"RiverCampaign$Orders", "stageAfter", "(IC)I"⟩, 9), (⟨"RiverCampaign$Orders", "readFirst", "(C)I"⟩, 9), (⟨"RiverCampaign$Orders", "addOrder", "(I)I"⟩, 9), (⟨"RiverCampaign$Orders", "readUnit", "(I)I"⟩, 9), (⟨"RiverCampaign$Orders", "readSign", "(C)I"⟩, 9)]
theorem lw_r1 : ∀ q ∈ lw_privs_1, lw_okq q := List.forall_mem_cons.mpr ⟨lw_p0, List.forall_mem_cons.mpr ⟨lw_p1, List.forall_mem_cons.mpr ⟨lw_p2, List.forall_mem_cons.mpr ⟨lw_p3, List.forall_mem_cons.mpr ⟨lw_p4, List.forall_mem_cons.mpr ⟨lw_p5, List.forall_mem_cons.mpr ⟨lw_p6, List.forall_mem_cons.mpr ⟨lw_p7, List.forall_mem_cons.mpr ⟨lw_p8, List.forall_mem_cons.mpr ⟨lw_p9, List.forall_mem_cons.mpr ⟨lw_p10, List.forall_mem_cons.mpr ⟨lw_p11, List.forall_mem_cons.mpr ⟨lw_p12, List.forall_mem_cons.mpr ⟨lw_p13, List.forall_mem_cons.mpr ⟨lw_p14, List.forall_mem_cons.mpr ⟨lw_p15, fun _ h => absurd h List.not_mem_nil⟩⟩⟩⟩⟩⟩⟩⟩⟩⟩⟩⟩⟩⟩⟩⟩
theorem lw_p16 : lw_okq (⟨"RiverCampaign$Orders", "readColumn", "(C)I"⟩, 9) := ⟨⟨by decide +kernel, by decide +kernel⟩, List.mem_of_getElem? (i := 142) (by decide +kernel), List.mem_of_getElem? (i := 525) (by decide +kernel), List.mem_of_getElem? (i := 526) (by decide +kernel)⟩
theorem lw_p17 : lw_okq (⟨"RiverCampaign$Orders", "readRow", "(C)I"⟩, 9) := ⟨⟨by decide +kernel, by decide +kernel⟩, List.mem_of_getElem? (i := 142) (by decide +kernel), List.mem_of_getElem? (i := 529) (by decide +kernel), List.mem_of_getElem? (i := 530) (by decide +kernel)⟩
theorem lw_p18 : lw_okq (⟨"RiverCampaign$State", "isSeenByUnit", "(II)Z"⟩, 14) := ⟨⟨by decide +kernel, by decide +kernel⟩, List.mem_of_getElem? (i := 47) (by decide +kernel), List.mem_of_getElem? (i := 573) (by decide +kernel), List.mem_of_getElem? (i := 574) (by decide +kernel)⟩
theorem lw_p19 : lw_okq (⟨"RiverCampaign$State", "isSeenByFort", "(II)Z"⟩, 14) := ⟨⟨by decide +kernel, by decide +kernel⟩, List.mem_of_getElem? (i := 47) (by decide +kernel), List.mem_of_getElem? (i := 585) (by decide +kernel), List.mem_of_getElem? (i := 586) (by decide +kernel)⟩
theorem lw_p20 : lw_okq (⟨"RiverCampaignModel", "records", "()V"⟩, 18) := ⟨⟨by decide +kernel, by decide +kernel⟩, List.mem_of_getElem? (i := 641) (by decide +kernel), List.mem_of_getElem? (i := 712) (by decide +kernel), List.mem_of_getElem? (i := 713) (by decide +kernel)⟩
theorem lw_p21 : lw_okq (⟨"RiverCampaignModel", "hasRiver", "(II)Z"⟩, 18) := ⟨⟨by decide +kernel, by decide +kernel⟩, List.mem_of_getElem? (i := 641) (by decide +kernel), List.mem_of_getElem? (i := 723) (by decide +kernel), List.mem_of_getElem? (i := 724) (by decide +kernel)⟩
theorem lw_p22 : lw_okq (⟨"RiverCampaignModel", "rivers", "()I"⟩, 18) := ⟨⟨by decide +kernel, by decide +kernel⟩, List.mem_of_getElem? (i := 641) (by decide +kernel), List.mem_of_getElem? (i := 727) (by decide +kernel), List.mem_of_getElem? (i := 728) (by decide +kernel)⟩
theorem lw_p23 : lw_okq (⟨"RiverCampaignModel", "unitOn", "(I)I"⟩, 18) := ⟨⟨by decide +kernel, by decide +kernel⟩, List.mem_of_getElem? (i := 641) (by decide +kernel), List.mem_of_getElem? (i := 735) (by decide +kernel), List.mem_of_getElem? (i := 736) (by decide +kernel)⟩
theorem lw_p24 : lw_okq (⟨"RiverCampaignModel", "of", "(II)I"⟩, 18) := ⟨⟨by decide +kernel, by decide +kernel⟩, List.mem_of_getElem? (i := 641) (by decide +kernel), List.mem_of_getElem? (i := 739) (by decide +kernel), List.mem_of_getElem? (i := 740) (by decide +kernel)⟩
theorem lw_p25 : lw_okq (⟨"RiverCampaignModel", "forts", "(I)I"⟩, 18) := ⟨⟨by decide +kernel, by decide +kernel⟩, List.mem_of_getElem? (i := 641) (by decide +kernel), List.mem_of_getElem? (i := 743) (by decide +kernel), List.mem_of_getElem? (i := 744) (by decide +kernel)⟩
theorem lw_p26 : lw_okq (⟨"RiverCampaignModel", "lay", "(III)V"⟩, 18) := ⟨⟨by decide +kernel, by decide +kernel⟩, List.mem_of_getElem? (i := 641) (by decide +kernel), List.mem_of_getElem? (i := 755) (by decide +kernel), List.mem_of_getElem? (i := 756) (by decide +kernel)⟩
theorem lw_p27 : lw_okq (⟨"RiverCampaignModel", "stands", "(II)V"⟩, 18) := ⟨⟨by decide +kernel, by decide +kernel⟩, List.mem_of_getElem? (i := 641) (by decide +kernel), List.mem_of_getElem? (i := 759) (by decide +kernel), List.mem_of_getElem? (i := 760) (by decide +kernel)⟩
theorem lw_p28 : lw_okq (⟨"RiverCampaignModel", "refusesMove", "(II)I"⟩, 18) := ⟨⟨by decide +kernel, by decide +kernel⟩, List.mem_of_getElem? (i := 641) (by decide +kernel), List.mem_of_getElem? (i := 767) (by decide +kernel), List.mem_of_getElem? (i := 768) (by decide +kernel)⟩
theorem lw_p29 : lw_okq (⟨"RiverCampaignModel", "isUnit", "(I)Z"⟩, 18) := ⟨⟨by decide +kernel, by decide +kernel⟩, List.mem_of_getElem? (i := 641) (by decide +kernel), List.mem_of_getElem? (i := 771) (by decide +kernel), List.mem_of_getElem? (i := 772) (by decide +kernel)⟩
theorem lw_p30 : lw_okq (⟨"RiverCampaignModel", "isAtTurn", "(I)Z"⟩, 18) := ⟨⟨by decide +kernel, by decide +kernel⟩, List.mem_of_getElem? (i := 641) (by decide +kernel), List.mem_of_getElem? (i := 775) (by decide +kernel), List.mem_of_getElem? (i := 776) (by decide +kernel)⟩
theorem lw_p31 : lw_okq (⟨"RiverCampaignModel", "laysWays", "(I)V"⟩, 18) := ⟨⟨by decide +kernel, by decide +kernel⟩, List.mem_of_getElem? (i := 641) (by decide +kernel), List.mem_of_getElem? (i := 779) (by decide +kernel), List.mem_of_getElem? (i := 780) (by decide +kernel)⟩
def lw_privs_2 : List (MethodName × Nat) := [(⟨"RiverCampaign$Orders", "readColumn", "(C)I"⟩, 9), (⟨"RiverCampaign$Orders", "readRow", "(C)I"⟩, 9), (⟨"RiverCampaign$State", "isSeenByUnit", "(II)Z"⟩, 14), (⟨"RiverCampaign$State", "isSeenByFort", "(II)Z"⟩, 14), (⟨"RiverCampaignModel", "records", "()V"⟩, 18), (⟨"RiverCampaignModel", "hasRiver", "(II)Z"⟩, 18), (⟨"RiverCampaignModel", "rivers", "()I"⟩, 18), (⟨"RiverCampaignModel", "unitOn", "(I)I"⟩, 18), (⟨"RiverCampaignModel", "of", "(II)I"⟩, 18), (⟨"RiverCampaignModel", "forts", "(I)I"⟩, 18), (⟨"RiverCampaignModel", "lay", "(III)V"⟩, 18), (⟨"RiverCampaignModel", "stands", "(II)V"⟩, 18), (⟨"RiverCampaignModel", "refusesMove", "(II)I"⟩, 18), (⟨"RiverCampaignModel", "isUnit", "(I)Z"⟩, 18), (⟨"RiverCampaignModel", "isAtTurn", "(I)Z"⟩, 18), (⟨"RiverCampaignModel", "laysWays", "(I)V"⟩, 18)]
theorem lw_r2 : ∀ q ∈ lw_privs_2, lw_okq q := List.forall_mem_cons.mpr ⟨lw_p16, List.forall_mem_cons.mpr ⟨lw_p17, List.forall_mem_cons.mpr ⟨lw_p18, List.forall_mem_cons.mpr ⟨lw_p19, List.forall_mem_cons.mpr ⟨lw_p20, List.forall_mem_cons.mpr ⟨lw_p21, List.forall_mem_cons.mpr ⟨lw_p22, List.forall_mem_cons.mpr ⟨lw_p23, List.forall_mem_cons.mpr ⟨lw_p24, List.forall_mem_cons.mpr ⟨lw_p25, List.forall_mem_cons.mpr ⟨lw_p26, List.forall_mem_cons.mpr ⟨lw_p27, List.forall_mem_cons.mpr ⟨lw_p28, List.forall_mem_cons.mpr ⟨lw_p29, List.forall_mem_cons.mpr ⟨lw_p30, List.forall_mem_cons.mpr ⟨lw_p31, fun _ h => absurd h List.not_mem_nil⟩⟩⟩⟩⟩⟩⟩⟩⟩⟩⟩⟩⟩⟩⟩⟩
theorem lw_p32 : lw_okq (⟨"RiverCampaignModel", "laysZone", "(I)V"⟩, 18) := ⟨⟨by decide +kernel, by decide +kernel⟩, List.mem_of_getElem? (i := 641) (by decide +kernel), List.mem_of_getElem? (i := 783) (by decide +kernel), List.mem_of_getElem? (i := 784) (by decide +kernel)⟩
theorem lw_p33 : lw_okq (⟨"RiverCampaignModel", "isInZone", "(II)Z"⟩, 18) := ⟨⟨by decide +kernel, by decide +kernel⟩, List.mem_of_getElem? (i := 641) (by decide +kernel), List.mem_of_getElem? (i := 787) (by decide +kernel), List.mem_of_getElem? (i := 788) (by decide +kernel)⟩
theorem lw_p34 : lw_okq (⟨"RiverCampaignModel", "isOn", "(II)Z"⟩, 18) := ⟨⟨by decide +kernel, by decide +kernel⟩, List.mem_of_getElem? (i := 641) (by decide +kernel), List.mem_of_getElem? (i := 791) (by decide +kernel), List.mem_of_getElem? (i := 792) (by decide +kernel)⟩
theorem lw_p35 : lw_okq (⟨"RiverCampaignModel", "entering", "(III)I"⟩, 18) := ⟨⟨by decide +kernel, by decide +kernel⟩, List.mem_of_getElem? (i := 641) (by decide +kernel), List.mem_of_getElem? (i := 795) (by decide +kernel), List.mem_of_getElem? (i := 796) (by decide +kernel)⟩
theorem lw_p36 : lw_okq (⟨"RiverCampaignModel", "cheapest", "()I"⟩, 18) := ⟨⟨by decide +kernel, by decide +kernel⟩, List.mem_of_getElem? (i := 641) (by decide +kernel), List.mem_of_getElem? (i := 799) (by decide +kernel), List.mem_of_getElem? (i := 800) (by decide +kernel)⟩
theorem lw_p37 : lw_okq (⟨"RiverCampaignModel", "canReach", "(II)Z"⟩, 18) := ⟨⟨by decide +kernel, by decide +kernel⟩, List.mem_of_getElem? (i := 641) (by decide +kernel), List.mem_of_getElem? (i := 803) (by decide +kernel), List.mem_of_getElem? (i := 804) (by decide +kernel)⟩
theorem lw_p38 : lw_okq (⟨"RiverCampaignModel", "moves", "(II)I"⟩, 18) := ⟨⟨by decide +kernel, by decide +kernel⟩, List.mem_of_getElem? (i := 641) (by decide +kernel), List.mem_of_getElem? (i := 807) (by decide +kernel), List.mem_of_getElem? (i := 808) (by decide +kernel)⟩
theorem lw_p39 : lw_okq (⟨"RiverCampaignModel", "refusesAttack", "(II)I"⟩, 18) := ⟨⟨by decide +kernel, by decide +kernel⟩, List.mem_of_getElem? (i := 641) (by decide +kernel), List.mem_of_getElem? (i := 815) (by decide +kernel), List.mem_of_getElem? (i := 816) (by decide +kernel)⟩
theorem lw_p40 : lw_okq (⟨"RiverCampaignModel", "canFight", "(II)Z"⟩, 18) := ⟨⟨by decide +kernel, by decide +kernel⟩, List.mem_of_getElem? (i := 641) (by decide +kernel), List.mem_of_getElem? (i := 819) (by decide +kernel), List.mem_of_getElem? (i := 820) (by decide +kernel)⟩
theorem lw_p41 : lw_okq (⟨"RiverCampaignModel", "fights", "(II)I"⟩, 18) := ⟨⟨by decide +kernel, by decide +kernel⟩, List.mem_of_getElem? (i := 641) (by decide +kernel), List.mem_of_getElem? (i := 826) (by decide +kernel), List.mem_of_getElem? (i := 827) (by decide +kernel)⟩
theorem lw_p42 : lw_okq (⟨"RiverCampaignModel", "power", "(II)I"⟩, 18) := ⟨⟨by decide +kernel, by decide +kernel⟩, List.mem_of_getElem? (i := 641) (by decide +kernel), List.mem_of_getElem? (i := 830) (by decide +kernel), List.mem_of_getElem? (i := 831) (by decide +kernel)⟩
theorem lw_p43 : lw_okq (⟨"RiverCampaignModel", "isSupplied", "(I)Z"⟩, 18) := ⟨⟨by decide +kernel, by decide +kernel⟩, List.mem_of_getElem? (i := 641) (by decide +kernel), List.mem_of_getElem? (i := 834) (by decide +kernel), List.mem_of_getElem? (i := 835) (by decide +kernel)⟩
theorem lw_p44 : lw_okq (⟨"RiverCampaignModel", "toSource", "(I)I"⟩, 18) := ⟨⟨by decide +kernel, by decide +kernel⟩, List.mem_of_getElem? (i := 641) (by decide +kernel), List.mem_of_getElem? (i := 838) (by decide +kernel), List.mem_of_getElem? (i := 839) (by decide +kernel)⟩
theorem lw_p45 : lw_okq (⟨"RiverCampaignModel", "isSource", "(II)Z"⟩, 18) := ⟨⟨by decide +kernel, by decide +kernel⟩, List.mem_of_getElem? (i := 641) (by decide +kernel), List.mem_of_getElem? (i := 842) (by decide +kernel), List.mem_of_getElem? (i := 843) (by decide +kernel)⟩
theorem lw_p46 : lw_okq (⟨"RiverCampaignModel", "isFree", "(II)Z"⟩, 18) := ⟨⟨by decide +kernel, by decide +kernel⟩, List.mem_of_getElem? (i := 641) (by decide +kernel), List.mem_of_getElem? (i := 846) (by decide +kernel), List.mem_of_getElem? (i := 847) (by decide +kernel)⟩
theorem lw_p47 : lw_okq (⟨"RiverCampaignModel", "defence", "(I)I"⟩, 18) := ⟨⟨by decide +kernel, by decide +kernel⟩, List.mem_of_getElem? (i := 641) (by decide +kernel), List.mem_of_getElem? (i := 850) (by decide +kernel), List.mem_of_getElem? (i := 851) (by decide +kernel)⟩
def lw_privs_3 : List (MethodName × Nat) := [(⟨"RiverCampaignModel", "laysZone", "(I)V"⟩, 18), (⟨"RiverCampaignModel", "isInZone", "(II)Z"⟩, 18), (⟨"RiverCampaignModel", "isOn", "(II)Z"⟩, 18), (⟨"RiverCampaignModel", "entering", "(III)I"⟩, 18), (⟨"RiverCampaignModel", "cheapest", "()I"⟩, 18), (⟨"RiverCampaignModel", "canReach", "(II)Z"⟩, 18), (⟨"RiverCampaignModel", "moves", "(II)I"⟩, 18), (⟨"RiverCampaignModel", "refusesAttack", "(II)I"⟩, 18), (⟨"RiverCampaignModel", "canFight", "(II)Z"⟩, 18), (⟨"RiverCampaignModel", "fights", "(II)I"⟩, 18), (⟨"RiverCampaignModel", "power", "(II)I"⟩, 18), (⟨"RiverCampaignModel", "isSupplied", "(I)Z"⟩, 18), (⟨"RiverCampaignModel", "toSource", "(I)I"⟩, 18), (⟨"RiverCampaignModel", "isSource", "(II)Z"⟩, 18), (⟨"RiverCampaignModel", "isFree", "(II)Z"⟩, 18), (⟨"RiverCampaignModel", "defence", "(I)I"⟩, 18)]
theorem lw_r3 : ∀ q ∈ lw_privs_3, lw_okq q := List.forall_mem_cons.mpr ⟨lw_p32, List.forall_mem_cons.mpr ⟨lw_p33, List.forall_mem_cons.mpr ⟨lw_p34, List.forall_mem_cons.mpr ⟨lw_p35, List.forall_mem_cons.mpr ⟨lw_p36, List.forall_mem_cons.mpr ⟨lw_p37, List.forall_mem_cons.mpr ⟨lw_p38, List.forall_mem_cons.mpr ⟨lw_p39, List.forall_mem_cons.mpr ⟨lw_p40, List.forall_mem_cons.mpr ⟨lw_p41, List.forall_mem_cons.mpr ⟨lw_p42, List.forall_mem_cons.mpr ⟨lw_p43, List.forall_mem_cons.mpr ⟨lw_p44, List.forall_mem_cons.mpr ⟨lw_p45, List.forall_mem_cons.mpr ⟨lw_p46, List.forall_mem_cons.mpr ⟨lw_p47, fun _ h => absurd h List.not_mem_nil⟩⟩⟩⟩⟩⟩⟩⟩⟩⟩⟩⟩⟩⟩⟩⟩
theorem lw_p48 : lw_okq (⟨"RiverCampaignModel", "weakened", "(II)I"⟩, 18) := ⟨⟨by decide +kernel, by decide +kernel⟩, List.mem_of_getElem? (i := 641) (by decide +kernel), List.mem_of_getElem? (i := 854) (by decide +kernel), List.mem_of_getElem? (i := 855) (by decide +kernel)⟩
theorem lw_p49 : lw_okq (⟨"RiverCampaignModel", "ends", "()I"⟩, 18) := ⟨⟨by decide +kernel, by decide +kernel⟩, List.mem_of_getElem? (i := 641) (by decide +kernel), List.mem_of_getElem? (i := 862) (by decide +kernel), List.mem_of_getElem? (i := 863) (by decide +kernel)⟩
theorem lw_p50 : lw_okq (⟨"RiverCampaignModel", "reads", "()I"⟩, 18) := ⟨⟨by decide +kernel, by decide +kernel⟩, List.mem_of_getElem? (i := 641) (by decide +kernel), List.mem_of_getElem? (i := 878) (by decide +kernel), List.mem_of_getElem? (i := 879) (by decide +kernel)⟩
theorem lw_p51 : lw_okq (⟨"RiverCampaignModel", "readsOrder", "()V"⟩, 18) := ⟨⟨by decide +kernel, by decide +kernel⟩, List.mem_of_getElem? (i := 641) (by decide +kernel), List.mem_of_getElem? (i := 882) (by decide +kernel), List.mem_of_getElem? (i := 883) (by decide +kernel)⟩
theorem lw_p52 : lw_okq (⟨"RiverCampaignModel", "sign", "()I"⟩, 18) := ⟨⟨by decide +kernel, by decide +kernel⟩, List.mem_of_getElem? (i := 641) (by decide +kernel), List.mem_of_getElem? (i := 886) (by decide +kernel), List.mem_of_getElem? (i := 887) (by decide +kernel)⟩
theorem lw_p53 : lw_okq (⟨"RiverCampaignModel", "takes", "(II)I"⟩, 18) := ⟨⟨by decide +kernel, by decide +kernel⟩, List.mem_of_getElem? (i := 641) (by decide +kernel), List.mem_of_getElem? (i := 890) (by decide +kernel), List.mem_of_getElem? (i := 891) (by decide +kernel)⟩
theorem lw_p54 : lw_okq (⟨"RiverCampaignModel", "putAside", "()V"⟩, 18) := ⟨⟨by decide +kernel, by decide +kernel⟩, List.mem_of_getElem? (i := 641) (by decide +kernel), List.mem_of_getElem? (i := 894) (by decide +kernel), List.mem_of_getElem? (i := 895) (by decide +kernel)⟩
theorem lw_p55 : lw_okq (⟨"RiverCampaignModel", "does", "(I)I"⟩, 18) := ⟨⟨by decide +kernel, by decide +kernel⟩, List.mem_of_getElem? (i := 641) (by decide +kernel), List.mem_of_getElem? (i := 898) (by decide +kernel), List.mem_of_getElem? (i := 899) (by decide +kernel)⟩
theorem lw_p56 : lw_okq (⟨"RiverCampaignModel", "takeBack", "()V"⟩, 18) := ⟨⟨by decide +kernel, by decide +kernel⟩, List.mem_of_getElem? (i := 641) (by decide +kernel), List.mem_of_getElem? (i := 902) (by decide +kernel), List.mem_of_getElem? (i := 903) (by decide +kernel)⟩
theorem lw_p57 : lw_okq (⟨"RiverCampaignModel", "sees", "(II)Z"⟩, 18) := ⟨⟨by decide +kernel, by decide +kernel⟩, List.mem_of_getElem? (i := 641) (by decide +kernel), List.mem_of_getElem? (i := 922) (by decide +kernel), List.mem_of_getElem? (i := 923) (by decide +kernel)⟩
theorem lw_p58 : lw_okq (⟨"RiverCampaignModel", "laysDistances", "(I)V"⟩, 18) := ⟨⟨by decide +kernel, by decide +kernel⟩, List.mem_of_getElem? (i := 641) (by decide +kernel), List.mem_of_getElem? (i := 926) (by decide +kernel), List.mem_of_getElem? (i := 927) (by decide +kernel)⟩
theorem lw_p59 : lw_okq (⟨"RiverCampaignModel", "besides", "(I)I"⟩, 18) := ⟨⟨by decide +kernel, by decide +kernel⟩, List.mem_of_getElem? (i := 641) (by decide +kernel), List.mem_of_getElem? (i := 930) (by decide +kernel), List.mem_of_getElem? (i := 931) (by decide +kernel)⟩
theorem lw_p60 : lw_okq (⟨"RiverCampaignModel", "reaches", "(I)I"⟩, 18) := ⟨⟨by decide +kernel, by decide +kernel⟩, List.mem_of_getElem? (i := 641) (by decide +kernel), List.mem_of_getElem? (i := 946) (by decide +kernel), List.mem_of_getElem? (i := 947) (by decide +kernel)⟩
theorem lw_p61 : lw_okq (⟨"RiverCampaignModel", "unitsOf", "(II)I"⟩, 18) := ⟨⟨by decide +kernel, by decide +kernel⟩, List.mem_of_getElem? (i := 641) (by decide +kernel), List.mem_of_getElem? (i := 966) (by decide +kernel), List.mem_of_getElem? (i := 967) (by decide +kernel)⟩
theorem lw_p62 : lw_okq (⟨"RiverCampaignModel", "seen", "(I)I"⟩, 18) := ⟨⟨by decide +kernel, by decide +kernel⟩, List.mem_of_getElem? (i := 641) (by decide +kernel), List.mem_of_getElem? (i := 970) (by decide +kernel), List.mem_of_getElem? (i := 971) (by decide +kernel)⟩
def lw_privs_4 : List (MethodName × Nat) := [(⟨"RiverCampaignModel", "weakened", "(II)I"⟩, 18), (⟨"RiverCampaignModel", "ends", "()I"⟩, 18), (⟨"RiverCampaignModel", "reads", "()I"⟩, 18), (⟨"RiverCampaignModel", "readsOrder", "()V"⟩, 18), (⟨"RiverCampaignModel", "sign", "()I"⟩, 18), (⟨"RiverCampaignModel", "takes", "(II)I"⟩, 18), (⟨"RiverCampaignModel", "putAside", "()V"⟩, 18), (⟨"RiverCampaignModel", "does", "(I)I"⟩, 18), (⟨"RiverCampaignModel", "takeBack", "()V"⟩, 18), (⟨"RiverCampaignModel", "sees", "(II)Z"⟩, 18), (⟨"RiverCampaignModel", "laysDistances", "(I)V"⟩, 18), (⟨"RiverCampaignModel", "besides", "(I)I"⟩, 18), (⟨"RiverCampaignModel", "reaches", "(I)I"⟩, 18), (⟨"RiverCampaignModel", "unitsOf", "(II)I"⟩, 18), (⟨"RiverCampaignModel", "seen", "(I)I"⟩, 18)]
theorem lw_r4 : ∀ q ∈ lw_privs_4, lw_okq q := List.forall_mem_cons.mpr ⟨lw_p48, List.forall_mem_cons.mpr ⟨lw_p49, List.forall_mem_cons.mpr ⟨lw_p50, List.forall_mem_cons.mpr ⟨lw_p51, List.forall_mem_cons.mpr ⟨lw_p52, List.forall_mem_cons.mpr ⟨lw_p53, List.forall_mem_cons.mpr ⟨lw_p54, List.forall_mem_cons.mpr ⟨lw_p55, List.forall_mem_cons.mpr ⟨lw_p56, List.forall_mem_cons.mpr ⟨lw_p57, List.forall_mem_cons.mpr ⟨lw_p58, List.forall_mem_cons.mpr ⟨lw_p59, List.forall_mem_cons.mpr ⟨lw_p60, List.forall_mem_cons.mpr ⟨lw_p61, List.forall_mem_cons.mpr ⟨lw_p62, fun _ h => absurd h List.not_mem_nil⟩⟩⟩⟩⟩⟩⟩⟩⟩⟩⟩⟩⟩⟩⟩
def lw_privs : List (MethodName × Nat) := lw_privs_1 ++ (lw_privs_2 ++ (lw_privs_3 ++ (lw_privs_4)))
def lw_tbl : List Cond := k2_sels lw_privs ++ tables_1
theorem lw_privs_ok : ∀ q ∈ lw_privs, lw_okq q := by
  show ∀ q ∈ lw_privs_1 ++ (lw_privs_2 ++ (lw_privs_3 ++ (lw_privs_4))), lw_okq q
  exact List.forall_mem_append.mpr ⟨lw_r1, List.forall_mem_append.mpr ⟨lw_r2, List.forall_mem_append.mpr ⟨lw_r3, lw_r4⟩⟩⟩
-- ===== end of PART A
end
section
/-! ===== BEGIN words of one list among another's, by their places ===== -/
theorem goodIn_r {big : List Cond} (ws : List Cond) (ps : List Nat) (hp : ws = ps.filterMap (fun i => big[i]?)) (h : ws.all goodWord = true) : GoodIn big ws := by
  intro w hw
  have h1 := List.all_eq_true.mp h w hw
  rw [hp] at hw
  obtain ⟨i, -, hi⟩ := List.mem_filterMap.mp hw
  have hm : w ∈ big := by first | exact List.mem_of_getElem? hi | exact List.getElem?_mem hi
  exact ⟨hm, good_of_word h1⟩
theorem goodIn_app {big a b : List Cond} (ha : GoodIn big a) (hb : GoodIn big b) : GoodIn big (a ++ b) := fun w h => (List.mem_append.mp h).elim (ha w) (hb w)
theorem goodIn_ca {big a b : List Cond} {c : Cond} (ha : GoodIn big (c :: a)) (hb : GoodIn big b) : GoodIn big (c :: (a ++ b)) := fun w h => (List.mem_cons.mp h).elim (fun e => ha w (List.mem_cons.mpr (Or.inl e))) (fun h => (List.mem_append.mp h).elim (fun h => ha w (List.mem_cons.mpr (Or.inr h))) (hb w))
theorem goodIn_sub {big ws : List Cond} (hm : ∀ w ∈ ws, w ∈ big) (h : ws.all goodWord = true) : GoodIn big ws := fun w hw => ⟨hm w hw, good_of_word (List.all_eq_true.mp h w hw)⟩
/-! ===== END ===== -/

/-! ===== BEGIN printed: names, fields, word lists, decode rows ===== -/
def RX0 : String := "RiverCampaign$Board"
def TX0 : u_T := fun k => match k with
  | _ => ("RiverCampaign$Board", "neighbours", "[I", true)
def tyX0 : Nat → FieldType := fun k => match k with
  | _ => .array .int
abbrev wsX00 : List Cond := u_ws RX0 TX0 1
theorem nmX0 : ∀ a, a < 1 → ∀ b, b < 1 → a ≠ b → (TX0 a).2.1 ≠ (TX0 b).2.1 := by decide +kernel
theorem tyX0_ok : ∀ k, k < 1 → parseFieldDescriptor (TX0 k).2.2.1 = some (tyX0 k) := by decide +kernel
abbrev cX0_init : ByteArray := prog_2_method_1_code
def yX0_init : MethodName := ⟨RX0, "<init>", "()V"⟩
abbrev cX0_isHex : ByteArray := prog_2_method_2_code
def yX0_isHex : MethodName := ⟨RX0, "isHex", "(I)Z"⟩
abbrev cX0_isDirection : ByteArray := prog_2_method_3_code
def yX0_isDirection : MethodName := ⟨RX0, "isDirection", "(I)Z"⟩
abbrev cX0_opposite : ByteArray := prog_2_method_4_code
def yX0_opposite : MethodName := ⟨RX0, "opposite", "(I)I"⟩
abbrev cX0_stepFrom : ByteArray := prog_2_method_5_code
def yX0_stepFrom : MethodName := ⟨RX0, "stepFrom", "(II)I"⟩
abbrev cX0_stepsBetween : ByteArray := prog_2_method_6_code
def yX0_stepsBetween : MethodName := ⟨RX0, "stepsBetween", "(II)I"⟩
abbrev cX0_slantOf : ByteArray := prog_2_method_7_code
def yX0_slantOf : MethodName := ⟨RX0, "slantOf", "(I)I"⟩
abbrev cX0_neighbourCount : ByteArray := prog_2_method_8_code
def yX0_neighbourCount : MethodName := ⟨RX0, "neighbourCount", "(I)I"⟩
abbrev cX0_directionTo : ByteArray := prog_2_method_9_code
def yX0_directionTo : MethodName := ⟨RX0, "directionTo", "(II)I"⟩
def RX1 : String := "RiverCampaign$Fight"
def TX1 : u_T := fun k => match k with
  | 0 => ("RiverCampaign$Fight", "board", "LRiverCampaign$Board;", true)
  | 1 => ("RiverCampaign$Fight", "supply", "LRiverCampaign$Supply;", true)
  | 2 => ("RiverCampaign$Fight", "attackPower", "I", false)
  | 3 => ("RiverCampaign$Fight", "defencePower", "I", false)
  | 4 => ("RiverCampaign$Fight", "attackerLeft", "I", false)
  | _ => ("RiverCampaign$Fight", "defenderLeft", "I", false)
def tyX1 : Nat → FieldType := fun k => match k with
  | 0 => .object "RiverCampaign$Board"
  | 1 => .object "RiverCampaign$Supply"
  | 2 => .int
  | 3 => .int
  | 4 => .int
  | _ => .int
abbrev wsX10 : List Cond := u_ws RX1 TX1 6
theorem nmX1 : ∀ a, a < 6 → ∀ b, b < 6 → a ≠ b → (TX1 a).2.1 ≠ (TX1 b).2.1 := by decide +kernel
theorem tyX1_ok : ∀ k, k < 6 → parseFieldDescriptor (TX1 k).2.2.1 = some (tyX1 k) := by decide +kernel
abbrev cX1_init : ByteArray := prog_3_method_1_code
def yX1_init : MethodName := ⟨RX1, "<init>", "(LRiverCampaign$Board;LRiverCampaign$Supply;)V"⟩
abbrev cX1_weigh : ByteArray := prog_3_method_2_code
def yX1_weigh : MethodName := ⟨RX1, "weigh", "(LRiverCampaign$State;II)V"⟩
abbrev cX1_powerOfAttack : ByteArray := prog_3_method_3_code
def yX1_powerOfAttack : MethodName := ⟨RX1, "powerOfAttack", "(LRiverCampaign$State;II)I"⟩
abbrev cX1_powerOfDefence : ByteArray := prog_3_method_4_code
def yX1_powerOfDefence : MethodName := ⟨RX1, "powerOfDefence", "(LRiverCampaign$State;I)I"⟩
def RX2 : String := "RiverCampaign$History"
def TX2 : u_T := fun k => match k with
  | 0 => ("RiverCampaign$History", "states", "[LRiverCampaign$State;", true)
  | 1 => ("RiverCampaign$History", "next", "I", false)
  | _ => ("RiverCampaign$History", "size", "I", false)
def tyX2 : Nat → FieldType := fun k => match k with
  | 0 => .array (.object "RiverCampaign$State")
  | 1 => .int
  | _ => .int
abbrev wsX20 : List Cond := u_ws RX2 TX2 3
theorem nmX2 : ∀ a, a < 3 → ∀ b, b < 3 → a ≠ b → (TX2 a).2.1 ≠ (TX2 b).2.1 := by decide +kernel
theorem tyX2_ok : ∀ k, k < 3 → parseFieldDescriptor (TX2 k).2.2.1 = some (tyX2 k) := by decide +kernel
abbrev cX2_init : ByteArray := prog_4_method_1_code
def yX2_init : MethodName := ⟨RX2, "<init>", "(LRiverCampaign$Board;)V"⟩
abbrev cX2_record : ByteArray := prog_4_method_2_code
def yX2_record : MethodName := ⟨RX2, "record", "(LRiverCampaign$State;)V"⟩
abbrev cX2_takeBack : ByteArray := prog_4_method_3_code
def yX2_takeBack : MethodName := ⟨RX2, "takeBack", "(LRiverCampaign$State;)Z"⟩
def RX3 : String := "RiverCampaign$Orders"
def TX3 : u_T := fun k => match k with
  | 0 => ("RiverCampaign$Orders", "text", "[C", true)
  | 1 => ("RiverCampaign$Orders", "length", "I", false)
  | 2 => ("RiverCampaign$Orders", "count", "I", false)
  | 3 => ("RiverCampaign$Orders", "signs", "[C", true)
  | 4 => ("RiverCampaign$Orders", "units", "[I", true)
  | 5 => ("RiverCampaign$Orders", "hexes", "[I", true)
  | 6 => ("RiverCampaign$Orders", "unitRead", "I", false)
  | 7 => ("RiverCampaign$Orders", "signRead", "C", false)
  | _ => ("RiverCampaign$Orders", "columnRead", "I", false)
def tyX3 : Nat → FieldType := fun k => match k with
  | 0 => .array .char
  | 1 => .int
  | 2 => .int
  | 3 => .array .char
  | 4 => .array .int
  | 5 => .array .int
  | 6 => .int
  | 7 => .char
  | _ => .int
abbrev wsX30 : List Cond := u_ws RX3 TX3 9
theorem nmX3 : ∀ a, a < 9 → ∀ b, b < 9 → a ≠ b → (TX3 a).2.1 ≠ (TX3 b).2.1 := by decide +kernel
theorem tyX3_ok : ∀ k, k < 9 → parseFieldDescriptor (TX3 k).2.2.1 = some (tyX3 k) := by decide +kernel
abbrev cX3_init : ByteArray := prog_5_method_1_code
def yX3_init : MethodName := ⟨RX3, "<init>", "()V"⟩
abbrev cX3_append : ByteArray := prog_5_method_2_code
def yX3_append : MethodName := ⟨RX3, "append", "(C)Z"⟩
abbrev cX3_read : ByteArray := prog_5_method_3_code
def yX3_read : MethodName := ⟨RX3, "read", "()I"⟩
abbrev cX3_stageAfter : ByteArray := prog_5_method_4_code
def yX3_stageAfter : MethodName := ⟨RX3, "stageAfter", "(IC)I"⟩
abbrev cX3_isIn : ByteArray := prog_5_method_5_code
def yX3_isIn : MethodName := ⟨RX3, "isIn", "(CCC)Z"⟩
abbrev cX3_readFirst : ByteArray := prog_5_method_6_code
def yX3_readFirst : MethodName := ⟨RX3, "readFirst", "(C)I"⟩
abbrev cX3_readUnit : ByteArray := prog_5_method_7_code
def yX3_readUnit : MethodName := ⟨RX3, "readUnit", "(I)I"⟩
abbrev cX3_readSign : ByteArray := prog_5_method_8_code
def yX3_readSign : MethodName := ⟨RX3, "readSign", "(C)I"⟩
abbrev cX3_readColumn : ByteArray := prog_5_method_9_code
def yX3_readColumn : MethodName := ⟨RX3, "readColumn", "(C)I"⟩
abbrev cX3_readRow : ByteArray := prog_5_method_10_code
def yX3_readRow : MethodName := ⟨RX3, "readRow", "(C)I"⟩
abbrev cX3_addOrder : ByteArray := prog_5_method_11_code
def yX3_addOrder : MethodName := ⟨RX3, "addOrder", "(I)I"⟩
def RX4 : String := "RiverCampaign$State"
def TX4 : u_T := fun k => match k with
  | 0 => ("RiverCampaign$State", "board", "LRiverCampaign$Board;", true)
  | 1 => ("RiverCampaign$State", "grounds", "[I", true)
  | 2 => ("RiverCampaign$State", "rivers", "[I", true)
  | 3 => ("RiverCampaign$State", "forts", "[I", true)
  | 4 => ("RiverCampaign$State", "unitOn", "[I", true)
  | 5 => ("RiverCampaign$State", "bases", "[I", true)
  | 6 => ("RiverCampaign$State", "units", "I", false)
  | 7 => ("RiverCampaign$State", "sides", "[I", true)
  | 8 => ("RiverCampaign$State", "strengths", "[I", true)
  | 9 => ("RiverCampaign$State", "hexes", "[I", true)
  | 10 => ("RiverCampaign$State", "points", "[I", true)
  | 11 => ("RiverCampaign$State", "attacksLeft", "[I", true)
  | 12 => ("RiverCampaign$State", "starved", "[I", true)
  | _ => ("RiverCampaign$State", "turns", "I", false)
def tyX4 : Nat → FieldType := fun k => match k with
  | 0 => .object "RiverCampaign$Board"
  | 1 => .array .int
  | 2 => .array .int
  | 3 => .array .int
  | 4 => .array .int
  | 5 => .array .int
  | 6 => .int
  | 7 => .array .int
  | 8 => .array .int
  | 9 => .array .int
  | 10 => .array .int
  | 11 => .array .int
  | 12 => .array .int
  | _ => .int
abbrev wsX40 : List Cond := u_ws RX4 TX4 14
theorem nmX4 : ∀ a, a < 14 → ∀ b, b < 14 → a ≠ b → (TX4 a).2.1 ≠ (TX4 b).2.1 := by decide +kernel
theorem tyX4_ok : ∀ k, k < 14 → parseFieldDescriptor (TX4 k).2.2.1 = some (tyX4 k) := by decide +kernel
abbrev cX4_init : ByteArray := prog_6_method_1_code
def yX4_init : MethodName := ⟨RX4, "<init>", "(LRiverCampaign$Board;)V"⟩
abbrev cX4_copyFrom : ByteArray := prog_6_method_2_code
def yX4_copyFrom : MethodName := ⟨RX4, "copyFrom", "(LRiverCampaign$State;)V"⟩
abbrev cX4_sideInTurn : ByteArray := prog_6_method_3_code
def yX4_sideInTurn : MethodName := ⟨RX4, "sideInTurn", "()I"⟩
abbrev cX4_isUnit : ByteArray := prog_6_method_4_code
def yX4_isUnit : MethodName := ⟨RX4, "isUnit", "(I)Z"⟩
abbrev cX4_isUnitOf : ByteArray := prog_6_method_5_code
def yX4_isUnitOf : MethodName := ⟨RX4, "isUnitOf", "(II)Z"⟩
abbrev cX4_sideOn : ByteArray := prog_6_method_6_code
def yX4_sideOn : MethodName := ⟨RX4, "sideOn", "(I)I"⟩
abbrev cX4_hasFort : ByteArray := prog_6_method_7_code
def yX4_hasFort : MethodName := ⟨RX4, "hasFort", "(I)Z"⟩
abbrev cX4_hasRiver : ByteArray := prog_6_method_8_code
def yX4_hasRiver : MethodName := ⟨RX4, "hasRiver", "(II)Z"⟩
abbrev cX4_addUnit : ByteArray := prog_6_method_9_code
def yX4_addUnit : MethodName := ⟨RX4, "addUnit", "(III)I"⟩
abbrev cX4_shift : ByteArray := prog_6_method_10_code
def yX4_shift : MethodName := ⟨RX4, "shift", "(II)V"⟩
abbrev cX4_stand : ByteArray := prog_6_method_11_code
def yX4_stand : MethodName := ⟨RX4, "stand", "(II)V"⟩
abbrev cX4_giveFortToUnit : ByteArray := prog_6_method_12_code
def yX4_giveFortToUnit : MethodName := ⟨RX4, "giveFortToUnit", "(I)V"⟩
abbrev cX4_setStrength : ByteArray := prog_6_method_13_code
def yX4_setStrength : MethodName := ⟨RX4, "setStrength", "(II)V"⟩
abbrev cX4_refresh : ByteArray := prog_6_method_14_code
def yX4_refresh : MethodName := ⟨RX4, "refresh", "(I)V"⟩
abbrev cX4_inZone : ByteArray := prog_6_method_15_code
def yX4_inZone : MethodName := ⟨RX4, "inZone", "(II)Z"⟩
abbrev cX4_isSeen : ByteArray := prog_6_method_16_code
def yX4_isSeen : MethodName := ⟨RX4, "isSeen", "(II)Z"⟩
abbrev cX4_isSeenByUnit : ByteArray := prog_6_method_17_code
def yX4_isSeenByUnit : MethodName := ⟨RX4, "isSeenByUnit", "(II)Z"⟩
abbrev cX4_isSeenByFort : ByteArray := prog_6_method_18_code
def yX4_isSeenByFort : MethodName := ⟨RX4, "isSeenByFort", "(II)Z"⟩
abbrev cX4_seenCount : ByteArray := prog_6_method_19_code
def yX4_seenCount : MethodName := ⟨RX4, "seenCount", "(I)I"⟩
abbrev cX4_unitCount : ByteArray := prog_6_method_20_code
def yX4_unitCount : MethodName := ⟨RX4, "unitCount", "(I)I"⟩
abbrev cX4_strengthOf : ByteArray := prog_6_method_21_code
def yX4_strengthOf : MethodName := ⟨RX4, "strengthOf", "(I)I"⟩
abbrev cX4_fortCount : ByteArray := prog_6_method_22_code
def yX4_fortCount : MethodName := ⟨RX4, "fortCount", "(I)I"⟩
abbrev cX4_riverCount : ByteArray := prog_6_method_23_code
def yX4_riverCount : MethodName := ⟨RX4, "riverCount", "()I"⟩
def RX5 : String := "RiverCampaign$Supply"
def TX5 : u_T := fun k => match k with
  | 0 => ("RiverCampaign$Supply", "board", "LRiverCampaign$Board;", true)
  | 1 => ("RiverCampaign$Supply", "steps", "[I", true)
  | _ => ("RiverCampaign$Supply", "free", "[Z", true)
def tyX5 : Nat → FieldType := fun k => match k with
  | 0 => .object "RiverCampaign$Board"
  | 1 => .array .int
  | _ => .array .boolean
abbrev wsX50 : List Cond := u_ws RX5 TX5 3
theorem nmX5 : ∀ a, a < 3 → ∀ b, b < 3 → a ≠ b → (TX5 a).2.1 ≠ (TX5 b).2.1 := by decide +kernel
theorem tyX5_ok : ∀ k, k < 3 → parseFieldDescriptor (TX5 k).2.2.1 = some (tyX5 k) := by decide +kernel
abbrev cX5_init : ByteArray := prog_7_method_1_code
def yX5_init : MethodName := ⟨RX5, "<init>", "(LRiverCampaign$Board;)V"⟩
abbrev cX5_measure : ByteArray := prog_7_method_2_code
def yX5_measure : MethodName := ⟨RX5, "measure", "(LRiverCampaign$State;I)V"⟩
abbrev cX5_spread : ByteArray := prog_7_method_3_code
def yX5_spread : MethodName := ⟨RX5, "spread", "(I)V"⟩
abbrev cX5_isFree : ByteArray := prog_7_method_4_code
def yX5_isFree : MethodName := ⟨RX5, "isFree", "(LRiverCampaign$State;II)Z"⟩
abbrev cX5_reaches : ByteArray := prog_7_method_5_code
def yX5_reaches : MethodName := ⟨RX5, "reaches", "(I)Z"⟩
def RX6 : String := "RiverCampaign$Ways"
def TX6 : u_T := fun k => match k with
  | 0 => ("RiverCampaign$Ways", "board", "LRiverCampaign$Board;", true)
  | _ => ("RiverCampaign$Ways", "costs", "[I", true)
def tyX6 : Nat → FieldType := fun k => match k with
  | 0 => .object "RiverCampaign$Board"
  | _ => .array .int
abbrev wsX60 : List Cond := u_ws RX6 TX6 2
theorem nmX6 : ∀ a, a < 2 → ∀ b, b < 2 → a ≠ b → (TX6 a).2.1 ≠ (TX6 b).2.1 := by decide +kernel
theorem tyX6_ok : ∀ k, k < 2 → parseFieldDescriptor (TX6 k).2.2.1 = some (tyX6 k) := by decide +kernel
abbrev cX6_init : ByteArray := prog_8_method_1_code
def yX6_init : MethodName := ⟨RX6, "<init>", "(LRiverCampaign$Board;)V"⟩
abbrev cX6_measure : ByteArray := prog_8_method_2_code
def yX6_measure : MethodName := ⟨RX6, "measure", "(LRiverCampaign$State;I)V"⟩
abbrev cX6_goOn : ByteArray := prog_8_method_3_code
def yX6_goOn : MethodName := ⟨RX6, "goOn", "(LRiverCampaign$State;II)V"⟩
abbrev cX6_costOfStep : ByteArray := prog_8_method_4_code
def yX6_costOfStep : MethodName := ⟨RX6, "costOfStep", "(LRiverCampaign$State;III)I"⟩
abbrev cX6_canEndOn : ByteArray := prog_8_method_5_code
def yX6_canEndOn : MethodName := ⟨RX6, "canEndOn", "(LRiverCampaign$State;I)Z"⟩
abbrev cX6_endCount : ByteArray := prog_8_method_6_code
def yX6_endCount : MethodName := ⟨RX6, "endCount", "(LRiverCampaign$State;)I"⟩
def RX7 : String := "RiverCampaign"
def TX7 : u_T := fun k => match k with
  | 0 => ("RiverCampaign", "board", "LRiverCampaign$Board;", true)
  | 1 => ("RiverCampaign", "now", "LRiverCampaign$State;", true)
  | 2 => ("RiverCampaign", "past", "LRiverCampaign$State;", true)
  | 3 => ("RiverCampaign", "snapshot", "LRiverCampaign$State;", true)
  | 4 => ("RiverCampaign", "hasSnapshot", "Z", false)
  | 5 => ("RiverCampaign", "history", "LRiverCampaign$History;", true)
  | 6 => ("RiverCampaign", "orders", "LRiverCampaign$Orders;", true)
  | 7 => ("RiverCampaign", "ways", "LRiverCampaign$Ways;", true)
  | 8 => ("RiverCampaign", "supply", "LRiverCampaign$Supply;", true)
  | _ => ("RiverCampaign", "fight", "LRiverCampaign$Fight;", true)
def tyX7 : Nat → FieldType := fun k => match k with
  | 0 => .object "RiverCampaign$Board"
  | 1 => .object "RiverCampaign$State"
  | 2 => .object "RiverCampaign$State"
  | 3 => .object "RiverCampaign$State"
  | 4 => .boolean
  | 5 => .object "RiverCampaign$History"
  | 6 => .object "RiverCampaign$Orders"
  | 7 => .object "RiverCampaign$Ways"
  | 8 => .object "RiverCampaign$Supply"
  | _ => .object "RiverCampaign$Fight"
abbrev wsX70 : List Cond := u_ws RX7 TX7 10
theorem nmX7 : ∀ a, a < 10 → ∀ b, b < 10 → a ≠ b → (TX7 a).2.1 ≠ (TX7 b).2.1 := by decide +kernel
theorem tyX7_ok : ∀ k, k < 10 → parseFieldDescriptor (TX7 k).2.2.1 = some (tyX7 k) := by decide +kernel
abbrev cX7_init : ByteArray := prog_1_method_1_code
def yX7_init : MethodName := ⟨RX7, "<init>", "()V"⟩
abbrev cX7_ground : ByteArray := prog_1_method_2_code
def yX7_ground : MethodName := ⟨RX7, "ground", "(II)I"⟩
abbrev cX7_river : ByteArray := prog_1_method_3_code
def yX7_river : MethodName := ⟨RX7, "river", "(IIZ)I"⟩
abbrev cX7_fort : ByteArray := prog_1_method_4_code
def yX7_fort : MethodName := ⟨RX7, "fort", "(II)I"⟩
abbrev cX7_base : ByteArray := prog_1_method_5_code
def yX7_base : MethodName := ⟨RX7, "base", "(II)I"⟩
abbrev cX7_place : ByteArray := prog_1_method_6_code
def yX7_place : MethodName := ⟨RX7, "place", "(III)I"⟩
abbrev cX7_move : ByteArray := prog_1_method_7_code
def yX7_move : MethodName := ⟨RX7, "move", "(II)I"⟩
abbrev cX7_attack : ByteArray := prog_1_method_8_code
def yX7_attack : MethodName := ⟨RX7, "attack", "(II)I"⟩
abbrev cX7_endTurn : ByteArray := prog_1_method_9_code
def yX7_endTurn : MethodName := ⟨RX7, "endTurn", "()I"⟩
abbrev cX7_perform : ByteArray := prog_1_method_10_code
def yX7_perform : MethodName := ⟨RX7, "perform", "()I"⟩
abbrev cX7_recordedIfDone : ByteArray := prog_1_method_11_code
def yX7_recordedIfDone : MethodName := ⟨RX7, "recordedIfDone", "(I)I"⟩
abbrev cX7_moveUnit : ByteArray := prog_1_method_12_code
def yX7_moveUnit : MethodName := ⟨RX7, "moveUnit", "(II)I"⟩
abbrev cX7_strike : ByteArray := prog_1_method_13_code
def yX7_strike : MethodName := ⟨RX7, "strike", "(II)I"⟩
abbrev cX7_canFight : ByteArray := prog_1_method_14_code
def yX7_canFight : MethodName := ⟨RX7, "canFight", "(II)Z"⟩
abbrev cX7_finishTurn : ByteArray := prog_1_method_15_code
def yX7_finishTurn : MethodName := ⟨RX7, "finishTurn", "()I"⟩
abbrev cX7_starve : ByteArray := prog_1_method_16_code
def yX7_starve : MethodName := ⟨RX7, "starve", "(I)I"⟩
abbrev cX7_type : ByteArray := prog_1_method_17_code
def yX7_type : MethodName := ⟨RX7, "type", "(C)I"⟩
abbrev cX7_clearText : ByteArray := prog_1_method_18_code
def yX7_clearText : MethodName := ⟨RX7, "clearText", "()I"⟩
abbrev cX7_undo : ByteArray := prog_1_method_19_code
def yX7_undo : MethodName := ⟨RX7, "undo", "()I"⟩
abbrev cX7_keep : ByteArray := prog_1_method_20_code
def yX7_keep : MethodName := ⟨RX7, "keep", "()I"⟩
abbrev cX7_restore : ByteArray := prog_1_method_21_code
def yX7_restore : MethodName := ⟨RX7, "restore", "()I"⟩
abbrev cX7_hex : ByteArray := prog_1_method_22_code
def yX7_hex : MethodName := ⟨RX7, "hex", "(II)I"⟩
abbrev cX7_beside : ByteArray := prog_1_method_23_code
def yX7_beside : MethodName := ⟨RX7, "beside", "(II)I"⟩
abbrev cX7_distance : ByteArray := prog_1_method_24_code
def yX7_distance : MethodName := ⟨RX7, "distance", "(II)I"⟩
abbrev cX7_unit : ByteArray := prog_1_method_25_code
def yX7_unit : MethodName := ⟨RX7, "unit", "(II)I"⟩
abbrev cX7_cost : ByteArray := prog_1_method_26_code
def yX7_cost : MethodName := ⟨RX7, "cost", "(II)I"⟩
abbrev cX7_would : ByteArray := prog_1_method_27_code
def yX7_would : MethodName := ⟨RX7, "would", "(III)I"⟩
abbrev cX7_besieged : ByteArray := prog_1_method_28_code
def yX7_besieged : MethodName := ⟨RX7, "besieged", "(I)I"⟩
abbrev cX7_count : ByteArray := prog_1_method_29_code
def yX7_count : MethodName := ⟨RX7, "count", "(I)I"⟩
abbrev cX7_isSide : ByteArray := prog_1_method_30_code
def yX7_isSide : MethodName := ⟨RX7, "isSide", "(I)Z"⟩
abbrev cX7_oneIf : ByteArray := prog_1_method_31_code
def yX7_oneIf : MethodName := ⟨RX7, "oneIf", "(Z)I"⟩
def RX8 : String := "RiverCampaignModel"
def TX8 : u_T := fun k => match k with
  | 0 => ("RiverCampaignModel", "thrown", "I", false)
  | 1 => ("RiverCampaignModel", "s", "[I", true)
  | 2 => ("RiverCampaignModel", "aside", "[I", true)
  | 3 => ("RiverCampaignModel", "saved", "[I", true)
  | 4 => ("RiverCampaignModel", "savedMany", "I", false)
  | 5 => ("RiverCampaignModel", "snapshot", "[I", true)
  | 6 => ("RiverCampaignModel", "hasSnapshot", "Z", false)
  | 7 => ("RiverCampaignModel", "text", "[I", true)
  | 8 => ("RiverCampaignModel", "length", "I", false)
  | 9 => ("RiverCampaignModel", "costs", "[I", true)
  | 10 => ("RiverCampaignModel", "isDone", "[Z", true)
  | 11 => ("RiverCampaignModel", "steps", "[I", true)
  | 12 => ("RiverCampaignModel", "isZone", "[Z", true)
  | 13 => ("RiverCampaignModel", "starves", "[Z", true)
  | 14 => ("RiverCampaignModel", "at", "I", false)
  | 15 => ("RiverCampaignModel", "isWell", "Z", false)
  | 16 => ("RiverCampaignModel", "orders", "[I", true)
  | _ => ("RiverCampaignModel", "orderMany", "I", false)
def tyX8 : Nat → FieldType := fun k => match k with
  | 0 => .int
  | 1 => .array .int
  | 2 => .array .int
  | 3 => .array .int
  | 4 => .int
  | 5 => .array .int
  | 6 => .boolean
  | 7 => .array .int
  | 8 => .int
  | 9 => .array .int
  | 10 => .array .boolean
  | 11 => .array .int
  | 12 => .array .boolean
  | 13 => .array .boolean
  | 14 => .int
  | 15 => .boolean
  | 16 => .array .int
  | _ => .int
abbrev wsX80 : List Cond := u_ws RX8 TX8 18
theorem nmX8 : ∀ a, a < 18 → ∀ b, b < 18 → a ≠ b → (TX8 a).2.1 ≠ (TX8 b).2.1 := by decide +kernel
theorem tyX8_ok : ∀ k, k < 18 → parseFieldDescriptor (TX8 k).2.2.1 = some (tyX8 k) := by decide +kernel
abbrev cX8_init : ByteArray := prog_10_method_1_code
def yX8_init : MethodName := ⟨RX8, "<init>", "()V"⟩
abbrev cX8_in : ByteArray := prog_10_method_3_code
def yX8_in : MethodName := ⟨RX8, "in", "(III)Z"⟩
abbrev cX8_isHex : ByteArray := prog_10_method_4_code
def yX8_isHex : MethodName := ⟨RX8, "isHex", "(I)Z"⟩
abbrev cX8_of : ByteArray := prog_10_method_5_code
def yX8_of : MethodName := ⟨RX8, "of", "(II)I"⟩
abbrev cX8_lay : ByteArray := prog_10_method_6_code
def yX8_lay : MethodName := ⟨RX8, "lay", "(III)V"⟩
abbrev cX8_isUnit : ByteArray := prog_10_method_7_code
def yX8_isUnit : MethodName := ⟨RX8, "isUnit", "(I)Z"⟩
abbrev cX8_records : ByteArray := prog_10_method_8_code
def yX8_records : MethodName := ⟨RX8, "records", "()V"⟩
abbrev cX8_putAside : ByteArray := prog_10_method_9_code
def yX8_putAside : MethodName := ⟨RX8, "putAside", "()V"⟩
abbrev cX8_takeBack : ByteArray := prog_10_method_10_code
def yX8_takeBack : MethodName := ⟨RX8, "takeBack", "()V"⟩
abbrev cX8_next : ByteArray := prog_10_method_11_code
def yX8_next : MethodName := ⟨RX8, "next", "(II)I"⟩
abbrev cX8_directionTo : ByteArray := prog_10_method_12_code
def yX8_directionTo : MethodName := ⟨RX8, "directionTo", "(II)I"⟩
abbrev cX8_hasRiver : ByteArray := prog_10_method_13_code
def yX8_hasRiver : MethodName := ⟨RX8, "hasRiver", "(II)Z"⟩
abbrev cX8_unitOn : ByteArray := prog_10_method_14_code
def yX8_unitOn : MethodName := ⟨RX8, "unitOn", "(I)I"⟩
abbrev cX8_isOn : ByteArray := prog_10_method_15_code
def yX8_isOn : MethodName := ⟨RX8, "isOn", "(II)Z"⟩
abbrev cX8_isInZone : ByteArray := prog_10_method_16_code
def yX8_isInZone : MethodName := ⟨RX8, "isInZone", "(II)Z"⟩
abbrev cX8_laysZone : ByteArray := prog_10_method_17_code
def yX8_laysZone : MethodName := ⟨RX8, "laysZone", "(I)V"⟩
abbrev cX8_laysDistances : ByteArray := prog_10_method_18_code
def yX8_laysDistances : MethodName := ⟨RX8, "laysDistances", "(I)V"⟩
abbrev cX8_stands : ByteArray := prog_10_method_19_code
def yX8_stands : MethodName := ⟨RX8, "stands", "(II)V"⟩
abbrev cX8_entering : ByteArray := prog_10_method_20_code
def yX8_entering : MethodName := ⟨RX8, "entering", "(III)I"⟩
abbrev cX8_laysWays : ByteArray := prog_10_method_21_code
def yX8_laysWays : MethodName := ⟨RX8, "laysWays", "(I)V"⟩
abbrev cX8_cheapest : ByteArray := prog_10_method_22_code
def yX8_cheapest : MethodName := ⟨RX8, "cheapest", "()I"⟩
abbrev cX8_canReach : ByteArray := prog_10_method_23_code
def yX8_canReach : MethodName := ⟨RX8, "canReach", "(II)Z"⟩
abbrev cX8_isSource : ByteArray := prog_10_method_24_code
def yX8_isSource : MethodName := ⟨RX8, "isSource", "(II)Z"⟩
abbrev cX8_isFree : ByteArray := prog_10_method_25_code
def yX8_isFree : MethodName := ⟨RX8, "isFree", "(II)Z"⟩
abbrev cX8_toSource : ByteArray := prog_10_method_26_code
def yX8_toSource : MethodName := ⟨RX8, "toSource", "(I)I"⟩
abbrev cX8_isSupplied : ByteArray := prog_10_method_27_code
def yX8_isSupplied : MethodName := ⟨RX8, "isSupplied", "(I)Z"⟩
abbrev cX8_sees : ByteArray := prog_10_method_28_code
def yX8_sees : MethodName := ⟨RX8, "sees", "(II)Z"⟩
abbrev cX8_power : ByteArray := prog_10_method_29_code
def yX8_power : MethodName := ⟨RX8, "power", "(II)I"⟩
abbrev cX8_defence : ByteArray := prog_10_method_30_code
def yX8_defence : MethodName := ⟨RX8, "defence", "(I)I"⟩
abbrev cX8_weakened : ByteArray := prog_10_method_31_code
def yX8_weakened : MethodName := ⟨RX8, "weakened", "(II)I"⟩
abbrev cX8_canFight : ByteArray := prog_10_method_32_code
def yX8_canFight : MethodName := ⟨RX8, "canFight", "(II)Z"⟩
abbrev cX8_fights : ByteArray := prog_10_method_33_code
def yX8_fights : MethodName := ⟨RX8, "fights", "(II)I"⟩
abbrev cX8_ground : ByteArray := prog_10_method_34_code
def yX8_ground : MethodName := ⟨RX8, "ground", "(II)I"⟩
abbrev cX8_rivers : ByteArray := prog_10_method_35_code
def yX8_rivers : MethodName := ⟨RX8, "rivers", "()I"⟩
abbrev cX8_river : ByteArray := prog_10_method_36_code
def yX8_river : MethodName := ⟨RX8, "river", "(IIZ)I"⟩
abbrev cX8_forts : ByteArray := prog_10_method_37_code
def yX8_forts : MethodName := ⟨RX8, "forts", "(I)I"⟩
abbrev cX8_fort : ByteArray := prog_10_method_38_code
def yX8_fort : MethodName := ⟨RX8, "fort", "(II)I"⟩
abbrev cX8_base : ByteArray := prog_10_method_39_code
def yX8_base : MethodName := ⟨RX8, "base", "(II)I"⟩
abbrev cX8_place : ByteArray := prog_10_method_40_code
def yX8_place : MethodName := ⟨RX8, "place", "(III)I"⟩
abbrev cX8_isAtTurn : ByteArray := prog_10_method_41_code
def yX8_isAtTurn : MethodName := ⟨RX8, "isAtTurn", "(I)Z"⟩
abbrev cX8_refusesMove : ByteArray := prog_10_method_42_code
def yX8_refusesMove : MethodName := ⟨RX8, "refusesMove", "(II)I"⟩
abbrev cX8_moves : ByteArray := prog_10_method_43_code
def yX8_moves : MethodName := ⟨RX8, "moves", "(II)I"⟩
abbrev cX8_move : ByteArray := prog_10_method_44_code
def yX8_move : MethodName := ⟨RX8, "move", "(II)I"⟩
abbrev cX8_refusesAttack : ByteArray := prog_10_method_45_code
def yX8_refusesAttack : MethodName := ⟨RX8, "refusesAttack", "(II)I"⟩
abbrev cX8_attack : ByteArray := prog_10_method_46_code
def yX8_attack : MethodName := ⟨RX8, "attack", "(II)I"⟩
abbrev cX8_ends : ByteArray := prog_10_method_47_code
def yX8_ends : MethodName := ⟨RX8, "ends", "()I"⟩
abbrev cX8_endTurn : ByteArray := prog_10_method_48_code
def yX8_endTurn : MethodName := ⟨RX8, "endTurn", "()I"⟩
abbrev cX8_type : ByteArray := prog_10_method_49_code
def yX8_type : MethodName := ⟨RX8, "type", "(C)I"⟩
abbrev cX8_clearText : ByteArray := prog_10_method_50_code
def yX8_clearText : MethodName := ⟨RX8, "clearText", "()I"⟩
abbrev cX8_sign : ByteArray := prog_10_method_51_code
def yX8_sign : MethodName := ⟨RX8, "sign", "()I"⟩
abbrev cX8_takes : ByteArray := prog_10_method_52_code
def yX8_takes : MethodName := ⟨RX8, "takes", "(II)I"⟩
abbrev cX8_readsOrder : ByteArray := prog_10_method_53_code
def yX8_readsOrder : MethodName := ⟨RX8, "readsOrder", "()V"⟩
abbrev cX8_reads : ByteArray := prog_10_method_54_code
def yX8_reads : MethodName := ⟨RX8, "reads", "()I"⟩
abbrev cX8_does : ByteArray := prog_10_method_55_code
def yX8_does : MethodName := ⟨RX8, "does", "(I)I"⟩
abbrev cX8_perform : ByteArray := prog_10_method_56_code
def yX8_perform : MethodName := ⟨RX8, "perform", "()I"⟩
abbrev cX8_undo : ByteArray := prog_10_method_57_code
def yX8_undo : MethodName := ⟨RX8, "undo", "()I"⟩
abbrev cX8_keep : ByteArray := prog_10_method_58_code
def yX8_keep : MethodName := ⟨RX8, "keep", "()I"⟩
abbrev cX8_restore : ByteArray := prog_10_method_59_code
def yX8_restore : MethodName := ⟨RX8, "restore", "()I"⟩
abbrev cX8_besides : ByteArray := prog_10_method_60_code
def yX8_besides : MethodName := ⟨RX8, "besides", "(I)I"⟩
abbrev cX8_hex : ByteArray := prog_10_method_61_code
def yX8_hex : MethodName := ⟨RX8, "hex", "(II)I"⟩
abbrev cX8_beside : ByteArray := prog_10_method_62_code
def yX8_beside : MethodName := ⟨RX8, "beside", "(II)I"⟩
abbrev cX8_distance : ByteArray := prog_10_method_63_code
def yX8_distance : MethodName := ⟨RX8, "distance", "(II)I"⟩
abbrev cX8_reaches : ByteArray := prog_10_method_64_code
def yX8_reaches : MethodName := ⟨RX8, "reaches", "(I)I"⟩
abbrev cX8_unit : ByteArray := prog_10_method_65_code
def yX8_unit : MethodName := ⟨RX8, "unit", "(II)I"⟩
abbrev cX8_cost : ByteArray := prog_10_method_66_code
def yX8_cost : MethodName := ⟨RX8, "cost", "(II)I"⟩
abbrev cX8_would : ByteArray := prog_10_method_67_code
def yX8_would : MethodName := ⟨RX8, "would", "(III)I"⟩
abbrev cX8_besieged : ByteArray := prog_10_method_68_code
def yX8_besieged : MethodName := ⟨RX8, "besieged", "(I)I"⟩
abbrev cX8_unitsOf : ByteArray := prog_10_method_69_code
def yX8_unitsOf : MethodName := ⟨RX8, "unitsOf", "(II)I"⟩
abbrev cX8_seen : ByteArray := prog_10_method_70_code
def yX8_seen : MethodName := ⟨RX8, "seen", "(I)I"⟩
abbrev cX8_count : ByteArray := prog_10_method_71_code
def yX8_count : MethodName := ⟨RX8, "count", "(I)I"⟩
def RJ6 : String := "java/lang/Integer"
def TJ6 : u_T := fun k => match k with
  | _ => ("", "", "", false)
def tyJ6 : Nat → FieldType := fun k => match k with
  | _ => .int
abbrev wsJ60 : List Cond := u_ws RJ6 TJ6 0
theorem nmJ6 : ∀ a, a < 0 → ∀ b, b < 0 → a ≠ b → (TJ6 a).2.1 ≠ (TJ6 b).2.1 := by decide +kernel
theorem tyJ6_ok : ∀ k, k < 0 → parseFieldDescriptor (TJ6 k).2.2.1 = some (tyJ6 k) := by decide +kernel
abbrev cJ6_bitCount_0f7a4 : ByteArray := prog_11_method_49_code
def yJ6_bitCount_0f7a4 : MethodName := ⟨RJ6, "bitCount", "(I)I"⟩
def RJ9 : String := "java/lang/Math"
def TJ9 : u_T := fun k => match k with
  | _ => ("", "", "", false)
def tyJ9 : Nat → FieldType := fun k => match k with
  | _ => .int
abbrev wsJ90 : List Cond := u_ws RJ9 TJ9 0
theorem nmJ9 : ∀ a, a < 0 → ∀ b, b < 0 → a ≠ b → (TJ9 a).2.1 ≠ (TJ9 b).2.1 := by decide +kernel
theorem tyJ9_ok : ∀ k, k < 0 → parseFieldDescriptor (TJ9 k).2.2.1 = some (tyJ9 k) := by decide +kernel
abbrev cJ9_abs_0f7a4 : ByteArray := prog_12_method_59_code
def yJ9_abs_0f7a4 : MethodName := ⟨RJ9, "abs", "(I)I"⟩
abbrev cJ9_max_7cf53 : ByteArray := prog_12_method_65_code
def yJ9_max_7cf53 : MethodName := ⟨RJ9, "max", "(II)I"⟩
abbrev cJ9_min_7cf53 : ByteArray := prog_12_method_69_code
def yJ9_min_7cf53 : MethodName := ⟨RJ9, "min", "(II)I"⟩
def RJ10 : String := "java/lang/System"
def TJ10 : u_T := fun k => match k with
  | _ => ("", "", "", false)
def tyJ10 : Nat → FieldType := fun k => match k with
  | _ => .int
abbrev wsJ100 : List Cond := u_ws RJ10 TJ10 0
theorem nmJ10 : ∀ a, a < 0 → ∀ b, b < 0 → a ≠ b → (TJ10 a).2.1 ≠ (TJ10 b).2.1 := by decide +kernel
theorem tyJ10_ok : ∀ k, k < 0 → parseFieldDescriptor (TJ10 k).2.2.1 = some (tyJ10 k) := by decide +kernel
def RJ7 : String := "java/util/Arrays"
def TJ7 : u_T := fun k => match k with
  | _ => ("", "", "", false)
def tyJ7 : Nat → FieldType := fun k => match k with
  | _ => .int
abbrev wsJ70 : List Cond := u_ws RJ7 TJ7 0
theorem nmJ7 : ∀ a, a < 0 → ∀ b, b < 0 → a ≠ b → (TJ7 a).2.1 ≠ (TJ7 b).2.1 := by decide +kernel
theorem tyJ7_ok : ∀ k, k < 0 → parseFieldDescriptor (TJ7 k).2.2.1 = some (tyJ7 k) := by decide +kernel
abbrev cJ7_fill_53178 : ByteArray := prog_14_method_103_code
def yJ7_fill_53178 : MethodName := ⟨RJ7, "fill", "([II)V"⟩
def RL : String := "RiverCampaignLaw"
abbrev cL_law : ByteArray := code
def yL_law : MethodName := ⟨RL, "law", "([I)Z"⟩
abbrev vwCl : List vw_C := [(RX0, TX0, 1), (RX1, TX1, 6), (RX2, TX2, 3), (RX3, TX3, 9), (RX4, TX4, 14), (RX5, TX5, 3), (RX6, TX6, 2), (RX7, TX7, 10), (RX8, TX8, 18)]
-- the words that every method may use: the good ones of lw_tbl
def mmWall : List Cond := lw_tbl.filter goodWord
theorem mmW_of {w : Cond} (h : w ∈ lw_tbl) (hg : goodWord w = true) : w ∈ mmWall := List.mem_filter.mpr ⟨h, hg⟩
theorem mmW_tbl {w : Cond} (h : w ∈ mmWall) : w ∈ lw_tbl := (List.mem_filter.mp h).1
theorem mmW_good {w : Cond} (h : w ∈ mmWall) : (w.onTables && w.keeps) = true ∨ ∃ ty, w = .arrayClass ty := good_of_word (List.mem_filter.mp h).2
theorem mmW_1 (i : Nat) {w : Cond} (h : tables_1_1[i]? = some w) (hg : goodWord w = true) : w ∈ mmWall := mmW_of (List.mem_append_right (k2_sels lw_privs) (show w ∈ tables_1 from List.mem_append_left _ (List.mem_of_getElem? h))) hg
theorem mmW_2 (i : Nat) {w : Cond} (h : tables_1_2[i]? = some w) (hg : goodWord w = true) : w ∈ mmWall := mmW_of (List.mem_append_right (k2_sels lw_privs) (show w ∈ tables_1 from List.mem_append_right _ (List.mem_append_left _ (List.mem_of_getElem? h)))) hg
theorem mmW_3 (i : Nat) {w : Cond} (h : tables_1_3[i]? = some w) (hg : goodWord w = true) : w ∈ mmWall := mmW_of (List.mem_append_right (k2_sels lw_privs) (show w ∈ tables_1 from List.mem_append_right _ (List.mem_append_right _ (List.mem_append_left _ (List.mem_of_getElem? h))))) hg
theorem mmW_4 (i : Nat) {w : Cond} (h : tables_1_4[i]? = some w) (hg : goodWord w = true) : w ∈ mmWall := mmW_of (List.mem_append_right (k2_sels lw_privs) (show w ∈ tables_1 from List.mem_append_right _ (List.mem_append_right _ (List.mem_append_right _ (List.mem_append_left _ (List.mem_of_getElem? h)))))) hg
theorem mmW_5 (i : Nat) {w : Cond} (h : tables_1_5[i]? = some w) (hg : goodWord w = true) : w ∈ mmWall := mmW_of (List.mem_append_right (k2_sels lw_privs) (show w ∈ tables_1 from List.mem_append_right _ (List.mem_append_right _ (List.mem_append_right _ (List.mem_append_right _ ((List.mem_of_getElem? h))))))) hg
theorem mmW_p1 (i : Nat) {q : MethodName × Nat} (h : lw_privs_1[i]? = some q) (hg : goodWord (Cond.selects q.1.cls q.1 q.1) = true) : Cond.selects q.1.cls q.1 q.1 ∈ mmWall := mmW_of (List.mem_append_left tables_1 (List.mem_map.mpr ⟨q, (show q ∈ lw_privs from List.mem_append_left _ (List.mem_of_getElem? h)), rfl⟩)) hg
theorem mmW_p2 (i : Nat) {q : MethodName × Nat} (h : lw_privs_2[i]? = some q) (hg : goodWord (Cond.selects q.1.cls q.1 q.1) = true) : Cond.selects q.1.cls q.1 q.1 ∈ mmWall := mmW_of (List.mem_append_left tables_1 (List.mem_map.mpr ⟨q, (show q ∈ lw_privs from List.mem_append_right _ (List.mem_append_left _ (List.mem_of_getElem? h))), rfl⟩)) hg
theorem mmW_p3 (i : Nat) {q : MethodName × Nat} (h : lw_privs_3[i]? = some q) (hg : goodWord (Cond.selects q.1.cls q.1 q.1) = true) : Cond.selects q.1.cls q.1 q.1 ∈ mmWall := mmW_of (List.mem_append_left tables_1 (List.mem_map.mpr ⟨q, (show q ∈ lw_privs from List.mem_append_right _ (List.mem_append_right _ (List.mem_append_left _ (List.mem_of_getElem? h)))), rfl⟩)) hg
theorem mmW_p4 (i : Nat) {q : MethodName × Nat} (h : lw_privs_4[i]? = some q) (hg : goodWord (Cond.selects q.1.cls q.1 q.1) = true) : Cond.selects q.1.cls q.1 q.1 ∈ mmWall := mmW_of (List.mem_append_left tables_1 (List.mem_map.mpr ⟨q, (show q ∈ lw_privs from List.mem_append_right _ (List.mem_append_right _ (List.mem_append_right _ ((List.mem_of_getElem? h))))), rfl⟩)) hg
theorem mm_ws {C : String} {T : u_T} {N : Nat} (h : ∀ k, k < N → u_lay C T k ∈ mmWall) : ∀ w ∈ u_ws C T N, w ∈ mmWall := by
  intro w hw
  obtain ⟨k, hk, rfl⟩ := List.mem_map.mp hw
  exact h k (List.mem_range.mp hk)
theorem inX0 : ∀ w ∈ wsX00, w ∈ mmWall := mm_ws (fun k hk => match k, hk with
  | 0, _ => mmW_1 42 rfl rfl
  | _ + 1, hk => absurd hk (by omega))
theorem inX1 : ∀ w ∈ wsX10, w ∈ mmWall := mm_ws (fun k hk => match k, hk with
  | 0, _ => mmW_1 229 rfl rfl
  | 1, _ => mmW_1 231 rfl rfl
  | 2, _ => mmW_1 233 rfl rfl
  | 3, _ => mmW_1 235 rfl rfl
  | 4, _ => mmW_1 237 rfl rfl
  | 5, _ => mmW_1 239 rfl rfl
  | _ + 6, hk => absurd hk (by omega))
theorem inX2 : ∀ w ∈ wsX20, w ∈ mmWall := mm_ws (fun k hk => match k, hk with
  | 0, _ => mmW_1 134 rfl rfl
  | 1, _ => mmW_1 136 rfl rfl
  | 2, _ => mmW_1 138 rfl rfl
  | _ + 3, hk => absurd hk (by omega))
theorem inX3 : ∀ w ∈ wsX30, w ∈ mmWall := mm_ws (fun k hk => match k, hk with
  | 0, _ => mmW_1 161 rfl rfl
  | 1, _ => mmW_1 163 rfl rfl
  | 2, _ => mmW_1 165 rfl rfl
  | 3, _ => mmW_1 167 rfl rfl
  | 4, _ => mmW_1 169 rfl rfl
  | 5, _ => mmW_1 171 rfl rfl
  | 6, _ => mmW_1 173 rfl rfl
  | 7, _ => mmW_1 175 rfl rfl
  | 8, _ => mmW_1 177 rfl rfl
  | _ + 9, hk => absurd hk (by omega))
theorem inX4 : ∀ w ∈ wsX40, w ∈ mmWall := mm_ws (fun k hk => match k, hk with
  | 0, _ => mmW_1 92 rfl rfl
  | 1, _ => mmW_1 94 rfl rfl
  | 2, _ => mmW_1 96 rfl rfl
  | 3, _ => mmW_1 98 rfl rfl
  | 4, _ => mmW_1 100 rfl rfl
  | 5, _ => mmW_1 102 rfl rfl
  | 6, _ => mmW_1 104 rfl rfl
  | 7, _ => mmW_1 106 rfl rfl
  | 8, _ => mmW_1 108 rfl rfl
  | 9, _ => mmW_1 110 rfl rfl
  | 10, _ => mmW_1 112 rfl rfl
  | 11, _ => mmW_1 114 rfl rfl
  | 12, _ => mmW_1 116 rfl rfl
  | 13, _ => mmW_1 118 rfl rfl
  | _ + 14, hk => absurd hk (by omega))
theorem inX5 : ∀ w ∈ wsX50, w ∈ mmWall := mm_ws (fun k hk => match k, hk with
  | 0, _ => mmW_1 205 rfl rfl
  | 1, _ => mmW_1 207 rfl rfl
  | 2, _ => mmW_1 209 rfl rfl
  | _ + 3, hk => absurd hk (by omega))
theorem inX6 : ∀ w ∈ wsX60, w ∈ mmWall := mm_ws (fun k hk => match k, hk with
  | 0, _ => mmW_1 190 rfl rfl
  | 1, _ => mmW_1 192 rfl rfl
  | _ + 2, hk => absurd hk (by omega))
theorem inX7 : ∀ w ∈ wsX70, w ∈ mmWall := mm_ws (fun k hk => match k, hk with
  | 0, _ => mmW_2 12 rfl rfl
  | 1, _ => mmW_2 14 rfl rfl
  | 2, _ => mmW_2 16 rfl rfl
  | 3, _ => mmW_2 18 rfl rfl
  | 4, _ => mmW_2 20 rfl rfl
  | 5, _ => mmW_2 22 rfl rfl
  | 6, _ => mmW_2 24 rfl rfl
  | 7, _ => mmW_2 26 rfl rfl
  | 8, _ => mmW_2 28 rfl rfl
  | 9, _ => mmW_2 30 rfl rfl
  | _ + 10, hk => absurd hk (by omega))
theorem inX8 : ∀ w ∈ wsX80, w ∈ mmWall := mm_ws (fun k hk => match k, hk with
  | 0, _ => mmW_3 184 rfl rfl
  | 1, _ => mmW_3 186 rfl rfl
  | 2, _ => mmW_3 188 rfl rfl
  | 3, _ => mmW_3 190 rfl rfl
  | 4, _ => mmW_3 192 rfl rfl
  | 5, _ => mmW_3 194 rfl rfl
  | 6, _ => mmW_3 196 rfl rfl
  | 7, _ => mmW_3 198 rfl rfl
  | 8, _ => mmW_3 200 rfl rfl
  | 9, _ => mmW_3 202 rfl rfl
  | 10, _ => mmW_3 204 rfl rfl
  | 11, _ => mmW_3 206 rfl rfl
  | 12, _ => mmW_3 208 rfl rfl
  | 13, _ => mmW_3 210 rfl rfl
  | 14, _ => mmW_3 212 rfl rfl
  | 15, _ => mmW_3 214 rfl rfl
  | 16, _ => mmW_3 216 rfl rfl
  | 17, _ => mmW_3 218 rfl rfl
  | _ + 18, hk => absurd hk (by omega))
end
section
theorem dX0_init_0 : decode cX0_init 0 = .ok (.aload_n 0, 1) := by decide +kernel
theorem dX0_init_1 : decode cX0_init 1 = .ok (.invokespecial 3, 3) := by decide +kernel
theorem dX0_init_4 : decode cX0_init 4 = .ok (.aload_n 0, 1) := by decide +kernel
theorem dX0_init_5 : decode cX0_init 5 = .ok (.sipush 378, 3) := by decide +kernel
theorem dX0_init_8 : decode cX0_init 8 = .ok (.newarray .int, 2) := by decide +kernel
theorem dX0_init_10 : decode cX0_init 10 = .ok (.putfield 9, 3) := by decide +kernel
theorem dX0_init_13 : decode cX0_init 13 = .ok (.iconst 0, 1) := by decide +kernel
theorem dX0_init_14 : decode cX0_init 14 = .ok (.istore_n 1, 1) := by decide +kernel
theorem dX0_init_15 : decode cX0_init 15 = .ok (.iload_n 1, 1) := by decide +kernel
theorem dX0_init_16 : decode cX0_init 16 = .ok (.bipush 63, 2) := by decide +kernel
theorem dX0_init_18 : decode cX0_init 18 = .ok (.if_icmp .ge 39, 3) := by decide +kernel
theorem dX0_init_21 : decode cX0_init 21 = .ok (.iconst 0, 1) := by decide +kernel
theorem dX0_init_22 : decode cX0_init 22 = .ok (.istore_n 2, 1) := by decide +kernel
theorem dX0_init_23 : decode cX0_init 23 = .ok (.iload_n 2, 1) := by decide +kernel
theorem dX0_init_24 : decode cX0_init 24 = .ok (.bipush 6, 2) := by decide +kernel
theorem dX0_init_26 : decode cX0_init 26 = .ok (.if_icmp .ge 25, 3) := by decide +kernel
theorem dX0_init_29 : decode cX0_init 29 = .ok (.aload_n 0, 1) := by decide +kernel
theorem dX0_init_30 : decode cX0_init 30 = .ok (.getfield 9, 3) := by decide +kernel
theorem dX0_init_33 : decode cX0_init 33 = .ok (.iload_n 1, 1) := by decide +kernel
theorem dX0_init_34 : decode cX0_init 34 = .ok (.bipush 6, 2) := by decide +kernel
theorem dX0_init_36 : decode cX0_init 36 = .ok (.imul, 1) := by decide +kernel
theorem dX0_init_37 : decode cX0_init 37 = .ok (.iload_n 2, 1) := by decide +kernel
theorem dX0_init_38 : decode cX0_init 38 = .ok (.iadd, 1) := by decide +kernel
theorem dX0_init_39 : decode cX0_init 39 = .ok (.iload_n 1, 1) := by decide +kernel
theorem dX0_init_40 : decode cX0_init 40 = .ok (.iload_n 2, 1) := by decide +kernel
theorem dX0_init_41 : decode cX0_init 41 = .ok (.invokestatic 13, 3) := by decide +kernel
theorem dX0_init_44 : decode cX0_init 44 = .ok (.iastore, 1) := by decide +kernel
theorem dX0_init_45 : decode cX0_init 45 = .ok (.iinc 2 1, 3) := by decide +kernel
theorem dX0_init_48 : decode cX0_init 48 = .ok (.goto (-25), 3) := by decide +kernel
theorem dX0_init_51 : decode cX0_init 51 = .ok (.iinc 1 1, 3) := by decide +kernel
theorem dX0_init_54 : decode cX0_init 54 = .ok (.goto (-39), 3) := by decide +kernel
theorem dX0_init_57 : decode cX0_init 57 = .ok (.return_, 1) := by decide +kernel
theorem dX0_isHex_0 : decode cX0_isHex 0 = .ok (.iload_n 0, 1) := by decide +kernel
theorem dX0_isHex_1 : decode cX0_isHex 1 = .ok (.ifCond .lt 13, 3) := by decide +kernel
theorem dX0_isHex_4 : decode cX0_isHex 4 = .ok (.iload_n 0, 1) := by decide +kernel
theorem dX0_isHex_5 : decode cX0_isHex 5 = .ok (.bipush 63, 2) := by decide +kernel
theorem dX0_isHex_7 : decode cX0_isHex 7 = .ok (.if_icmp .ge 7, 3) := by decide +kernel
theorem dX0_isHex_10 : decode cX0_isHex 10 = .ok (.iconst 1, 1) := by decide +kernel
theorem dX0_isHex_11 : decode cX0_isHex 11 = .ok (.goto 4, 3) := by decide +kernel
theorem dX0_isHex_14 : decode cX0_isHex 14 = .ok (.iconst 0, 1) := by decide +kernel
theorem dX0_isHex_15 : decode cX0_isHex 15 = .ok (.ireturn, 1) := by decide +kernel
theorem dX0_isDirection_0 : decode cX0_isDirection 0 = .ok (.iload_n 0, 1) := by decide +kernel
theorem dX0_isDirection_1 : decode cX0_isDirection 1 = .ok (.ifCond .lt 13, 3) := by decide +kernel
theorem dX0_isDirection_4 : decode cX0_isDirection 4 = .ok (.iload_n 0, 1) := by decide +kernel
theorem dX0_isDirection_5 : decode cX0_isDirection 5 = .ok (.bipush 6, 2) := by decide +kernel
theorem dX0_isDirection_7 : decode cX0_isDirection 7 = .ok (.if_icmp .ge 7, 3) := by decide +kernel
theorem dX0_isDirection_10 : decode cX0_isDirection 10 = .ok (.iconst 1, 1) := by decide +kernel
theorem dX0_isDirection_11 : decode cX0_isDirection 11 = .ok (.goto 4, 3) := by decide +kernel
theorem dX0_isDirection_14 : decode cX0_isDirection 14 = .ok (.iconst 0, 1) := by decide +kernel
theorem dX0_isDirection_15 : decode cX0_isDirection 15 = .ok (.ireturn, 1) := by decide +kernel
theorem dX0_opposite_0 : decode cX0_opposite 0 = .ok (.iload_n 0, 1) := by decide +kernel
theorem dX0_opposite_1 : decode cX0_opposite 1 = .ok (.iconst 3, 1) := by decide +kernel
theorem dX0_opposite_2 : decode cX0_opposite 2 = .ok (.iadd, 1) := by decide +kernel
theorem dX0_opposite_3 : decode cX0_opposite 3 = .ok (.bipush 6, 2) := by decide +kernel
theorem dX0_opposite_5 : decode cX0_opposite 5 = .ok (.irem, 1) := by decide +kernel
theorem dX0_opposite_6 : decode cX0_opposite 6 = .ok (.ireturn, 1) := by decide +kernel
theorem dX0_stepFrom_0 : decode cX0_stepFrom 0 = .ok (.iload_n 0, 1) := by decide +kernel
theorem dX0_stepFrom_1 : decode cX0_stepFrom 1 = .ok (.bipush 9, 2) := by decide +kernel
theorem dX0_stepFrom_3 : decode cX0_stepFrom 3 = .ok (.idiv, 1) := by decide +kernel
theorem dX0_stepFrom_4 : decode cX0_stepFrom 4 = .ok (.istore_n 2, 1) := by decide +kernel
theorem dX0_stepFrom_5 : decode cX0_stepFrom 5 = .ok (.iload_n 2, 1) := by decide +kernel
theorem dX0_stepFrom_6 : decode cX0_stepFrom 6 = .ok (.iconst 2, 1) := by decide +kernel
theorem dX0_stepFrom_7 : decode cX0_stepFrom 7 = .ok (.irem, 1) := by decide +kernel
theorem dX0_stepFrom_8 : decode cX0_stepFrom 8 = .ok (.ifCond .ne 9, 3) := by decide +kernel
theorem dX0_stepFrom_11 : decode cX0_stepFrom 11 = .ok (.getstatic 17, 3) := by decide +kernel
theorem dX0_stepFrom_14 : decode cX0_stepFrom 14 = .ok (.goto 6, 3) := by decide +kernel
theorem dX0_stepFrom_17 : decode cX0_stepFrom 17 = .ok (.getstatic 20, 3) := by decide +kernel
theorem dX0_stepFrom_20 : decode cX0_stepFrom 20 = .ok (.astore_n 3, 1) := by decide +kernel
theorem dX0_stepFrom_21 : decode cX0_stepFrom 21 = .ok (.iload_n 2, 1) := by decide +kernel
theorem dX0_stepFrom_22 : decode cX0_stepFrom 22 = .ok (.getstatic 23, 3) := by decide +kernel
theorem dX0_stepFrom_25 : decode cX0_stepFrom 25 = .ok (.iload_n 1, 1) := by decide +kernel
theorem dX0_stepFrom_26 : decode cX0_stepFrom 26 = .ok (.iaload, 1) := by decide +kernel
theorem dX0_stepFrom_27 : decode cX0_stepFrom 27 = .ok (.iadd, 1) := by decide +kernel
theorem dX0_stepFrom_28 : decode cX0_stepFrom 28 = .ok (.istore 4, 2) := by decide +kernel
theorem dX0_stepFrom_30 : decode cX0_stepFrom 30 = .ok (.iload_n 0, 1) := by decide +kernel
theorem dX0_stepFrom_31 : decode cX0_stepFrom 31 = .ok (.bipush 9, 2) := by decide +kernel
theorem dX0_stepFrom_33 : decode cX0_stepFrom 33 = .ok (.irem, 1) := by decide +kernel
theorem dX0_stepFrom_34 : decode cX0_stepFrom 34 = .ok (.aload_n 3, 1) := by decide +kernel
theorem dX0_stepFrom_35 : decode cX0_stepFrom 35 = .ok (.iload_n 1, 1) := by decide +kernel
theorem dX0_stepFrom_36 : decode cX0_stepFrom 36 = .ok (.iaload, 1) := by decide +kernel
theorem dX0_stepFrom_37 : decode cX0_stepFrom 37 = .ok (.iadd, 1) := by decide +kernel
theorem dX0_stepFrom_38 : decode cX0_stepFrom 38 = .ok (.istore 5, 2) := by decide +kernel
theorem dX0_stepFrom_40 : decode cX0_stepFrom 40 = .ok (.iload 4, 2) := by decide +kernel
theorem dX0_stepFrom_42 : decode cX0_stepFrom 42 = .ok (.ifCond .lt 26, 3) := by decide +kernel
theorem dX0_stepFrom_45 : decode cX0_stepFrom 45 = .ok (.iload 4, 2) := by decide +kernel
theorem dX0_stepFrom_47 : decode cX0_stepFrom 47 = .ok (.bipush 7, 2) := by decide +kernel
theorem dX0_stepFrom_49 : decode cX0_stepFrom 49 = .ok (.if_icmp .ge 19, 3) := by decide +kernel
theorem dX0_stepFrom_52 : decode cX0_stepFrom 52 = .ok (.iload 5, 2) := by decide +kernel
theorem dX0_stepFrom_54 : decode cX0_stepFrom 54 = .ok (.ifCond .lt 14, 3) := by decide +kernel
theorem dX0_stepFrom_57 : decode cX0_stepFrom 57 = .ok (.iload 5, 2) := by decide +kernel
theorem dX0_stepFrom_59 : decode cX0_stepFrom 59 = .ok (.bipush 9, 2) := by decide +kernel
theorem dX0_stepFrom_61 : decode cX0_stepFrom 61 = .ok (.if_icmp .ge 7, 3) := by decide +kernel
theorem dX0_stepFrom_64 : decode cX0_stepFrom 64 = .ok (.iconst 1, 1) := by decide +kernel
theorem dX0_stepFrom_65 : decode cX0_stepFrom 65 = .ok (.goto 4, 3) := by decide +kernel
theorem dX0_stepFrom_68 : decode cX0_stepFrom 68 = .ok (.iconst 0, 1) := by decide +kernel
theorem dX0_stepFrom_69 : decode cX0_stepFrom 69 = .ok (.istore 6, 2) := by decide +kernel
theorem dX0_stepFrom_71 : decode cX0_stepFrom 71 = .ok (.iload 6, 2) := by decide +kernel
theorem dX0_stepFrom_73 : decode cX0_stepFrom 73 = .ok (.ifCond .eq 14, 3) := by decide +kernel
theorem dX0_stepFrom_76 : decode cX0_stepFrom 76 = .ok (.iload 4, 2) := by decide +kernel
theorem dX0_stepFrom_78 : decode cX0_stepFrom 78 = .ok (.bipush 9, 2) := by decide +kernel
theorem dX0_stepFrom_80 : decode cX0_stepFrom 80 = .ok (.imul, 1) := by decide +kernel
theorem dX0_stepFrom_81 : decode cX0_stepFrom 81 = .ok (.iload 5, 2) := by decide +kernel
theorem dX0_stepFrom_83 : decode cX0_stepFrom 83 = .ok (.iadd, 1) := by decide +kernel
theorem dX0_stepFrom_84 : decode cX0_stepFrom 84 = .ok (.goto 4, 3) := by decide +kernel
theorem dX0_stepFrom_87 : decode cX0_stepFrom 87 = .ok (.iconst (-1), 1) := by decide +kernel
theorem dX0_stepFrom_88 : decode cX0_stepFrom 88 = .ok (.ireturn, 1) := by decide +kernel
theorem dX0_stepsBetween_0 : decode cX0_stepsBetween 0 = .ok (.iload_n 1, 1) := by decide +kernel
theorem dX0_stepsBetween_1 : decode cX0_stepsBetween 1 = .ok (.bipush 9, 2) := by decide +kernel
theorem dX0_stepsBetween_3 : decode cX0_stepsBetween 3 = .ok (.idiv, 1) := by decide +kernel
theorem dX0_stepsBetween_4 : decode cX0_stepsBetween 4 = .ok (.iload_n 0, 1) := by decide +kernel
theorem dX0_stepsBetween_5 : decode cX0_stepsBetween 5 = .ok (.bipush 9, 2) := by decide +kernel
theorem dX0_stepsBetween_7 : decode cX0_stepsBetween 7 = .ok (.idiv, 1) := by decide +kernel
theorem dX0_stepsBetween_8 : decode cX0_stepsBetween 8 = .ok (.isub, 1) := by decide +kernel
theorem dX0_stepsBetween_9 : decode cX0_stepsBetween 9 = .ok (.istore_n 2, 1) := by decide +kernel
theorem dX0_stepsBetween_10 : decode cX0_stepsBetween 10 = .ok (.iload_n 1, 1) := by decide +kernel
theorem dX0_stepsBetween_11 : decode cX0_stepsBetween 11 = .ok (.invokestatic 26, 3) := by decide +kernel
theorem dX0_stepsBetween_14 : decode cX0_stepsBetween 14 = .ok (.iload_n 0, 1) := by decide +kernel
theorem dX0_stepsBetween_15 : decode cX0_stepsBetween 15 = .ok (.invokestatic 26, 3) := by decide +kernel
theorem dX0_stepsBetween_18 : decode cX0_stepsBetween 18 = .ok (.isub, 1) := by decide +kernel
theorem dX0_stepsBetween_19 : decode cX0_stepsBetween 19 = .ok (.istore_n 3, 1) := by decide +kernel
theorem dX0_stepsBetween_20 : decode cX0_stepsBetween 20 = .ok (.iload_n 2, 1) := by decide +kernel
theorem dX0_stepsBetween_21 : decode cX0_stepsBetween 21 = .ok (.invokestatic 30, 3) := by decide +kernel
theorem dX0_stepsBetween_24 : decode cX0_stepsBetween 24 = .ok (.iload_n 3, 1) := by decide +kernel
theorem dX0_stepsBetween_25 : decode cX0_stepsBetween 25 = .ok (.invokestatic 30, 3) := by decide +kernel
theorem dX0_stepsBetween_28 : decode cX0_stepsBetween 28 = .ok (.iload_n 2, 1) := by decide +kernel
theorem dX0_stepsBetween_29 : decode cX0_stepsBetween 29 = .ok (.iload_n 3, 1) := by decide +kernel
theorem dX0_stepsBetween_30 : decode cX0_stepsBetween 30 = .ok (.iadd, 1) := by decide +kernel
theorem dX0_stepsBetween_31 : decode cX0_stepsBetween 31 = .ok (.invokestatic 30, 3) := by decide +kernel
theorem dX0_stepsBetween_34 : decode cX0_stepsBetween 34 = .ok (.invokestatic 35, 3) := by decide +kernel
theorem dX0_stepsBetween_37 : decode cX0_stepsBetween 37 = .ok (.invokestatic 35, 3) := by decide +kernel
theorem dX0_stepsBetween_40 : decode cX0_stepsBetween 40 = .ok (.ireturn, 1) := by decide +kernel
theorem dX0_slantOf_0 : decode cX0_slantOf 0 = .ok (.iload_n 0, 1) := by decide +kernel
theorem dX0_slantOf_1 : decode cX0_slantOf 1 = .ok (.bipush 9, 2) := by decide +kernel
theorem dX0_slantOf_3 : decode cX0_slantOf 3 = .ok (.irem, 1) := by decide +kernel
theorem dX0_slantOf_4 : decode cX0_slantOf 4 = .ok (.iload_n 0, 1) := by decide +kernel
theorem dX0_slantOf_5 : decode cX0_slantOf 5 = .ok (.bipush 9, 2) := by decide +kernel
theorem dX0_slantOf_7 : decode cX0_slantOf 7 = .ok (.idiv, 1) := by decide +kernel
theorem dX0_slantOf_8 : decode cX0_slantOf 8 = .ok (.iconst 2, 1) := by decide +kernel
theorem dX0_slantOf_9 : decode cX0_slantOf 9 = .ok (.idiv, 1) := by decide +kernel
theorem dX0_slantOf_10 : decode cX0_slantOf 10 = .ok (.isub, 1) := by decide +kernel
theorem dX0_slantOf_11 : decode cX0_slantOf 11 = .ok (.ireturn, 1) := by decide +kernel
theorem dX0_neighbourCount_0 : decode cX0_neighbourCount 0 = .ok (.iconst 0, 1) := by decide +kernel
theorem dX0_neighbourCount_1 : decode cX0_neighbourCount 1 = .ok (.istore_n 2, 1) := by decide +kernel
theorem dX0_neighbourCount_2 : decode cX0_neighbourCount 2 = .ok (.iconst 0, 1) := by decide +kernel
theorem dX0_neighbourCount_3 : decode cX0_neighbourCount 3 = .ok (.istore_n 3, 1) := by decide +kernel
theorem dX0_neighbourCount_4 : decode cX0_neighbourCount 4 = .ok (.iload_n 3, 1) := by decide +kernel
theorem dX0_neighbourCount_5 : decode cX0_neighbourCount 5 = .ok (.bipush 6, 2) := by decide +kernel
theorem dX0_neighbourCount_7 : decode cX0_neighbourCount 7 = .ok (.if_icmp .ge 34, 3) := by decide +kernel
theorem dX0_neighbourCount_10 : decode cX0_neighbourCount 10 = .ok (.iload_n 2, 1) := by decide +kernel
theorem dX0_neighbourCount_11 : decode cX0_neighbourCount 11 = .ok (.aload_n 0, 1) := by decide +kernel
theorem dX0_neighbourCount_12 : decode cX0_neighbourCount 12 = .ok (.getfield 9, 3) := by decide +kernel
theorem dX0_neighbourCount_15 : decode cX0_neighbourCount 15 = .ok (.iload_n 1, 1) := by decide +kernel
theorem dX0_neighbourCount_16 : decode cX0_neighbourCount 16 = .ok (.bipush 6, 2) := by decide +kernel
theorem dX0_neighbourCount_18 : decode cX0_neighbourCount 18 = .ok (.imul, 1) := by decide +kernel
theorem dX0_neighbourCount_19 : decode cX0_neighbourCount 19 = .ok (.iload_n 3, 1) := by decide +kernel
theorem dX0_neighbourCount_20 : decode cX0_neighbourCount 20 = .ok (.iadd, 1) := by decide +kernel
theorem dX0_neighbourCount_21 : decode cX0_neighbourCount 21 = .ok (.iaload, 1) := by decide +kernel
theorem dX0_neighbourCount_22 : decode cX0_neighbourCount 22 = .ok (.invokestatic 38, 3) := by decide +kernel
theorem dX0_neighbourCount_25 : decode cX0_neighbourCount 25 = .ok (.ifCond .eq 7, 3) := by decide +kernel
theorem dX0_neighbourCount_28 : decode cX0_neighbourCount 28 = .ok (.iconst 1, 1) := by decide +kernel
theorem dX0_neighbourCount_29 : decode cX0_neighbourCount 29 = .ok (.goto 4, 3) := by decide +kernel
theorem dX0_neighbourCount_32 : decode cX0_neighbourCount 32 = .ok (.iconst 0, 1) := by decide +kernel
theorem dX0_neighbourCount_33 : decode cX0_neighbourCount 33 = .ok (.iadd, 1) := by decide +kernel
theorem dX0_neighbourCount_34 : decode cX0_neighbourCount 34 = .ok (.istore_n 2, 1) := by decide +kernel
theorem dX0_neighbourCount_35 : decode cX0_neighbourCount 35 = .ok (.iinc 3 1, 3) := by decide +kernel
theorem dX0_neighbourCount_38 : decode cX0_neighbourCount 38 = .ok (.goto (-34), 3) := by decide +kernel
theorem dX0_neighbourCount_41 : decode cX0_neighbourCount 41 = .ok (.iload_n 2, 1) := by decide +kernel
theorem dX0_neighbourCount_42 : decode cX0_neighbourCount 42 = .ok (.ireturn, 1) := by decide +kernel
theorem dX0_directionTo_0 : decode cX0_directionTo 0 = .ok (.iconst 0, 1) := by decide +kernel
theorem dX0_directionTo_1 : decode cX0_directionTo 1 = .ok (.istore_n 3, 1) := by decide +kernel
theorem dX0_directionTo_2 : decode cX0_directionTo 2 = .ok (.iload_n 3, 1) := by decide +kernel
theorem dX0_directionTo_3 : decode cX0_directionTo 3 = .ok (.bipush 6, 2) := by decide +kernel
theorem dX0_directionTo_5 : decode cX0_directionTo 5 = .ok (.if_icmp .ge 26, 3) := by decide +kernel
theorem dX0_directionTo_8 : decode cX0_directionTo 8 = .ok (.aload_n 0, 1) := by decide +kernel
theorem dX0_directionTo_9 : decode cX0_directionTo 9 = .ok (.getfield 9, 3) := by decide +kernel
theorem dX0_directionTo_12 : decode cX0_directionTo 12 = .ok (.iload_n 1, 1) := by decide +kernel
theorem dX0_directionTo_13 : decode cX0_directionTo 13 = .ok (.bipush 6, 2) := by decide +kernel
theorem dX0_directionTo_15 : decode cX0_directionTo 15 = .ok (.imul, 1) := by decide +kernel
theorem dX0_directionTo_16 : decode cX0_directionTo 16 = .ok (.iload_n 3, 1) := by decide +kernel
theorem dX0_directionTo_17 : decode cX0_directionTo 17 = .ok (.iadd, 1) := by decide +kernel
theorem dX0_directionTo_18 : decode cX0_directionTo 18 = .ok (.iaload, 1) := by decide +kernel
theorem dX0_directionTo_19 : decode cX0_directionTo 19 = .ok (.iload_n 2, 1) := by decide +kernel
theorem dX0_directionTo_20 : decode cX0_directionTo 20 = .ok (.if_icmp .ne 5, 3) := by decide +kernel
theorem dX0_directionTo_23 : decode cX0_directionTo 23 = .ok (.iload_n 3, 1) := by decide +kernel
theorem dX0_directionTo_24 : decode cX0_directionTo 24 = .ok (.ireturn, 1) := by decide +kernel
theorem dX0_directionTo_25 : decode cX0_directionTo 25 = .ok (.iinc 3 1, 3) := by decide +kernel
theorem dX0_directionTo_28 : decode cX0_directionTo 28 = .ok (.goto (-26), 3) := by decide +kernel
theorem dX0_directionTo_31 : decode cX0_directionTo 31 = .ok (.iconst (-1), 1) := by decide +kernel
theorem dX0_directionTo_32 : decode cX0_directionTo 32 = .ok (.ireturn, 1) := by decide +kernel
theorem dX1_init_0 : decode cX1_init 0 = .ok (.aload_n 0, 1) := by decide +kernel
theorem dX1_init_1 : decode cX1_init 1 = .ok (.invokespecial 1, 3) := by decide +kernel
theorem dX1_init_4 : decode cX1_init 4 = .ok (.aload_n 0, 1) := by decide +kernel
theorem dX1_init_5 : decode cX1_init 5 = .ok (.aload_n 1, 1) := by decide +kernel
theorem dX1_init_6 : decode cX1_init 6 = .ok (.putfield 7, 3) := by decide +kernel
theorem dX1_init_9 : decode cX1_init 9 = .ok (.aload_n 0, 1) := by decide +kernel
theorem dX1_init_10 : decode cX1_init 10 = .ok (.aload_n 2, 1) := by decide +kernel
theorem dX1_init_11 : decode cX1_init 11 = .ok (.putfield 13, 3) := by decide +kernel
theorem dX1_init_14 : decode cX1_init 14 = .ok (.return_, 1) := by decide +kernel
theorem dX1_weigh_0 : decode cX1_weigh 0 = .ok (.aload_n 0, 1) := by decide +kernel
theorem dX1_weigh_1 : decode cX1_weigh 1 = .ok (.getfield 13, 3) := by decide +kernel
theorem dX1_weigh_4 : decode cX1_weigh 4 = .ok (.aload_n 1, 1) := by decide +kernel
theorem dX1_weigh_5 : decode cX1_weigh 5 = .ok (.aload_n 1, 1) := by decide +kernel
theorem dX1_weigh_6 : decode cX1_weigh 6 = .ok (.getfield 17, 3) := by decide +kernel
theorem dX1_weigh_9 : decode cX1_weigh 9 = .ok (.iload_n 2, 1) := by decide +kernel
theorem dX1_weigh_10 : decode cX1_weigh 10 = .ok (.iaload, 1) := by decide +kernel
theorem dX1_weigh_11 : decode cX1_weigh 11 = .ok (.invokevirtual 23, 3) := by decide +kernel
theorem dX1_weigh_14 : decode cX1_weigh 14 = .ok (.aload_n 0, 1) := by decide +kernel
theorem dX1_weigh_15 : decode cX1_weigh 15 = .ok (.aload_n 0, 1) := by decide +kernel
theorem dX1_weigh_16 : decode cX1_weigh 16 = .ok (.aload_n 1, 1) := by decide +kernel
theorem dX1_weigh_17 : decode cX1_weigh 17 = .ok (.iload_n 2, 1) := by decide +kernel
theorem dX1_weigh_18 : decode cX1_weigh 18 = .ok (.aload_n 1, 1) := by decide +kernel
theorem dX1_weigh_19 : decode cX1_weigh 19 = .ok (.getfield 29, 3) := by decide +kernel
theorem dX1_weigh_22 : decode cX1_weigh 22 = .ok (.iload_n 3, 1) := by decide +kernel
theorem dX1_weigh_23 : decode cX1_weigh 23 = .ok (.iaload, 1) := by decide +kernel
theorem dX1_weigh_24 : decode cX1_weigh 24 = .ok (.invokevirtual 32, 3) := by decide +kernel
theorem dX1_weigh_27 : decode cX1_weigh 27 = .ok (.putfield 36, 3) := by decide +kernel
theorem dX1_weigh_30 : decode cX1_weigh 30 = .ok (.aload_n 0, 1) := by decide +kernel
theorem dX1_weigh_31 : decode cX1_weigh 31 = .ok (.getfield 13, 3) := by decide +kernel
theorem dX1_weigh_34 : decode cX1_weigh 34 = .ok (.aload_n 1, 1) := by decide +kernel
theorem dX1_weigh_35 : decode cX1_weigh 35 = .ok (.aload_n 1, 1) := by decide +kernel
theorem dX1_weigh_36 : decode cX1_weigh 36 = .ok (.getfield 17, 3) := by decide +kernel
theorem dX1_weigh_39 : decode cX1_weigh 39 = .ok (.iload_n 3, 1) := by decide +kernel
theorem dX1_weigh_40 : decode cX1_weigh 40 = .ok (.iaload, 1) := by decide +kernel
theorem dX1_weigh_41 : decode cX1_weigh 41 = .ok (.invokevirtual 23, 3) := by decide +kernel
theorem dX1_weigh_44 : decode cX1_weigh 44 = .ok (.aload_n 0, 1) := by decide +kernel
theorem dX1_weigh_45 : decode cX1_weigh 45 = .ok (.aload_n 0, 1) := by decide +kernel
theorem dX1_weigh_46 : decode cX1_weigh 46 = .ok (.aload_n 1, 1) := by decide +kernel
theorem dX1_weigh_47 : decode cX1_weigh 47 = .ok (.iload_n 3, 1) := by decide +kernel
theorem dX1_weigh_48 : decode cX1_weigh 48 = .ok (.invokevirtual 40, 3) := by decide +kernel
theorem dX1_weigh_51 : decode cX1_weigh 51 = .ok (.putfield 44, 3) := by decide +kernel
theorem dX1_weigh_54 : decode cX1_weigh 54 = .ok (.aload_n 0, 1) := by decide +kernel
theorem dX1_weigh_55 : decode cX1_weigh 55 = .ok (.aload_n 1, 1) := by decide +kernel
theorem dX1_weigh_56 : decode cX1_weigh 56 = .ok (.getfield 47, 3) := by decide +kernel
theorem dX1_weigh_59 : decode cX1_weigh 59 = .ok (.iload_n 2, 1) := by decide +kernel
theorem dX1_weigh_60 : decode cX1_weigh 60 = .ok (.iaload, 1) := by decide +kernel
theorem dX1_weigh_61 : decode cX1_weigh 61 = .ok (.putfield 50, 3) := by decide +kernel
theorem dX1_weigh_64 : decode cX1_weigh 64 = .ok (.aload_n 0, 1) := by decide +kernel
theorem dX1_weigh_65 : decode cX1_weigh 65 = .ok (.aload_n 1, 1) := by decide +kernel
theorem dX1_weigh_66 : decode cX1_weigh 66 = .ok (.getfield 47, 3) := by decide +kernel
theorem dX1_weigh_69 : decode cX1_weigh 69 = .ok (.iload_n 3, 1) := by decide +kernel
theorem dX1_weigh_70 : decode cX1_weigh 70 = .ok (.iaload, 1) := by decide +kernel
theorem dX1_weigh_71 : decode cX1_weigh 71 = .ok (.putfield 53, 3) := by decide +kernel
theorem dX1_weigh_74 : decode cX1_weigh 74 = .ok (.iconst 1, 1) := by decide +kernel
theorem dX1_weigh_75 : decode cX1_weigh 75 = .ok (.aload_n 0, 1) := by decide +kernel
theorem dX1_weigh_76 : decode cX1_weigh 76 = .ok (.getfield 36, 3) := by decide +kernel
theorem dX1_weigh_79 : decode cX1_weigh 79 = .ok (.aload_n 0, 1) := by decide +kernel
theorem dX1_weigh_80 : decode cX1_weigh 80 = .ok (.getfield 44, 3) := by decide +kernel
theorem dX1_weigh_83 : decode cX1_weigh 83 = .ok (.isub, 1) := by decide +kernel
theorem dX1_weigh_84 : decode cX1_weigh 84 = .ok (.invokestatic 56, 3) := by decide +kernel
theorem dX1_weigh_87 : decode cX1_weigh 87 = .ok (.iconst 4, 1) := by decide +kernel
theorem dX1_weigh_88 : decode cX1_weigh 88 = .ok (.idiv, 1) := by decide +kernel
theorem dX1_weigh_89 : decode cX1_weigh 89 = .ok (.iadd, 1) := by decide +kernel
theorem dX1_weigh_90 : decode cX1_weigh 90 = .ok (.istore 4, 2) := by decide +kernel
theorem dX1_weigh_92 : decode cX1_weigh 92 = .ok (.aload_n 0, 1) := by decide +kernel
theorem dX1_weigh_93 : decode cX1_weigh 93 = .ok (.getfield 36, 3) := by decide +kernel
theorem dX1_weigh_96 : decode cX1_weigh 96 = .ok (.aload_n 0, 1) := by decide +kernel
theorem dX1_weigh_97 : decode cX1_weigh 97 = .ok (.getfield 44, 3) := by decide +kernel
theorem dX1_weigh_100 : decode cX1_weigh 100 = .ok (.if_icmp .le 21, 3) := by decide +kernel
theorem dX1_weigh_103 : decode cX1_weigh 103 = .ok (.aload_n 0, 1) := by decide +kernel
theorem dX1_weigh_104 : decode cX1_weigh 104 = .ok (.aload_n 0, 1) := by decide +kernel
theorem dX1_weigh_105 : decode cX1_weigh 105 = .ok (.getfield 53, 3) := by decide +kernel
theorem dX1_weigh_108 : decode cX1_weigh 108 = .ok (.iload 4, 2) := by decide +kernel
theorem dX1_weigh_110 : decode cX1_weigh 110 = .ok (.isub, 1) := by decide +kernel
theorem dX1_weigh_111 : decode cX1_weigh 111 = .ok (.iconst 0, 1) := by decide +kernel
theorem dX1_weigh_112 : decode cX1_weigh 112 = .ok (.invokestatic 62, 3) := by decide +kernel
theorem dX1_weigh_115 : decode cX1_weigh 115 = .ok (.putfield 53, 3) := by decide +kernel
theorem dX1_weigh_118 : decode cX1_weigh 118 = .ok (.goto 18, 3) := by decide +kernel
theorem dX1_weigh_121 : decode cX1_weigh 121 = .ok (.aload_n 0, 1) := by decide +kernel
theorem dX1_weigh_122 : decode cX1_weigh 122 = .ok (.aload_n 0, 1) := by decide +kernel
theorem dX1_weigh_123 : decode cX1_weigh 123 = .ok (.getfield 50, 3) := by decide +kernel
theorem dX1_weigh_126 : decode cX1_weigh 126 = .ok (.iload 4, 2) := by decide +kernel
theorem dX1_weigh_128 : decode cX1_weigh 128 = .ok (.isub, 1) := by decide +kernel
theorem dX1_weigh_129 : decode cX1_weigh 129 = .ok (.iconst 0, 1) := by decide +kernel
theorem dX1_weigh_130 : decode cX1_weigh 130 = .ok (.invokestatic 62, 3) := by decide +kernel
theorem dX1_weigh_133 : decode cX1_weigh 133 = .ok (.putfield 50, 3) := by decide +kernel
theorem dX1_weigh_136 : decode cX1_weigh 136 = .ok (.return_, 1) := by decide +kernel
theorem dX1_powerOfAttack_0 : decode cX1_powerOfAttack 0 = .ok (.aload_n 1, 1) := by decide +kernel
theorem dX1_powerOfAttack_1 : decode cX1_powerOfAttack 1 = .ok (.getfield 29, 3) := by decide +kernel
theorem dX1_powerOfAttack_4 : decode cX1_powerOfAttack 4 = .ok (.iload_n 2, 1) := by decide +kernel
theorem dX1_powerOfAttack_5 : decode cX1_powerOfAttack 5 = .ok (.iaload, 1) := by decide +kernel
theorem dX1_powerOfAttack_6 : decode cX1_powerOfAttack 6 = .ok (.istore 4, 2) := by decide +kernel
theorem dX1_powerOfAttack_8 : decode cX1_powerOfAttack 8 = .ok (.iconst 2, 1) := by decide +kernel
theorem dX1_powerOfAttack_9 : decode cX1_powerOfAttack 9 = .ok (.aload_n 1, 1) := by decide +kernel
theorem dX1_powerOfAttack_10 : decode cX1_powerOfAttack 10 = .ok (.getfield 47, 3) := by decide +kernel
theorem dX1_powerOfAttack_13 : decode cX1_powerOfAttack 13 = .ok (.iload_n 2, 1) := by decide +kernel
theorem dX1_powerOfAttack_14 : decode cX1_powerOfAttack 14 = .ok (.iaload, 1) := by decide +kernel
theorem dX1_powerOfAttack_15 : decode cX1_powerOfAttack 15 = .ok (.imul, 1) := by decide +kernel
theorem dX1_powerOfAttack_16 : decode cX1_powerOfAttack 16 = .ok (.istore 5, 2) := by decide +kernel
theorem dX1_powerOfAttack_18 : decode cX1_powerOfAttack 18 = .ok (.aload_n 0, 1) := by decide +kernel
theorem dX1_powerOfAttack_19 : decode cX1_powerOfAttack 19 = .ok (.getfield 13, 3) := by decide +kernel
theorem dX1_powerOfAttack_22 : decode cX1_powerOfAttack 22 = .ok (.iload 4, 2) := by decide +kernel
theorem dX1_powerOfAttack_24 : decode cX1_powerOfAttack 24 = .ok (.invokevirtual 66, 3) := by decide +kernel
theorem dX1_powerOfAttack_27 : decode cX1_powerOfAttack 27 = .ok (.ifCond .ne 9, 3) := by decide +kernel
theorem dX1_powerOfAttack_30 : decode cX1_powerOfAttack 30 = .ok (.iload 5, 2) := by decide +kernel
theorem dX1_powerOfAttack_32 : decode cX1_powerOfAttack 32 = .ok (.iconst 2, 1) := by decide +kernel
theorem dX1_powerOfAttack_33 : decode cX1_powerOfAttack 33 = .ok (.idiv, 1) := by decide +kernel
theorem dX1_powerOfAttack_34 : decode cX1_powerOfAttack 34 = .ok (.istore 5, 2) := by decide +kernel
theorem dX1_powerOfAttack_36 : decode cX1_powerOfAttack 36 = .ok (.aload_n 0, 1) := by decide +kernel
theorem dX1_powerOfAttack_37 : decode cX1_powerOfAttack 37 = .ok (.getfield 7, 3) := by decide +kernel
theorem dX1_powerOfAttack_40 : decode cX1_powerOfAttack 40 = .ok (.iload 4, 2) := by decide +kernel
theorem dX1_powerOfAttack_42 : decode cX1_powerOfAttack 42 = .ok (.iload_n 3, 1) := by decide +kernel
theorem dX1_powerOfAttack_43 : decode cX1_powerOfAttack 43 = .ok (.invokevirtual 70, 3) := by decide +kernel
theorem dX1_powerOfAttack_46 : decode cX1_powerOfAttack 46 = .ok (.istore 6, 2) := by decide +kernel
theorem dX1_powerOfAttack_48 : decode cX1_powerOfAttack 48 = .ok (.iload 6, 2) := by decide +kernel
theorem dX1_powerOfAttack_50 : decode cX1_powerOfAttack 50 = .ok (.iconst (-1), 1) := by decide +kernel
theorem dX1_powerOfAttack_51 : decode cX1_powerOfAttack 51 = .ok (.if_icmp .eq 21, 3) := by decide +kernel
theorem dX1_powerOfAttack_54 : decode cX1_powerOfAttack 54 = .ok (.aload_n 1, 1) := by decide +kernel
theorem dX1_powerOfAttack_55 : decode cX1_powerOfAttack 55 = .ok (.iload 4, 2) := by decide +kernel
theorem dX1_powerOfAttack_57 : decode cX1_powerOfAttack 57 = .ok (.iload 6, 2) := by decide +kernel
theorem dX1_powerOfAttack_59 : decode cX1_powerOfAttack 59 = .ok (.invokevirtual 75, 3) := by decide +kernel
theorem dX1_powerOfAttack_62 : decode cX1_powerOfAttack 62 = .ok (.ifCond .eq 10, 3) := by decide +kernel
theorem dX1_powerOfAttack_65 : decode cX1_powerOfAttack 65 = .ok (.iload 5, 2) := by decide +kernel
theorem dX1_powerOfAttack_67 : decode cX1_powerOfAttack 67 = .ok (.iconst 2, 1) := by decide +kernel
theorem dX1_powerOfAttack_68 : decode cX1_powerOfAttack 68 = .ok (.idiv, 1) := by decide +kernel
theorem dX1_powerOfAttack_69 : decode cX1_powerOfAttack 69 = .ok (.goto 5, 3) := by decide +kernel
theorem dX1_powerOfAttack_72 : decode cX1_powerOfAttack 72 = .ok (.iload 5, 2) := by decide +kernel
theorem dX1_powerOfAttack_74 : decode cX1_powerOfAttack 74 = .ok (.ireturn, 1) := by decide +kernel
theorem dX1_powerOfDefence_0 : decode cX1_powerOfDefence 0 = .ok (.aload_n 1, 1) := by decide +kernel
theorem dX1_powerOfDefence_1 : decode cX1_powerOfDefence 1 = .ok (.getfield 29, 3) := by decide +kernel
theorem dX1_powerOfDefence_4 : decode cX1_powerOfDefence 4 = .ok (.iload_n 2, 1) := by decide +kernel
theorem dX1_powerOfDefence_5 : decode cX1_powerOfDefence 5 = .ok (.iaload, 1) := by decide +kernel
theorem dX1_powerOfDefence_6 : decode cX1_powerOfDefence 6 = .ok (.istore_n 3, 1) := by decide +kernel
theorem dX1_powerOfDefence_7 : decode cX1_powerOfDefence 7 = .ok (.iconst 2, 1) := by decide +kernel
theorem dX1_powerOfDefence_8 : decode cX1_powerOfDefence 8 = .ok (.aload_n 1, 1) := by decide +kernel
theorem dX1_powerOfDefence_9 : decode cX1_powerOfDefence 9 = .ok (.getfield 47, 3) := by decide +kernel
theorem dX1_powerOfDefence_12 : decode cX1_powerOfDefence 12 = .ok (.iload_n 2, 1) := by decide +kernel
theorem dX1_powerOfDefence_13 : decode cX1_powerOfDefence 13 = .ok (.iaload, 1) := by decide +kernel
theorem dX1_powerOfDefence_14 : decode cX1_powerOfDefence 14 = .ok (.imul, 1) := by decide +kernel
theorem dX1_powerOfDefence_15 : decode cX1_powerOfDefence 15 = .ok (.istore 4, 2) := by decide +kernel
theorem dX1_powerOfDefence_17 : decode cX1_powerOfDefence 17 = .ok (.aload_n 1, 1) := by decide +kernel
theorem dX1_powerOfDefence_18 : decode cX1_powerOfDefence 18 = .ok (.iload_n 3, 1) := by decide +kernel
theorem dX1_powerOfDefence_19 : decode cX1_powerOfDefence 19 = .ok (.invokevirtual 79, 3) := by decide +kernel
theorem dX1_powerOfDefence_22 : decode cX1_powerOfDefence 22 = .ok (.ifCond .eq 9, 3) := by decide +kernel
theorem dX1_powerOfDefence_25 : decode cX1_powerOfDefence 25 = .ok (.iload 4, 2) := by decide +kernel
theorem dX1_powerOfDefence_27 : decode cX1_powerOfDefence 27 = .ok (.iconst 2, 1) := by decide +kernel
theorem dX1_powerOfDefence_28 : decode cX1_powerOfDefence 28 = .ok (.imul, 1) := by decide +kernel
theorem dX1_powerOfDefence_29 : decode cX1_powerOfDefence 29 = .ok (.istore 4, 2) := by decide +kernel
theorem dX1_powerOfDefence_31 : decode cX1_powerOfDefence 31 = .ok (.aload_n 1, 1) := by decide +kernel
theorem dX1_powerOfDefence_32 : decode cX1_powerOfDefence 32 = .ok (.getfield 82, 3) := by decide +kernel
theorem dX1_powerOfDefence_35 : decode cX1_powerOfDefence 35 = .ok (.iload_n 3, 1) := by decide +kernel
theorem dX1_powerOfDefence_36 : decode cX1_powerOfDefence 36 = .ok (.iaload, 1) := by decide +kernel
theorem dX1_powerOfDefence_37 : decode cX1_powerOfDefence 37 = .ok (.ifCond .eq 6, 3) := by decide +kernel
theorem dX1_powerOfDefence_40 : decode cX1_powerOfDefence 40 = .ok (.iinc 4 2, 3) := by decide +kernel
theorem dX1_powerOfDefence_43 : decode cX1_powerOfDefence 43 = .ok (.aload_n 0, 1) := by decide +kernel
theorem dX1_powerOfDefence_44 : decode cX1_powerOfDefence 44 = .ok (.getfield 13, 3) := by decide +kernel
theorem dX1_powerOfDefence_47 : decode cX1_powerOfDefence 47 = .ok (.iload_n 3, 1) := by decide +kernel
theorem dX1_powerOfDefence_48 : decode cX1_powerOfDefence 48 = .ok (.invokevirtual 66, 3) := by decide +kernel
theorem dX1_powerOfDefence_51 : decode cX1_powerOfDefence 51 = .ok (.ifCond .eq 8, 3) := by decide +kernel
theorem dX1_powerOfDefence_54 : decode cX1_powerOfDefence 54 = .ok (.iload 4, 2) := by decide +kernel
theorem dX1_powerOfDefence_56 : decode cX1_powerOfDefence 56 = .ok (.goto 7, 3) := by decide +kernel
theorem dX1_powerOfDefence_59 : decode cX1_powerOfDefence 59 = .ok (.iload 4, 2) := by decide +kernel
theorem dX1_powerOfDefence_61 : decode cX1_powerOfDefence 61 = .ok (.iconst 2, 1) := by decide +kernel
theorem dX1_powerOfDefence_62 : decode cX1_powerOfDefence 62 = .ok (.idiv, 1) := by decide +kernel
theorem dX1_powerOfDefence_63 : decode cX1_powerOfDefence 63 = .ok (.ireturn, 1) := by decide +kernel
theorem dX2_init_0 : decode cX2_init 0 = .ok (.aload_n 0, 1) := by decide +kernel
theorem dX2_init_1 : decode cX2_init 1 = .ok (.invokespecial 1, 3) := by decide +kernel
theorem dX2_init_4 : decode cX2_init 4 = .ok (.aload_n 0, 1) := by decide +kernel
theorem dX2_init_5 : decode cX2_init 5 = .ok (.iconst 4, 1) := by decide +kernel
theorem dX2_init_6 : decode cX2_init 6 = .ok (.anewarray 9, 3) := by decide +kernel
theorem dX2_init_9 : decode cX2_init 9 = .ok (.putfield 11, 3) := by decide +kernel
theorem dX2_init_12 : decode cX2_init 12 = .ok (.iconst 0, 1) := by decide +kernel
theorem dX2_init_13 : decode cX2_init 13 = .ok (.istore_n 2, 1) := by decide +kernel
theorem dX2_init_14 : decode cX2_init 14 = .ok (.iload_n 2, 1) := by decide +kernel
theorem dX2_init_15 : decode cX2_init 15 = .ok (.iconst 4, 1) := by decide +kernel
theorem dX2_init_16 : decode cX2_init 16 = .ok (.if_icmp .ge 23, 3) := by decide +kernel
theorem dX2_init_19 : decode cX2_init 19 = .ok (.aload_n 0, 1) := by decide +kernel
theorem dX2_init_20 : decode cX2_init 20 = .ok (.getfield 11, 3) := by decide +kernel
theorem dX2_init_23 : decode cX2_init 23 = .ok (.iload_n 2, 1) := by decide +kernel
theorem dX2_init_24 : decode cX2_init 24 = .ok (.new 9, 3) := by decide +kernel
theorem dX2_init_27 : decode cX2_init 27 = .ok (.dup, 1) := by decide +kernel
theorem dX2_init_28 : decode cX2_init 28 = .ok (.aload_n 1, 1) := by decide +kernel
theorem dX2_init_29 : decode cX2_init 29 = .ok (.invokespecial 15, 3) := by decide +kernel
theorem dX2_init_32 : decode cX2_init 32 = .ok (.aastore, 1) := by decide +kernel
theorem dX2_init_33 : decode cX2_init 33 = .ok (.iinc 2 1, 3) := by decide +kernel
theorem dX2_init_36 : decode cX2_init 36 = .ok (.goto (-22), 3) := by decide +kernel
theorem dX2_init_39 : decode cX2_init 39 = .ok (.return_, 1) := by decide +kernel
theorem dX2_record_0 : decode cX2_record 0 = .ok (.aload_n 0, 1) := by decide +kernel
theorem dX2_record_1 : decode cX2_record 1 = .ok (.getfield 11, 3) := by decide +kernel
theorem dX2_record_4 : decode cX2_record 4 = .ok (.aload_n 0, 1) := by decide +kernel
theorem dX2_record_5 : decode cX2_record 5 = .ok (.getfield 18, 3) := by decide +kernel
theorem dX2_record_8 : decode cX2_record 8 = .ok (.aaload, 1) := by decide +kernel
theorem dX2_record_9 : decode cX2_record 9 = .ok (.aload_n 1, 1) := by decide +kernel
theorem dX2_record_10 : decode cX2_record 10 = .ok (.invokevirtual 22, 3) := by decide +kernel
theorem dX2_record_13 : decode cX2_record 13 = .ok (.aload_n 0, 1) := by decide +kernel
theorem dX2_record_14 : decode cX2_record 14 = .ok (.aload_n 0, 1) := by decide +kernel
theorem dX2_record_15 : decode cX2_record 15 = .ok (.getfield 18, 3) := by decide +kernel
theorem dX2_record_18 : decode cX2_record 18 = .ok (.iconst 1, 1) := by decide +kernel
theorem dX2_record_19 : decode cX2_record 19 = .ok (.iadd, 1) := by decide +kernel
theorem dX2_record_20 : decode cX2_record 20 = .ok (.iconst 4, 1) := by decide +kernel
theorem dX2_record_21 : decode cX2_record 21 = .ok (.irem, 1) := by decide +kernel
theorem dX2_record_22 : decode cX2_record 22 = .ok (.putfield 18, 3) := by decide +kernel
theorem dX2_record_25 : decode cX2_record 25 = .ok (.aload_n 0, 1) := by decide +kernel
theorem dX2_record_26 : decode cX2_record 26 = .ok (.aload_n 0, 1) := by decide +kernel
theorem dX2_record_27 : decode cX2_record 27 = .ok (.getfield 26, 3) := by decide +kernel
theorem dX2_record_30 : decode cX2_record 30 = .ok (.iconst 1, 1) := by decide +kernel
theorem dX2_record_31 : decode cX2_record 31 = .ok (.iadd, 1) := by decide +kernel
theorem dX2_record_32 : decode cX2_record 32 = .ok (.iconst 4, 1) := by decide +kernel
theorem dX2_record_33 : decode cX2_record 33 = .ok (.invokestatic 29, 3) := by decide +kernel
theorem dX2_record_36 : decode cX2_record 36 = .ok (.putfield 26, 3) := by decide +kernel
theorem dX2_record_39 : decode cX2_record 39 = .ok (.return_, 1) := by decide +kernel
theorem dX2_takeBack_0 : decode cX2_takeBack 0 = .ok (.aload_n 0, 1) := by decide +kernel
theorem dX2_takeBack_1 : decode cX2_takeBack 1 = .ok (.getfield 26, 3) := by decide +kernel
theorem dX2_takeBack_4 : decode cX2_takeBack 4 = .ok (.ifCond .ne 5, 3) := by decide +kernel
theorem dX2_takeBack_7 : decode cX2_takeBack 7 = .ok (.iconst 0, 1) := by decide +kernel
theorem dX2_takeBack_8 : decode cX2_takeBack 8 = .ok (.ireturn, 1) := by decide +kernel
theorem dX2_takeBack_9 : decode cX2_takeBack 9 = .ok (.aload_n 0, 1) := by decide +kernel
theorem dX2_takeBack_10 : decode cX2_takeBack 10 = .ok (.aload_n 0, 1) := by decide +kernel
theorem dX2_takeBack_11 : decode cX2_takeBack 11 = .ok (.getfield 18, 3) := by decide +kernel
theorem dX2_takeBack_14 : decode cX2_takeBack 14 = .ok (.iconst 4, 1) := by decide +kernel
theorem dX2_takeBack_15 : decode cX2_takeBack 15 = .ok (.iadd, 1) := by decide +kernel
theorem dX2_takeBack_16 : decode cX2_takeBack 16 = .ok (.iconst 1, 1) := by decide +kernel
theorem dX2_takeBack_17 : decode cX2_takeBack 17 = .ok (.isub, 1) := by decide +kernel
theorem dX2_takeBack_18 : decode cX2_takeBack 18 = .ok (.iconst 4, 1) := by decide +kernel
theorem dX2_takeBack_19 : decode cX2_takeBack 19 = .ok (.irem, 1) := by decide +kernel
theorem dX2_takeBack_20 : decode cX2_takeBack 20 = .ok (.putfield 18, 3) := by decide +kernel
theorem dX2_takeBack_23 : decode cX2_takeBack 23 = .ok (.aload_n 0, 1) := by decide +kernel
theorem dX2_takeBack_24 : decode cX2_takeBack 24 = .ok (.dup, 1) := by decide +kernel
theorem dX2_takeBack_25 : decode cX2_takeBack 25 = .ok (.getfield 26, 3) := by decide +kernel
theorem dX2_takeBack_28 : decode cX2_takeBack 28 = .ok (.iconst 1, 1) := by decide +kernel
theorem dX2_takeBack_29 : decode cX2_takeBack 29 = .ok (.isub, 1) := by decide +kernel
theorem dX2_takeBack_30 : decode cX2_takeBack 30 = .ok (.putfield 26, 3) := by decide +kernel
theorem dX2_takeBack_33 : decode cX2_takeBack 33 = .ok (.aload_n 1, 1) := by decide +kernel
theorem dX2_takeBack_34 : decode cX2_takeBack 34 = .ok (.aload_n 0, 1) := by decide +kernel
theorem dX2_takeBack_35 : decode cX2_takeBack 35 = .ok (.getfield 11, 3) := by decide +kernel
theorem dX2_takeBack_38 : decode cX2_takeBack 38 = .ok (.aload_n 0, 1) := by decide +kernel
theorem dX2_takeBack_39 : decode cX2_takeBack 39 = .ok (.getfield 18, 3) := by decide +kernel
theorem dX2_takeBack_42 : decode cX2_takeBack 42 = .ok (.aaload, 1) := by decide +kernel
theorem dX2_takeBack_43 : decode cX2_takeBack 43 = .ok (.invokevirtual 22, 3) := by decide +kernel
theorem dX2_takeBack_46 : decode cX2_takeBack 46 = .ok (.iconst 1, 1) := by decide +kernel
theorem dX2_takeBack_47 : decode cX2_takeBack 47 = .ok (.ireturn, 1) := by decide +kernel
theorem dX3_init_0 : decode cX3_init 0 = .ok (.aload_n 0, 1) := by decide +kernel
theorem dX3_init_1 : decode cX3_init 1 = .ok (.invokespecial 3, 3) := by decide +kernel
theorem dX3_init_4 : decode cX3_init 4 = .ok (.aload_n 0, 1) := by decide +kernel
theorem dX3_init_5 : decode cX3_init 5 = .ok (.bipush 60, 2) := by decide +kernel
theorem dX3_init_7 : decode cX3_init 7 = .ok (.newarray .char, 2) := by decide +kernel
theorem dX3_init_9 : decode cX3_init 9 = .ok (.putfield 9, 3) := by decide +kernel
theorem dX3_init_12 : decode cX3_init 12 = .ok (.aload_n 0, 1) := by decide +kernel
theorem dX3_init_13 : decode cX3_init 13 = .ok (.bipush 30, 2) := by decide +kernel
theorem dX3_init_15 : decode cX3_init 15 = .ok (.newarray .char, 2) := by decide +kernel
theorem dX3_init_17 : decode cX3_init 17 = .ok (.putfield 13, 3) := by decide +kernel
theorem dX3_init_20 : decode cX3_init 20 = .ok (.aload_n 0, 1) := by decide +kernel
theorem dX3_init_21 : decode cX3_init 21 = .ok (.bipush 30, 2) := by decide +kernel
theorem dX3_init_23 : decode cX3_init 23 = .ok (.newarray .int, 2) := by decide +kernel
theorem dX3_init_25 : decode cX3_init 25 = .ok (.putfield 16, 3) := by decide +kernel
theorem dX3_init_28 : decode cX3_init 28 = .ok (.aload_n 0, 1) := by decide +kernel
theorem dX3_init_29 : decode cX3_init 29 = .ok (.bipush 30, 2) := by decide +kernel
theorem dX3_init_31 : decode cX3_init 31 = .ok (.newarray .int, 2) := by decide +kernel
theorem dX3_init_33 : decode cX3_init 33 = .ok (.putfield 20, 3) := by decide +kernel
theorem dX3_init_36 : decode cX3_init 36 = .ok (.return_, 1) := by decide +kernel
theorem dX3_append_0 : decode cX3_append 0 = .ok (.aload_n 0, 1) := by decide +kernel
theorem dX3_append_1 : decode cX3_append 1 = .ok (.getfield 23, 3) := by decide +kernel
theorem dX3_append_4 : decode cX3_append 4 = .ok (.bipush 60, 2) := by decide +kernel
theorem dX3_append_6 : decode cX3_append 6 = .ok (.if_icmp .lt 5, 3) := by decide +kernel
theorem dX3_append_9 : decode cX3_append 9 = .ok (.iconst 0, 1) := by decide +kernel
theorem dX3_append_10 : decode cX3_append 10 = .ok (.ireturn, 1) := by decide +kernel
theorem dX3_append_11 : decode cX3_append 11 = .ok (.aload_n 0, 1) := by decide +kernel
theorem dX3_append_12 : decode cX3_append 12 = .ok (.getfield 9, 3) := by decide +kernel
theorem dX3_append_15 : decode cX3_append 15 = .ok (.aload_n 0, 1) := by decide +kernel
theorem dX3_append_16 : decode cX3_append 16 = .ok (.getfield 23, 3) := by decide +kernel
theorem dX3_append_19 : decode cX3_append 19 = .ok (.iload_n 1, 1) := by decide +kernel
theorem dX3_append_20 : decode cX3_append 20 = .ok (.castore, 1) := by decide +kernel
theorem dX3_append_21 : decode cX3_append 21 = .ok (.aload_n 0, 1) := by decide +kernel
theorem dX3_append_22 : decode cX3_append 22 = .ok (.dup, 1) := by decide +kernel
theorem dX3_append_23 : decode cX3_append 23 = .ok (.getfield 23, 3) := by decide +kernel
theorem dX3_append_26 : decode cX3_append 26 = .ok (.iconst 1, 1) := by decide +kernel
theorem dX3_append_27 : decode cX3_append 27 = .ok (.iadd, 1) := by decide +kernel
theorem dX3_append_28 : decode cX3_append 28 = .ok (.putfield 23, 3) := by decide +kernel
theorem dX3_append_31 : decode cX3_append 31 = .ok (.iconst 1, 1) := by decide +kernel
theorem dX3_append_32 : decode cX3_append 32 = .ok (.ireturn, 1) := by decide +kernel
theorem dX3_read_0 : decode cX3_read 0 = .ok (.aload_n 0, 1) := by decide +kernel
theorem dX3_read_1 : decode cX3_read 1 = .ok (.iconst 0, 1) := by decide +kernel
theorem dX3_read_2 : decode cX3_read 2 = .ok (.putfield 27, 3) := by decide +kernel
theorem dX3_read_5 : decode cX3_read 5 = .ok (.iconst 0, 1) := by decide +kernel
theorem dX3_read_6 : decode cX3_read 6 = .ok (.istore_n 1, 1) := by decide +kernel
theorem dX3_read_7 : decode cX3_read 7 = .ok (.iconst 0, 1) := by decide +kernel
theorem dX3_read_8 : decode cX3_read 8 = .ok (.istore_n 2, 1) := by decide +kernel
theorem dX3_read_9 : decode cX3_read 9 = .ok (.iload_n 2, 1) := by decide +kernel
theorem dX3_read_10 : decode cX3_read 10 = .ok (.aload_n 0, 1) := by decide +kernel
theorem dX3_read_11 : decode cX3_read 11 = .ok (.getfield 23, 3) := by decide +kernel
theorem dX3_read_14 : decode cX3_read 14 = .ok (.if_icmp .ge 28, 3) := by decide +kernel
theorem dX3_read_17 : decode cX3_read 17 = .ok (.aload_n 0, 1) := by decide +kernel
theorem dX3_read_18 : decode cX3_read 18 = .ok (.iload_n 1, 1) := by decide +kernel
theorem dX3_read_19 : decode cX3_read 19 = .ok (.aload_n 0, 1) := by decide +kernel
theorem dX3_read_20 : decode cX3_read 20 = .ok (.getfield 9, 3) := by decide +kernel
theorem dX3_read_23 : decode cX3_read 23 = .ok (.iload_n 2, 1) := by decide +kernel
theorem dX3_read_24 : decode cX3_read 24 = .ok (.caload, 1) := by decide +kernel
theorem dX3_read_25 : decode cX3_read 25 = .ok (.invokevirtual 30, 3) := by decide +kernel
theorem dX3_read_28 : decode cX3_read 28 = .ok (.istore_n 1, 1) := by decide +kernel
theorem dX3_read_29 : decode cX3_read 29 = .ok (.iload_n 1, 1) := by decide +kernel
theorem dX3_read_30 : decode cX3_read 30 = .ok (.iconst (-1), 1) := by decide +kernel
theorem dX3_read_31 : decode cX3_read 31 = .ok (.if_icmp .ne 5, 3) := by decide +kernel
theorem dX3_read_34 : decode cX3_read 34 = .ok (.iload_n 2, 1) := by decide +kernel
theorem dX3_read_35 : decode cX3_read 35 = .ok (.ireturn, 1) := by decide +kernel
theorem dX3_read_36 : decode cX3_read 36 = .ok (.iinc 2 1, 3) := by decide +kernel
theorem dX3_read_39 : decode cX3_read 39 = .ok (.goto (-30), 3) := by decide +kernel
theorem dX3_read_42 : decode cX3_read 42 = .ok (.iload_n 1, 1) := by decide +kernel
theorem dX3_read_43 : decode cX3_read 43 = .ok (.iconst 5, 1) := by decide +kernel
theorem dX3_read_44 : decode cX3_read 44 = .ok (.if_icmp .ne 7, 3) := by decide +kernel
theorem dX3_read_47 : decode cX3_read 47 = .ok (.iconst (-1), 1) := by decide +kernel
theorem dX3_read_48 : decode cX3_read 48 = .ok (.goto 7, 3) := by decide +kernel
theorem dX3_read_51 : decode cX3_read 51 = .ok (.aload_n 0, 1) := by decide +kernel
theorem dX3_read_52 : decode cX3_read 52 = .ok (.getfield 23, 3) := by decide +kernel
theorem dX3_read_55 : decode cX3_read 55 = .ok (.ireturn, 1) := by decide +kernel
theorem dX3_stageAfter_0 : decode cX3_stageAfter 0 = .ok (.iload_n 1, 1) := by decide +kernel
theorem dX3_stageAfter_1 : decode cX3_stageAfter 1 = .ok (.tableswitch 90 0 4 #[35, 41, 72, 78, 84], 35) := by decide +kernel
theorem dX3_stageAfter_36 : decode cX3_stageAfter 36 = .ok (.aload_n 0, 1) := by decide +kernel
theorem dX3_stageAfter_37 : decode cX3_stageAfter 37 = .ok (.iload_n 2, 1) := by decide +kernel
theorem dX3_stageAfter_38 : decode cX3_stageAfter 38 = .ok (.invokevirtual 34, 3) := by decide +kernel
theorem dX3_stageAfter_41 : decode cX3_stageAfter 41 = .ok (.ireturn, 1) := by decide +kernel
theorem dX3_stageAfter_42 : decode cX3_stageAfter 42 = .ok (.iload_n 2, 1) := by decide +kernel
theorem dX3_stageAfter_43 : decode cX3_stageAfter 43 = .ok (.bipush 48, 2) := by decide +kernel
theorem dX3_stageAfter_45 : decode cX3_stageAfter 45 = .ok (.bipush 53, 2) := by decide +kernel
theorem dX3_stageAfter_47 : decode cX3_stageAfter 47 = .ok (.invokestatic 38, 3) := by decide +kernel
theorem dX3_stageAfter_50 : decode cX3_stageAfter 50 = .ok (.ifCond .eq 17, 3) := by decide +kernel
theorem dX3_stageAfter_53 : decode cX3_stageAfter 53 = .ok (.aload_n 0, 1) := by decide +kernel
theorem dX3_stageAfter_54 : decode cX3_stageAfter 54 = .ok (.bipush 10, 2) := by decide +kernel
theorem dX3_stageAfter_56 : decode cX3_stageAfter 56 = .ok (.iload_n 2, 1) := by decide +kernel
theorem dX3_stageAfter_57 : decode cX3_stageAfter 57 = .ok (.iadd, 1) := by decide +kernel
theorem dX3_stageAfter_58 : decode cX3_stageAfter 58 = .ok (.bipush 48, 2) := by decide +kernel
theorem dX3_stageAfter_60 : decode cX3_stageAfter 60 = .ok (.isub, 1) := by decide +kernel
theorem dX3_stageAfter_61 : decode cX3_stageAfter 61 = .ok (.invokevirtual 42, 3) := by decide +kernel
theorem dX3_stageAfter_64 : decode cX3_stageAfter 64 = .ok (.goto 8, 3) := by decide +kernel
theorem dX3_stageAfter_67 : decode cX3_stageAfter 67 = .ok (.aload_n 0, 1) := by decide +kernel
theorem dX3_stageAfter_68 : decode cX3_stageAfter 68 = .ok (.iload_n 2, 1) := by decide +kernel
theorem dX3_stageAfter_69 : decode cX3_stageAfter 69 = .ok (.invokevirtual 46, 3) := by decide +kernel
theorem dX3_stageAfter_72 : decode cX3_stageAfter 72 = .ok (.ireturn, 1) := by decide +kernel
theorem dX3_stageAfter_73 : decode cX3_stageAfter 73 = .ok (.aload_n 0, 1) := by decide +kernel
theorem dX3_stageAfter_74 : decode cX3_stageAfter 74 = .ok (.iload_n 2, 1) := by decide +kernel
theorem dX3_stageAfter_75 : decode cX3_stageAfter 75 = .ok (.invokevirtual 46, 3) := by decide +kernel
theorem dX3_stageAfter_78 : decode cX3_stageAfter 78 = .ok (.ireturn, 1) := by decide +kernel
theorem dX3_stageAfter_79 : decode cX3_stageAfter 79 = .ok (.aload_n 0, 1) := by decide +kernel
theorem dX3_stageAfter_80 : decode cX3_stageAfter 80 = .ok (.iload_n 2, 1) := by decide +kernel
theorem dX3_stageAfter_81 : decode cX3_stageAfter 81 = .ok (.invokevirtual 49, 3) := by decide +kernel
theorem dX3_stageAfter_84 : decode cX3_stageAfter 84 = .ok (.ireturn, 1) := by decide +kernel
theorem dX3_stageAfter_85 : decode cX3_stageAfter 85 = .ok (.aload_n 0, 1) := by decide +kernel
theorem dX3_stageAfter_86 : decode cX3_stageAfter 86 = .ok (.iload_n 2, 1) := by decide +kernel
theorem dX3_stageAfter_87 : decode cX3_stageAfter 87 = .ok (.invokevirtual 52, 3) := by decide +kernel
theorem dX3_stageAfter_90 : decode cX3_stageAfter 90 = .ok (.ireturn, 1) := by decide +kernel
theorem dX3_stageAfter_91 : decode cX3_stageAfter 91 = .ok (.iload_n 2, 1) := by decide +kernel
theorem dX3_stageAfter_92 : decode cX3_stageAfter 92 = .ok (.bipush 59, 2) := by decide +kernel
theorem dX3_stageAfter_94 : decode cX3_stageAfter 94 = .ok (.if_icmp .ne 7, 3) := by decide +kernel
theorem dX3_stageAfter_97 : decode cX3_stageAfter 97 = .ok (.iconst 0, 1) := by decide +kernel
theorem dX3_stageAfter_98 : decode cX3_stageAfter 98 = .ok (.goto 4, 3) := by decide +kernel
theorem dX3_stageAfter_101 : decode cX3_stageAfter 101 = .ok (.iconst (-1), 1) := by decide +kernel
theorem dX3_stageAfter_102 : decode cX3_stageAfter 102 = .ok (.ireturn, 1) := by decide +kernel
theorem dX3_isIn_0 : decode cX3_isIn 0 = .ok (.iload_n 0, 1) := by decide +kernel
theorem dX3_isIn_1 : decode cX3_isIn 1 = .ok (.iload_n 1, 1) := by decide +kernel
theorem dX3_isIn_2 : decode cX3_isIn 2 = .ok (.if_icmp .lt 12, 3) := by decide +kernel
theorem dX3_isIn_5 : decode cX3_isIn 5 = .ok (.iload_n 0, 1) := by decide +kernel
theorem dX3_isIn_6 : decode cX3_isIn 6 = .ok (.iload_n 2, 1) := by decide +kernel
theorem dX3_isIn_7 : decode cX3_isIn 7 = .ok (.if_icmp .gt 7, 3) := by decide +kernel
theorem dX3_isIn_10 : decode cX3_isIn 10 = .ok (.iconst 1, 1) := by decide +kernel
theorem dX3_isIn_11 : decode cX3_isIn 11 = .ok (.goto 4, 3) := by decide +kernel
theorem dX3_isIn_14 : decode cX3_isIn 14 = .ok (.iconst 0, 1) := by decide +kernel
theorem dX3_isIn_15 : decode cX3_isIn 15 = .ok (.ireturn, 1) := by decide +kernel
theorem dX3_readFirst_0 : decode cX3_readFirst 0 = .ok (.iload_n 1, 1) := by decide +kernel
theorem dX3_readFirst_1 : decode cX3_readFirst 1 = .ok (.bipush 46, 2) := by decide +kernel
theorem dX3_readFirst_3 : decode cX3_readFirst 3 = .ok (.if_icmp .ne 15, 3) := by decide +kernel
theorem dX3_readFirst_6 : decode cX3_readFirst 6 = .ok (.aload_n 0, 1) := by decide +kernel
theorem dX3_readFirst_7 : decode cX3_readFirst 7 = .ok (.bipush 46, 2) := by decide +kernel
theorem dX3_readFirst_9 : decode cX3_readFirst 9 = .ok (.putfield 55, 3) := by decide +kernel
theorem dX3_readFirst_12 : decode cX3_readFirst 12 = .ok (.aload_n 0, 1) := by decide +kernel
theorem dX3_readFirst_13 : decode cX3_readFirst 13 = .ok (.iconst 0, 1) := by decide +kernel
theorem dX3_readFirst_14 : decode cX3_readFirst 14 = .ok (.invokevirtual 59, 3) := by decide +kernel
theorem dX3_readFirst_17 : decode cX3_readFirst 17 = .ok (.ireturn, 1) := by decide +kernel
theorem dX3_readFirst_18 : decode cX3_readFirst 18 = .ok (.iload_n 1, 1) := by decide +kernel
theorem dX3_readFirst_19 : decode cX3_readFirst 19 = .ok (.bipush 48, 2) := by decide +kernel
theorem dX3_readFirst_21 : decode cX3_readFirst 21 = .ok (.bipush 57, 2) := by decide +kernel
theorem dX3_readFirst_23 : decode cX3_readFirst 23 = .ok (.invokestatic 38, 3) := by decide +kernel
theorem dX3_readFirst_26 : decode cX3_readFirst 26 = .ok (.ifCond .ne 5, 3) := by decide +kernel
theorem dX3_readFirst_29 : decode cX3_readFirst 29 = .ok (.iconst (-1), 1) := by decide +kernel
theorem dX3_readFirst_30 : decode cX3_readFirst 30 = .ok (.ireturn, 1) := by decide +kernel
theorem dX3_readFirst_31 : decode cX3_readFirst 31 = .ok (.aload_n 0, 1) := by decide +kernel
theorem dX3_readFirst_32 : decode cX3_readFirst 32 = .ok (.iload_n 1, 1) := by decide +kernel
theorem dX3_readFirst_33 : decode cX3_readFirst 33 = .ok (.bipush 48, 2) := by decide +kernel
theorem dX3_readFirst_35 : decode cX3_readFirst 35 = .ok (.isub, 1) := by decide +kernel
theorem dX3_readFirst_36 : decode cX3_readFirst 36 = .ok (.invokevirtual 42, 3) := by decide +kernel
theorem dX3_readFirst_39 : decode cX3_readFirst 39 = .ok (.istore_n 2, 1) := by decide +kernel
theorem dX3_readFirst_40 : decode cX3_readFirst 40 = .ok (.iload_n 1, 1) := by decide +kernel
theorem dX3_readFirst_41 : decode cX3_readFirst 41 = .ok (.bipush 49, 2) := by decide +kernel
theorem dX3_readFirst_43 : decode cX3_readFirst 43 = .ok (.if_icmp .ne 7, 3) := by decide +kernel
theorem dX3_readFirst_46 : decode cX3_readFirst 46 = .ok (.iconst 1, 1) := by decide +kernel
theorem dX3_readFirst_47 : decode cX3_readFirst 47 = .ok (.goto 4, 3) := by decide +kernel
theorem dX3_readFirst_50 : decode cX3_readFirst 50 = .ok (.iload_n 2, 1) := by decide +kernel
theorem dX3_readFirst_51 : decode cX3_readFirst 51 = .ok (.ireturn, 1) := by decide +kernel
theorem dX3_readUnit_0 : decode cX3_readUnit 0 = .ok (.aload_n 0, 1) := by decide +kernel
theorem dX3_readUnit_1 : decode cX3_readUnit 1 = .ok (.iload_n 1, 1) := by decide +kernel
theorem dX3_readUnit_2 : decode cX3_readUnit 2 = .ok (.putfield 62, 3) := by decide +kernel
theorem dX3_readUnit_5 : decode cX3_readUnit 5 = .ok (.iconst 2, 1) := by decide +kernel
theorem dX3_readUnit_6 : decode cX3_readUnit 6 = .ok (.ireturn, 1) := by decide +kernel
theorem dX3_readSign_0 : decode cX3_readSign 0 = .ok (.aload_n 0, 1) := by decide +kernel
theorem dX3_readSign_1 : decode cX3_readSign 1 = .ok (.iload_n 1, 1) := by decide +kernel
theorem dX3_readSign_2 : decode cX3_readSign 2 = .ok (.putfield 55, 3) := by decide +kernel
theorem dX3_readSign_5 : decode cX3_readSign 5 = .ok (.iload_n 1, 1) := by decide +kernel
theorem dX3_readSign_6 : decode cX3_readSign 6 = .ok (.bipush 62, 2) := by decide +kernel
theorem dX3_readSign_8 : decode cX3_readSign 8 = .ok (.if_icmp .eq 9, 3) := by decide +kernel
theorem dX3_readSign_11 : decode cX3_readSign 11 = .ok (.iload_n 1, 1) := by decide +kernel
theorem dX3_readSign_12 : decode cX3_readSign 12 = .ok (.bipush 33, 2) := by decide +kernel
theorem dX3_readSign_14 : decode cX3_readSign 14 = .ok (.if_icmp .ne 7, 3) := by decide +kernel
theorem dX3_readSign_17 : decode cX3_readSign 17 = .ok (.iconst 3, 1) := by decide +kernel
theorem dX3_readSign_18 : decode cX3_readSign 18 = .ok (.goto 4, 3) := by decide +kernel
theorem dX3_readSign_21 : decode cX3_readSign 21 = .ok (.iconst (-1), 1) := by decide +kernel
theorem dX3_readSign_22 : decode cX3_readSign 22 = .ok (.ireturn, 1) := by decide +kernel
theorem dX3_readColumn_0 : decode cX3_readColumn 0 = .ok (.aload_n 0, 1) := by decide +kernel
theorem dX3_readColumn_1 : decode cX3_readColumn 1 = .ok (.iload_n 1, 1) := by decide +kernel
theorem dX3_readColumn_2 : decode cX3_readColumn 2 = .ok (.bipush 97, 2) := by decide +kernel
theorem dX3_readColumn_4 : decode cX3_readColumn 4 = .ok (.isub, 1) := by decide +kernel
theorem dX3_readColumn_5 : decode cX3_readColumn 5 = .ok (.putfield 65, 3) := by decide +kernel
theorem dX3_readColumn_8 : decode cX3_readColumn 8 = .ok (.iload_n 1, 1) := by decide +kernel
theorem dX3_readColumn_9 : decode cX3_readColumn 9 = .ok (.bipush 97, 2) := by decide +kernel
theorem dX3_readColumn_11 : decode cX3_readColumn 11 = .ok (.bipush 105, 2) := by decide +kernel
theorem dX3_readColumn_13 : decode cX3_readColumn 13 = .ok (.invokestatic 38, 3) := by decide +kernel
theorem dX3_readColumn_16 : decode cX3_readColumn 16 = .ok (.ifCond .eq 7, 3) := by decide +kernel
theorem dX3_readColumn_19 : decode cX3_readColumn 19 = .ok (.iconst 4, 1) := by decide +kernel
theorem dX3_readColumn_20 : decode cX3_readColumn 20 = .ok (.goto 4, 3) := by decide +kernel
theorem dX3_readColumn_23 : decode cX3_readColumn 23 = .ok (.iconst (-1), 1) := by decide +kernel
theorem dX3_readColumn_24 : decode cX3_readColumn 24 = .ok (.ireturn, 1) := by decide +kernel
theorem dX3_readRow_0 : decode cX3_readRow 0 = .ok (.iload_n 1, 1) := by decide +kernel
theorem dX3_readRow_1 : decode cX3_readRow 1 = .ok (.bipush 49, 2) := by decide +kernel
theorem dX3_readRow_3 : decode cX3_readRow 3 = .ok (.isub, 1) := by decide +kernel
theorem dX3_readRow_4 : decode cX3_readRow 4 = .ok (.istore_n 2, 1) := by decide +kernel
theorem dX3_readRow_5 : decode cX3_readRow 5 = .ok (.iload_n 1, 1) := by decide +kernel
theorem dX3_readRow_6 : decode cX3_readRow 6 = .ok (.bipush 49, 2) := by decide +kernel
theorem dX3_readRow_8 : decode cX3_readRow 8 = .ok (.bipush 55, 2) := by decide +kernel
theorem dX3_readRow_10 : decode cX3_readRow 10 = .ok (.invokestatic 38, 3) := by decide +kernel
theorem dX3_readRow_13 : decode cX3_readRow 13 = .ok (.ifCond .eq 19, 3) := by decide +kernel
theorem dX3_readRow_16 : decode cX3_readRow 16 = .ok (.aload_n 0, 1) := by decide +kernel
theorem dX3_readRow_17 : decode cX3_readRow 17 = .ok (.iload_n 2, 1) := by decide +kernel
theorem dX3_readRow_18 : decode cX3_readRow 18 = .ok (.bipush 9, 2) := by decide +kernel
theorem dX3_readRow_20 : decode cX3_readRow 20 = .ok (.imul, 1) := by decide +kernel
theorem dX3_readRow_21 : decode cX3_readRow 21 = .ok (.aload_n 0, 1) := by decide +kernel
theorem dX3_readRow_22 : decode cX3_readRow 22 = .ok (.getfield 65, 3) := by decide +kernel
theorem dX3_readRow_25 : decode cX3_readRow 25 = .ok (.iadd, 1) := by decide +kernel
theorem dX3_readRow_26 : decode cX3_readRow 26 = .ok (.invokevirtual 59, 3) := by decide +kernel
theorem dX3_readRow_29 : decode cX3_readRow 29 = .ok (.goto 4, 3) := by decide +kernel
theorem dX3_readRow_32 : decode cX3_readRow 32 = .ok (.iconst (-1), 1) := by decide +kernel
theorem dX3_readRow_33 : decode cX3_readRow 33 = .ok (.ireturn, 1) := by decide +kernel
theorem dX3_addOrder_0 : decode cX3_addOrder 0 = .ok (.aload_n 0, 1) := by decide +kernel
theorem dX3_addOrder_1 : decode cX3_addOrder 1 = .ok (.getfield 27, 3) := by decide +kernel
theorem dX3_addOrder_4 : decode cX3_addOrder 4 = .ok (.bipush 30, 2) := by decide +kernel
theorem dX3_addOrder_6 : decode cX3_addOrder 6 = .ok (.if_icmp .ge 49, 3) := by decide +kernel
theorem dX3_addOrder_9 : decode cX3_addOrder 9 = .ok (.aload_n 0, 1) := by decide +kernel
theorem dX3_addOrder_10 : decode cX3_addOrder 10 = .ok (.getfield 13, 3) := by decide +kernel
theorem dX3_addOrder_13 : decode cX3_addOrder 13 = .ok (.aload_n 0, 1) := by decide +kernel
theorem dX3_addOrder_14 : decode cX3_addOrder 14 = .ok (.getfield 27, 3) := by decide +kernel
theorem dX3_addOrder_17 : decode cX3_addOrder 17 = .ok (.aload_n 0, 1) := by decide +kernel
theorem dX3_addOrder_18 : decode cX3_addOrder 18 = .ok (.getfield 55, 3) := by decide +kernel
theorem dX3_addOrder_21 : decode cX3_addOrder 21 = .ok (.castore, 1) := by decide +kernel
theorem dX3_addOrder_22 : decode cX3_addOrder 22 = .ok (.aload_n 0, 1) := by decide +kernel
theorem dX3_addOrder_23 : decode cX3_addOrder 23 = .ok (.getfield 16, 3) := by decide +kernel
theorem dX3_addOrder_26 : decode cX3_addOrder 26 = .ok (.aload_n 0, 1) := by decide +kernel
theorem dX3_addOrder_27 : decode cX3_addOrder 27 = .ok (.getfield 27, 3) := by decide +kernel
theorem dX3_addOrder_30 : decode cX3_addOrder 30 = .ok (.aload_n 0, 1) := by decide +kernel
theorem dX3_addOrder_31 : decode cX3_addOrder 31 = .ok (.getfield 62, 3) := by decide +kernel
theorem dX3_addOrder_34 : decode cX3_addOrder 34 = .ok (.iastore, 1) := by decide +kernel
theorem dX3_addOrder_35 : decode cX3_addOrder 35 = .ok (.aload_n 0, 1) := by decide +kernel
theorem dX3_addOrder_36 : decode cX3_addOrder 36 = .ok (.getfield 20, 3) := by decide +kernel
theorem dX3_addOrder_39 : decode cX3_addOrder 39 = .ok (.aload_n 0, 1) := by decide +kernel
theorem dX3_addOrder_40 : decode cX3_addOrder 40 = .ok (.getfield 27, 3) := by decide +kernel
theorem dX3_addOrder_43 : decode cX3_addOrder 43 = .ok (.iload_n 1, 1) := by decide +kernel
theorem dX3_addOrder_44 : decode cX3_addOrder 44 = .ok (.iastore, 1) := by decide +kernel
theorem dX3_addOrder_45 : decode cX3_addOrder 45 = .ok (.aload_n 0, 1) := by decide +kernel
theorem dX3_addOrder_46 : decode cX3_addOrder 46 = .ok (.dup, 1) := by decide +kernel
theorem dX3_addOrder_47 : decode cX3_addOrder 47 = .ok (.getfield 27, 3) := by decide +kernel
theorem dX3_addOrder_50 : decode cX3_addOrder 50 = .ok (.iconst 1, 1) := by decide +kernel
theorem dX3_addOrder_51 : decode cX3_addOrder 51 = .ok (.iadd, 1) := by decide +kernel
theorem dX3_addOrder_52 : decode cX3_addOrder 52 = .ok (.putfield 27, 3) := by decide +kernel
theorem dX3_addOrder_55 : decode cX3_addOrder 55 = .ok (.iconst 5, 1) := by decide +kernel
theorem dX3_addOrder_56 : decode cX3_addOrder 56 = .ok (.ireturn, 1) := by decide +kernel
theorem dX4_init_0 : decode cX4_init 0 = .ok (.aload_n 0, 1) := by decide +kernel
theorem dX4_init_1 : decode cX4_init 1 = .ok (.invokespecial 1, 3) := by decide +kernel
theorem dX4_init_4 : decode cX4_init 4 = .ok (.aload_n 0, 1) := by decide +kernel
theorem dX4_init_5 : decode cX4_init 5 = .ok (.bipush 63, 2) := by decide +kernel
theorem dX4_init_7 : decode cX4_init 7 = .ok (.newarray .int, 2) := by decide +kernel
theorem dX4_init_9 : decode cX4_init 9 = .ok (.putfield 9, 3) := by decide +kernel
theorem dX4_init_12 : decode cX4_init 12 = .ok (.aload_n 0, 1) := by decide +kernel
theorem dX4_init_13 : decode cX4_init 13 = .ok (.bipush 63, 2) := by decide +kernel
theorem dX4_init_15 : decode cX4_init 15 = .ok (.newarray .int, 2) := by decide +kernel
theorem dX4_init_17 : decode cX4_init 17 = .ok (.putfield 15, 3) := by decide +kernel
theorem dX4_init_20 : decode cX4_init 20 = .ok (.aload_n 0, 1) := by decide +kernel
theorem dX4_init_21 : decode cX4_init 21 = .ok (.bipush 63, 2) := by decide +kernel
theorem dX4_init_23 : decode cX4_init 23 = .ok (.newarray .int, 2) := by decide +kernel
theorem dX4_init_25 : decode cX4_init 25 = .ok (.putfield 18, 3) := by decide +kernel
theorem dX4_init_28 : decode cX4_init 28 = .ok (.aload_n 0, 1) := by decide +kernel
theorem dX4_init_29 : decode cX4_init 29 = .ok (.bipush 63, 2) := by decide +kernel
theorem dX4_init_31 : decode cX4_init 31 = .ok (.newarray .int, 2) := by decide +kernel
theorem dX4_init_33 : decode cX4_init 33 = .ok (.putfield 21, 3) := by decide +kernel
theorem dX4_init_36 : decode cX4_init 36 = .ok (.aload_n 0, 1) := by decide +kernel
theorem dX4_init_37 : decode cX4_init 37 = .ok (.iconst 2, 1) := by decide +kernel
theorem dX4_init_38 : decode cX4_init 38 = .ok (.newarray .int, 2) := by decide +kernel
theorem dX4_init_40 : decode cX4_init 40 = .ok (.dup, 1) := by decide +kernel
theorem dX4_init_41 : decode cX4_init 41 = .ok (.iconst 0, 1) := by decide +kernel
theorem dX4_init_42 : decode cX4_init 42 = .ok (.bipush 27, 2) := by decide +kernel
theorem dX4_init_44 : decode cX4_init 44 = .ok (.iastore, 1) := by decide +kernel
theorem dX4_init_45 : decode cX4_init 45 = .ok (.dup, 1) := by decide +kernel
theorem dX4_init_46 : decode cX4_init 46 = .ok (.iconst 1, 1) := by decide +kernel
theorem dX4_init_47 : decode cX4_init 47 = .ok (.bipush 35, 2) := by decide +kernel
theorem dX4_init_49 : decode cX4_init 49 = .ok (.iastore, 1) := by decide +kernel
theorem dX4_init_50 : decode cX4_init 50 = .ok (.putfield 24, 3) := by decide +kernel
theorem dX4_init_53 : decode cX4_init 53 = .ok (.aload_n 0, 1) := by decide +kernel
theorem dX4_init_54 : decode cX4_init 54 = .ok (.bipush 16, 2) := by decide +kernel
theorem dX4_init_56 : decode cX4_init 56 = .ok (.newarray .int, 2) := by decide +kernel
theorem dX4_init_58 : decode cX4_init 58 = .ok (.putfield 27, 3) := by decide +kernel
theorem dX4_init_61 : decode cX4_init 61 = .ok (.aload_n 0, 1) := by decide +kernel
theorem dX4_init_62 : decode cX4_init 62 = .ok (.bipush 16, 2) := by decide +kernel
theorem dX4_init_64 : decode cX4_init 64 = .ok (.newarray .int, 2) := by decide +kernel
theorem dX4_init_66 : decode cX4_init 66 = .ok (.putfield 30, 3) := by decide +kernel
theorem dX4_init_69 : decode cX4_init 69 = .ok (.aload_n 0, 1) := by decide +kernel
theorem dX4_init_70 : decode cX4_init 70 = .ok (.bipush 16, 2) := by decide +kernel
theorem dX4_init_72 : decode cX4_init 72 = .ok (.newarray .int, 2) := by decide +kernel
theorem dX4_init_74 : decode cX4_init 74 = .ok (.putfield 33, 3) := by decide +kernel
theorem dX4_init_77 : decode cX4_init 77 = .ok (.aload_n 0, 1) := by decide +kernel
theorem dX4_init_78 : decode cX4_init 78 = .ok (.bipush 16, 2) := by decide +kernel
theorem dX4_init_80 : decode cX4_init 80 = .ok (.newarray .int, 2) := by decide +kernel
theorem dX4_init_82 : decode cX4_init 82 = .ok (.putfield 36, 3) := by decide +kernel
theorem dX4_init_85 : decode cX4_init 85 = .ok (.aload_n 0, 1) := by decide +kernel
theorem dX4_init_86 : decode cX4_init 86 = .ok (.bipush 16, 2) := by decide +kernel
theorem dX4_init_88 : decode cX4_init 88 = .ok (.newarray .int, 2) := by decide +kernel
theorem dX4_init_90 : decode cX4_init 90 = .ok (.putfield 39, 3) := by decide +kernel
theorem dX4_init_93 : decode cX4_init 93 = .ok (.aload_n 0, 1) := by decide +kernel
theorem dX4_init_94 : decode cX4_init 94 = .ok (.bipush 16, 2) := by decide +kernel
theorem dX4_init_96 : decode cX4_init 96 = .ok (.newarray .int, 2) := by decide +kernel
theorem dX4_init_98 : decode cX4_init 98 = .ok (.putfield 42, 3) := by decide +kernel
theorem dX4_init_101 : decode cX4_init 101 = .ok (.aload_n 0, 1) := by decide +kernel
theorem dX4_init_102 : decode cX4_init 102 = .ok (.aload_n 1, 1) := by decide +kernel
theorem dX4_init_103 : decode cX4_init 103 = .ok (.putfield 45, 3) := by decide +kernel
theorem dX4_init_106 : decode cX4_init 106 = .ok (.aload_n 0, 1) := by decide +kernel
theorem dX4_init_107 : decode cX4_init 107 = .ok (.getfield 18, 3) := by decide +kernel
theorem dX4_init_110 : decode cX4_init 110 = .ok (.iconst (-1), 1) := by decide +kernel
theorem dX4_init_111 : decode cX4_init 111 = .ok (.invokestatic 49, 3) := by decide +kernel
theorem dX4_init_114 : decode cX4_init 114 = .ok (.aload_n 0, 1) := by decide +kernel
theorem dX4_init_115 : decode cX4_init 115 = .ok (.getfield 21, 3) := by decide +kernel
theorem dX4_init_118 : decode cX4_init 118 = .ok (.iconst (-1), 1) := by decide +kernel
theorem dX4_init_119 : decode cX4_init 119 = .ok (.invokestatic 49, 3) := by decide +kernel
theorem dX4_init_122 : decode cX4_init 122 = .ok (.return_, 1) := by decide +kernel
theorem dX4_copyFrom_0 : decode cX4_copyFrom 0 = .ok (.aload_n 1, 1) := by decide +kernel
theorem dX4_copyFrom_1 : decode cX4_copyFrom 1 = .ok (.getfield 9, 3) := by decide +kernel
theorem dX4_copyFrom_4 : decode cX4_copyFrom 4 = .ok (.iconst 0, 1) := by decide +kernel
theorem dX4_copyFrom_5 : decode cX4_copyFrom 5 = .ok (.aload_n 0, 1) := by decide +kernel
theorem dX4_copyFrom_6 : decode cX4_copyFrom 6 = .ok (.getfield 9, 3) := by decide +kernel
theorem dX4_copyFrom_9 : decode cX4_copyFrom 9 = .ok (.iconst 0, 1) := by decide +kernel
theorem dX4_copyFrom_10 : decode cX4_copyFrom 10 = .ok (.bipush 63, 2) := by decide +kernel
theorem dX4_copyFrom_12 : decode cX4_copyFrom 12 = .ok (.invokestatic 55, 3) := by decide +kernel
theorem dX4_copyFrom_15 : decode cX4_copyFrom 15 = .ok (.aload_n 1, 1) := by decide +kernel
theorem dX4_copyFrom_16 : decode cX4_copyFrom 16 = .ok (.getfield 15, 3) := by decide +kernel
theorem dX4_copyFrom_19 : decode cX4_copyFrom 19 = .ok (.iconst 0, 1) := by decide +kernel
theorem dX4_copyFrom_20 : decode cX4_copyFrom 20 = .ok (.aload_n 0, 1) := by decide +kernel
theorem dX4_copyFrom_21 : decode cX4_copyFrom 21 = .ok (.getfield 15, 3) := by decide +kernel
theorem dX4_copyFrom_24 : decode cX4_copyFrom 24 = .ok (.iconst 0, 1) := by decide +kernel
theorem dX4_copyFrom_25 : decode cX4_copyFrom 25 = .ok (.bipush 63, 2) := by decide +kernel
theorem dX4_copyFrom_27 : decode cX4_copyFrom 27 = .ok (.invokestatic 55, 3) := by decide +kernel
theorem dX4_copyFrom_30 : decode cX4_copyFrom 30 = .ok (.aload_n 1, 1) := by decide +kernel
theorem dX4_copyFrom_31 : decode cX4_copyFrom 31 = .ok (.getfield 18, 3) := by decide +kernel
theorem dX4_copyFrom_34 : decode cX4_copyFrom 34 = .ok (.iconst 0, 1) := by decide +kernel
theorem dX4_copyFrom_35 : decode cX4_copyFrom 35 = .ok (.aload_n 0, 1) := by decide +kernel
theorem dX4_copyFrom_36 : decode cX4_copyFrom 36 = .ok (.getfield 18, 3) := by decide +kernel
theorem dX4_copyFrom_39 : decode cX4_copyFrom 39 = .ok (.iconst 0, 1) := by decide +kernel
theorem dX4_copyFrom_40 : decode cX4_copyFrom 40 = .ok (.bipush 63, 2) := by decide +kernel
theorem dX4_copyFrom_42 : decode cX4_copyFrom 42 = .ok (.invokestatic 55, 3) := by decide +kernel
theorem dX4_copyFrom_45 : decode cX4_copyFrom 45 = .ok (.aload_n 1, 1) := by decide +kernel
theorem dX4_copyFrom_46 : decode cX4_copyFrom 46 = .ok (.getfield 21, 3) := by decide +kernel
theorem dX4_copyFrom_49 : decode cX4_copyFrom 49 = .ok (.iconst 0, 1) := by decide +kernel
theorem dX4_copyFrom_50 : decode cX4_copyFrom 50 = .ok (.aload_n 0, 1) := by decide +kernel
theorem dX4_copyFrom_51 : decode cX4_copyFrom 51 = .ok (.getfield 21, 3) := by decide +kernel
theorem dX4_copyFrom_54 : decode cX4_copyFrom 54 = .ok (.iconst 0, 1) := by decide +kernel
theorem dX4_copyFrom_55 : decode cX4_copyFrom 55 = .ok (.bipush 63, 2) := by decide +kernel
theorem dX4_copyFrom_57 : decode cX4_copyFrom 57 = .ok (.invokestatic 55, 3) := by decide +kernel
theorem dX4_copyFrom_60 : decode cX4_copyFrom 60 = .ok (.aload_n 1, 1) := by decide +kernel
theorem dX4_copyFrom_61 : decode cX4_copyFrom 61 = .ok (.getfield 24, 3) := by decide +kernel
theorem dX4_copyFrom_64 : decode cX4_copyFrom 64 = .ok (.iconst 0, 1) := by decide +kernel
theorem dX4_copyFrom_65 : decode cX4_copyFrom 65 = .ok (.aload_n 0, 1) := by decide +kernel
theorem dX4_copyFrom_66 : decode cX4_copyFrom 66 = .ok (.getfield 24, 3) := by decide +kernel
theorem dX4_copyFrom_69 : decode cX4_copyFrom 69 = .ok (.iconst 0, 1) := by decide +kernel
theorem dX4_copyFrom_70 : decode cX4_copyFrom 70 = .ok (.iconst 2, 1) := by decide +kernel
theorem dX4_copyFrom_71 : decode cX4_copyFrom 71 = .ok (.invokestatic 55, 3) := by decide +kernel
theorem dX4_copyFrom_74 : decode cX4_copyFrom 74 = .ok (.aload_n 0, 1) := by decide +kernel
theorem dX4_copyFrom_75 : decode cX4_copyFrom 75 = .ok (.aload_n 1, 1) := by decide +kernel
theorem dX4_copyFrom_76 : decode cX4_copyFrom 76 = .ok (.getfield 61, 3) := by decide +kernel
theorem dX4_copyFrom_79 : decode cX4_copyFrom 79 = .ok (.putfield 61, 3) := by decide +kernel
theorem dX4_copyFrom_82 : decode cX4_copyFrom 82 = .ok (.aload_n 1, 1) := by decide +kernel
theorem dX4_copyFrom_83 : decode cX4_copyFrom 83 = .ok (.getfield 27, 3) := by decide +kernel
theorem dX4_copyFrom_86 : decode cX4_copyFrom 86 = .ok (.iconst 0, 1) := by decide +kernel
theorem dX4_copyFrom_87 : decode cX4_copyFrom 87 = .ok (.aload_n 0, 1) := by decide +kernel
theorem dX4_copyFrom_88 : decode cX4_copyFrom 88 = .ok (.getfield 27, 3) := by decide +kernel
theorem dX4_copyFrom_91 : decode cX4_copyFrom 91 = .ok (.iconst 0, 1) := by decide +kernel
theorem dX4_copyFrom_92 : decode cX4_copyFrom 92 = .ok (.bipush 16, 2) := by decide +kernel
theorem dX4_copyFrom_94 : decode cX4_copyFrom 94 = .ok (.invokestatic 55, 3) := by decide +kernel
theorem dX4_copyFrom_97 : decode cX4_copyFrom 97 = .ok (.aload_n 1, 1) := by decide +kernel
theorem dX4_copyFrom_98 : decode cX4_copyFrom 98 = .ok (.getfield 30, 3) := by decide +kernel
theorem dX4_copyFrom_101 : decode cX4_copyFrom 101 = .ok (.iconst 0, 1) := by decide +kernel
theorem dX4_copyFrom_102 : decode cX4_copyFrom 102 = .ok (.aload_n 0, 1) := by decide +kernel
theorem dX4_copyFrom_103 : decode cX4_copyFrom 103 = .ok (.getfield 30, 3) := by decide +kernel
theorem dX4_copyFrom_106 : decode cX4_copyFrom 106 = .ok (.iconst 0, 1) := by decide +kernel
theorem dX4_copyFrom_107 : decode cX4_copyFrom 107 = .ok (.bipush 16, 2) := by decide +kernel
theorem dX4_copyFrom_109 : decode cX4_copyFrom 109 = .ok (.invokestatic 55, 3) := by decide +kernel
theorem dX4_copyFrom_112 : decode cX4_copyFrom 112 = .ok (.aload_n 1, 1) := by decide +kernel
theorem dX4_copyFrom_113 : decode cX4_copyFrom 113 = .ok (.getfield 33, 3) := by decide +kernel
theorem dX4_copyFrom_116 : decode cX4_copyFrom 116 = .ok (.iconst 0, 1) := by decide +kernel
theorem dX4_copyFrom_117 : decode cX4_copyFrom 117 = .ok (.aload_n 0, 1) := by decide +kernel
theorem dX4_copyFrom_118 : decode cX4_copyFrom 118 = .ok (.getfield 33, 3) := by decide +kernel
theorem dX4_copyFrom_121 : decode cX4_copyFrom 121 = .ok (.iconst 0, 1) := by decide +kernel
theorem dX4_copyFrom_122 : decode cX4_copyFrom 122 = .ok (.bipush 16, 2) := by decide +kernel
theorem dX4_copyFrom_124 : decode cX4_copyFrom 124 = .ok (.invokestatic 55, 3) := by decide +kernel
theorem dX4_copyFrom_127 : decode cX4_copyFrom 127 = .ok (.aload_n 1, 1) := by decide +kernel
theorem dX4_copyFrom_128 : decode cX4_copyFrom 128 = .ok (.getfield 36, 3) := by decide +kernel
theorem dX4_copyFrom_131 : decode cX4_copyFrom 131 = .ok (.iconst 0, 1) := by decide +kernel
theorem dX4_copyFrom_132 : decode cX4_copyFrom 132 = .ok (.aload_n 0, 1) := by decide +kernel
theorem dX4_copyFrom_133 : decode cX4_copyFrom 133 = .ok (.getfield 36, 3) := by decide +kernel
theorem dX4_copyFrom_136 : decode cX4_copyFrom 136 = .ok (.iconst 0, 1) := by decide +kernel
theorem dX4_copyFrom_137 : decode cX4_copyFrom 137 = .ok (.bipush 16, 2) := by decide +kernel
theorem dX4_copyFrom_139 : decode cX4_copyFrom 139 = .ok (.invokestatic 55, 3) := by decide +kernel
theorem dX4_copyFrom_142 : decode cX4_copyFrom 142 = .ok (.aload_n 1, 1) := by decide +kernel
theorem dX4_copyFrom_143 : decode cX4_copyFrom 143 = .ok (.getfield 39, 3) := by decide +kernel
theorem dX4_copyFrom_146 : decode cX4_copyFrom 146 = .ok (.iconst 0, 1) := by decide +kernel
theorem dX4_copyFrom_147 : decode cX4_copyFrom 147 = .ok (.aload_n 0, 1) := by decide +kernel
theorem dX4_copyFrom_148 : decode cX4_copyFrom 148 = .ok (.getfield 39, 3) := by decide +kernel
theorem dX4_copyFrom_151 : decode cX4_copyFrom 151 = .ok (.iconst 0, 1) := by decide +kernel
theorem dX4_copyFrom_152 : decode cX4_copyFrom 152 = .ok (.bipush 16, 2) := by decide +kernel
theorem dX4_copyFrom_154 : decode cX4_copyFrom 154 = .ok (.invokestatic 55, 3) := by decide +kernel
theorem dX4_copyFrom_157 : decode cX4_copyFrom 157 = .ok (.aload_n 1, 1) := by decide +kernel
theorem dX4_copyFrom_158 : decode cX4_copyFrom 158 = .ok (.getfield 42, 3) := by decide +kernel
theorem dX4_copyFrom_161 : decode cX4_copyFrom 161 = .ok (.iconst 0, 1) := by decide +kernel
theorem dX4_copyFrom_162 : decode cX4_copyFrom 162 = .ok (.aload_n 0, 1) := by decide +kernel
theorem dX4_copyFrom_163 : decode cX4_copyFrom 163 = .ok (.getfield 42, 3) := by decide +kernel
theorem dX4_copyFrom_166 : decode cX4_copyFrom 166 = .ok (.iconst 0, 1) := by decide +kernel
theorem dX4_copyFrom_167 : decode cX4_copyFrom 167 = .ok (.bipush 16, 2) := by decide +kernel
theorem dX4_copyFrom_169 : decode cX4_copyFrom 169 = .ok (.invokestatic 55, 3) := by decide +kernel
theorem dX4_copyFrom_172 : decode cX4_copyFrom 172 = .ok (.aload_n 0, 1) := by decide +kernel
theorem dX4_copyFrom_173 : decode cX4_copyFrom 173 = .ok (.aload_n 1, 1) := by decide +kernel
theorem dX4_copyFrom_174 : decode cX4_copyFrom 174 = .ok (.getfield 65, 3) := by decide +kernel
theorem dX4_copyFrom_177 : decode cX4_copyFrom 177 = .ok (.putfield 65, 3) := by decide +kernel
theorem dX4_copyFrom_180 : decode cX4_copyFrom 180 = .ok (.return_, 1) := by decide +kernel
theorem dX4_sideInTurn_0 : decode cX4_sideInTurn 0 = .ok (.aload_n 0, 1) := by decide +kernel
theorem dX4_sideInTurn_1 : decode cX4_sideInTurn 1 = .ok (.getfield 65, 3) := by decide +kernel
theorem dX4_sideInTurn_4 : decode cX4_sideInTurn 4 = .ok (.iconst 2, 1) := by decide +kernel
theorem dX4_sideInTurn_5 : decode cX4_sideInTurn 5 = .ok (.irem, 1) := by decide +kernel
theorem dX4_sideInTurn_6 : decode cX4_sideInTurn 6 = .ok (.ireturn, 1) := by decide +kernel
theorem dX4_isUnit_0 : decode cX4_isUnit 0 = .ok (.iload_n 1, 1) := by decide +kernel
theorem dX4_isUnit_1 : decode cX4_isUnit 1 = .ok (.ifCond .lt 30, 3) := by decide +kernel
theorem dX4_isUnit_4 : decode cX4_isUnit 4 = .ok (.iload_n 1, 1) := by decide +kernel
theorem dX4_isUnit_5 : decode cX4_isUnit 5 = .ok (.aload_n 0, 1) := by decide +kernel
theorem dX4_isUnit_6 : decode cX4_isUnit 6 = .ok (.getfield 61, 3) := by decide +kernel
theorem dX4_isUnit_9 : decode cX4_isUnit 9 = .ok (.if_icmp .ge 22, 3) := by decide +kernel
theorem dX4_isUnit_12 : decode cX4_isUnit 12 = .ok (.iload_n 1, 1) := by decide +kernel
theorem dX4_isUnit_13 : decode cX4_isUnit 13 = .ok (.bipush 16, 2) := by decide +kernel
theorem dX4_isUnit_15 : decode cX4_isUnit 15 = .ok (.if_icmp .ge 16, 3) := by decide +kernel
theorem dX4_isUnit_18 : decode cX4_isUnit 18 = .ok (.aload_n 0, 1) := by decide +kernel
theorem dX4_isUnit_19 : decode cX4_isUnit 19 = .ok (.getfield 30, 3) := by decide +kernel
theorem dX4_isUnit_22 : decode cX4_isUnit 22 = .ok (.iload_n 1, 1) := by decide +kernel
theorem dX4_isUnit_23 : decode cX4_isUnit 23 = .ok (.iaload, 1) := by decide +kernel
theorem dX4_isUnit_24 : decode cX4_isUnit 24 = .ok (.ifCond .le 7, 3) := by decide +kernel
theorem dX4_isUnit_27 : decode cX4_isUnit 27 = .ok (.iconst 1, 1) := by decide +kernel
theorem dX4_isUnit_28 : decode cX4_isUnit 28 = .ok (.goto 4, 3) := by decide +kernel
theorem dX4_isUnit_31 : decode cX4_isUnit 31 = .ok (.iconst 0, 1) := by decide +kernel
theorem dX4_isUnit_32 : decode cX4_isUnit 32 = .ok (.ireturn, 1) := by decide +kernel
theorem dX4_isUnitOf_0 : decode cX4_isUnitOf 0 = .ok (.aload_n 0, 1) := by decide +kernel
theorem dX4_isUnitOf_1 : decode cX4_isUnitOf 1 = .ok (.iload_n 1, 1) := by decide +kernel
theorem dX4_isUnitOf_2 : decode cX4_isUnitOf 2 = .ok (.invokevirtual 68, 3) := by decide +kernel
theorem dX4_isUnitOf_5 : decode cX4_isUnitOf 5 = .ok (.ifCond .eq 17, 3) := by decide +kernel
theorem dX4_isUnitOf_8 : decode cX4_isUnitOf 8 = .ok (.aload_n 0, 1) := by decide +kernel
theorem dX4_isUnitOf_9 : decode cX4_isUnitOf 9 = .ok (.getfield 27, 3) := by decide +kernel
theorem dX4_isUnitOf_12 : decode cX4_isUnitOf 12 = .ok (.iload_n 1, 1) := by decide +kernel
theorem dX4_isUnitOf_13 : decode cX4_isUnitOf 13 = .ok (.iaload, 1) := by decide +kernel
theorem dX4_isUnitOf_14 : decode cX4_isUnitOf 14 = .ok (.iload_n 2, 1) := by decide +kernel
theorem dX4_isUnitOf_15 : decode cX4_isUnitOf 15 = .ok (.if_icmp .ne 7, 3) := by decide +kernel
theorem dX4_isUnitOf_18 : decode cX4_isUnitOf 18 = .ok (.iconst 1, 1) := by decide +kernel
theorem dX4_isUnitOf_19 : decode cX4_isUnitOf 19 = .ok (.goto 4, 3) := by decide +kernel
theorem dX4_isUnitOf_22 : decode cX4_isUnitOf 22 = .ok (.iconst 0, 1) := by decide +kernel
theorem dX4_isUnitOf_23 : decode cX4_isUnitOf 23 = .ok (.ireturn, 1) := by decide +kernel
theorem dX4_sideOn_0 : decode cX4_sideOn 0 = .ok (.aload_n 0, 1) := by decide +kernel
theorem dX4_sideOn_1 : decode cX4_sideOn 1 = .ok (.getfield 21, 3) := by decide +kernel
theorem dX4_sideOn_4 : decode cX4_sideOn 4 = .ok (.iload_n 1, 1) := by decide +kernel
theorem dX4_sideOn_5 : decode cX4_sideOn 5 = .ok (.iaload, 1) := by decide +kernel
theorem dX4_sideOn_6 : decode cX4_sideOn 6 = .ok (.istore_n 2, 1) := by decide +kernel
theorem dX4_sideOn_7 : decode cX4_sideOn 7 = .ok (.iload_n 2, 1) := by decide +kernel
theorem dX4_sideOn_8 : decode cX4_sideOn 8 = .ok (.ifCond .lt 18, 3) := by decide +kernel
theorem dX4_sideOn_11 : decode cX4_sideOn 11 = .ok (.iload_n 2, 1) := by decide +kernel
theorem dX4_sideOn_12 : decode cX4_sideOn 12 = .ok (.bipush 16, 2) := by decide +kernel
theorem dX4_sideOn_14 : decode cX4_sideOn 14 = .ok (.if_icmp .ge 12, 3) := by decide +kernel
theorem dX4_sideOn_17 : decode cX4_sideOn 17 = .ok (.aload_n 0, 1) := by decide +kernel
theorem dX4_sideOn_18 : decode cX4_sideOn 18 = .ok (.getfield 27, 3) := by decide +kernel
theorem dX4_sideOn_21 : decode cX4_sideOn 21 = .ok (.iload_n 2, 1) := by decide +kernel
theorem dX4_sideOn_22 : decode cX4_sideOn 22 = .ok (.iaload, 1) := by decide +kernel
theorem dX4_sideOn_23 : decode cX4_sideOn 23 = .ok (.goto 4, 3) := by decide +kernel
theorem dX4_sideOn_26 : decode cX4_sideOn 26 = .ok (.iconst (-1), 1) := by decide +kernel
theorem dX4_sideOn_27 : decode cX4_sideOn 27 = .ok (.ireturn, 1) := by decide +kernel
theorem dX4_hasFort_0 : decode cX4_hasFort 0 = .ok (.aload_n 0, 1) := by decide +kernel
theorem dX4_hasFort_1 : decode cX4_hasFort 1 = .ok (.getfield 18, 3) := by decide +kernel
theorem dX4_hasFort_4 : decode cX4_hasFort 4 = .ok (.iload_n 1, 1) := by decide +kernel
theorem dX4_hasFort_5 : decode cX4_hasFort 5 = .ok (.iaload, 1) := by decide +kernel
theorem dX4_hasFort_6 : decode cX4_hasFort 6 = .ok (.iconst (-1), 1) := by decide +kernel
theorem dX4_hasFort_7 : decode cX4_hasFort 7 = .ok (.if_icmp .eq 7, 3) := by decide +kernel
theorem dX4_hasFort_10 : decode cX4_hasFort 10 = .ok (.iconst 1, 1) := by decide +kernel
theorem dX4_hasFort_11 : decode cX4_hasFort 11 = .ok (.goto 4, 3) := by decide +kernel
theorem dX4_hasFort_14 : decode cX4_hasFort 14 = .ok (.iconst 0, 1) := by decide +kernel
theorem dX4_hasFort_15 : decode cX4_hasFort 15 = .ok (.ireturn, 1) := by decide +kernel
theorem dX4_hasRiver_0 : decode cX4_hasRiver 0 = .ok (.aload_n 0, 1) := by decide +kernel
theorem dX4_hasRiver_1 : decode cX4_hasRiver 1 = .ok (.getfield 15, 3) := by decide +kernel
theorem dX4_hasRiver_4 : decode cX4_hasRiver 4 = .ok (.iload_n 1, 1) := by decide +kernel
theorem dX4_hasRiver_5 : decode cX4_hasRiver 5 = .ok (.iaload, 1) := by decide +kernel
theorem dX4_hasRiver_6 : decode cX4_hasRiver 6 = .ok (.iload_n 2, 1) := by decide +kernel
theorem dX4_hasRiver_7 : decode cX4_hasRiver 7 = .ok (.ishr, 1) := by decide +kernel
theorem dX4_hasRiver_8 : decode cX4_hasRiver 8 = .ok (.iconst 1, 1) := by decide +kernel
theorem dX4_hasRiver_9 : decode cX4_hasRiver 9 = .ok (.iand, 1) := by decide +kernel
theorem dX4_hasRiver_10 : decode cX4_hasRiver 10 = .ok (.iconst 1, 1) := by decide +kernel
theorem dX4_hasRiver_11 : decode cX4_hasRiver 11 = .ok (.if_icmp .ne 7, 3) := by decide +kernel
theorem dX4_hasRiver_14 : decode cX4_hasRiver 14 = .ok (.iconst 1, 1) := by decide +kernel
theorem dX4_hasRiver_15 : decode cX4_hasRiver 15 = .ok (.goto 4, 3) := by decide +kernel
theorem dX4_hasRiver_18 : decode cX4_hasRiver 18 = .ok (.iconst 0, 1) := by decide +kernel
theorem dX4_hasRiver_19 : decode cX4_hasRiver 19 = .ok (.ireturn, 1) := by decide +kernel
theorem dX4_addUnit_0 : decode cX4_addUnit 0 = .ok (.aload_n 0, 1) := by decide +kernel
theorem dX4_addUnit_1 : decode cX4_addUnit 1 = .ok (.getfield 61, 3) := by decide +kernel
theorem dX4_addUnit_4 : decode cX4_addUnit 4 = .ok (.istore 4, 2) := by decide +kernel
theorem dX4_addUnit_6 : decode cX4_addUnit 6 = .ok (.aload_n 0, 1) := by decide +kernel
theorem dX4_addUnit_7 : decode cX4_addUnit 7 = .ok (.dup, 1) := by decide +kernel
theorem dX4_addUnit_8 : decode cX4_addUnit 8 = .ok (.getfield 61, 3) := by decide +kernel
theorem dX4_addUnit_11 : decode cX4_addUnit 11 = .ok (.iconst 1, 1) := by decide +kernel
theorem dX4_addUnit_12 : decode cX4_addUnit 12 = .ok (.iadd, 1) := by decide +kernel
theorem dX4_addUnit_13 : decode cX4_addUnit 13 = .ok (.putfield 61, 3) := by decide +kernel
theorem dX4_addUnit_16 : decode cX4_addUnit 16 = .ok (.aload_n 0, 1) := by decide +kernel
theorem dX4_addUnit_17 : decode cX4_addUnit 17 = .ok (.getfield 27, 3) := by decide +kernel
theorem dX4_addUnit_20 : decode cX4_addUnit 20 = .ok (.iload 4, 2) := by decide +kernel
theorem dX4_addUnit_22 : decode cX4_addUnit 22 = .ok (.iload_n 1, 1) := by decide +kernel
theorem dX4_addUnit_23 : decode cX4_addUnit 23 = .ok (.iastore, 1) := by decide +kernel
theorem dX4_addUnit_24 : decode cX4_addUnit 24 = .ok (.aload_n 0, 1) := by decide +kernel
theorem dX4_addUnit_25 : decode cX4_addUnit 25 = .ok (.getfield 30, 3) := by decide +kernel
theorem dX4_addUnit_28 : decode cX4_addUnit 28 = .ok (.iload 4, 2) := by decide +kernel
theorem dX4_addUnit_30 : decode cX4_addUnit 30 = .ok (.iload_n 2, 1) := by decide +kernel
theorem dX4_addUnit_31 : decode cX4_addUnit 31 = .ok (.iastore, 1) := by decide +kernel
theorem dX4_addUnit_32 : decode cX4_addUnit 32 = .ok (.aload_n 0, 1) := by decide +kernel
theorem dX4_addUnit_33 : decode cX4_addUnit 33 = .ok (.getfield 36, 3) := by decide +kernel
theorem dX4_addUnit_36 : decode cX4_addUnit 36 = .ok (.iload 4, 2) := by decide +kernel
theorem dX4_addUnit_38 : decode cX4_addUnit 38 = .ok (.iconst 4, 1) := by decide +kernel
theorem dX4_addUnit_39 : decode cX4_addUnit 39 = .ok (.iastore, 1) := by decide +kernel
theorem dX4_addUnit_40 : decode cX4_addUnit 40 = .ok (.aload_n 0, 1) := by decide +kernel
theorem dX4_addUnit_41 : decode cX4_addUnit 41 = .ok (.getfield 39, 3) := by decide +kernel
theorem dX4_addUnit_44 : decode cX4_addUnit 44 = .ok (.iload 4, 2) := by decide +kernel
theorem dX4_addUnit_46 : decode cX4_addUnit 46 = .ok (.iconst 1, 1) := by decide +kernel
theorem dX4_addUnit_47 : decode cX4_addUnit 47 = .ok (.iastore, 1) := by decide +kernel
theorem dX4_addUnit_48 : decode cX4_addUnit 48 = .ok (.aload_n 0, 1) := by decide +kernel
theorem dX4_addUnit_49 : decode cX4_addUnit 49 = .ok (.getfield 42, 3) := by decide +kernel
theorem dX4_addUnit_52 : decode cX4_addUnit 52 = .ok (.iload 4, 2) := by decide +kernel
theorem dX4_addUnit_54 : decode cX4_addUnit 54 = .ok (.iconst 0, 1) := by decide +kernel
theorem dX4_addUnit_55 : decode cX4_addUnit 55 = .ok (.iastore, 1) := by decide +kernel
theorem dX4_addUnit_56 : decode cX4_addUnit 56 = .ok (.aload_n 0, 1) := by decide +kernel
theorem dX4_addUnit_57 : decode cX4_addUnit 57 = .ok (.iload 4, 2) := by decide +kernel
theorem dX4_addUnit_59 : decode cX4_addUnit 59 = .ok (.iload_n 3, 1) := by decide +kernel
theorem dX4_addUnit_60 : decode cX4_addUnit 60 = .ok (.invokevirtual 72, 3) := by decide +kernel
theorem dX4_addUnit_63 : decode cX4_addUnit 63 = .ok (.iload 4, 2) := by decide +kernel
theorem dX4_addUnit_65 : decode cX4_addUnit 65 = .ok (.ireturn, 1) := by decide +kernel
theorem dX4_shift_0 : decode cX4_shift 0 = .ok (.aload_n 0, 1) := by decide +kernel
theorem dX4_shift_1 : decode cX4_shift 1 = .ok (.getfield 21, 3) := by decide +kernel
theorem dX4_shift_4 : decode cX4_shift 4 = .ok (.aload_n 0, 1) := by decide +kernel
theorem dX4_shift_5 : decode cX4_shift 5 = .ok (.getfield 33, 3) := by decide +kernel
theorem dX4_shift_8 : decode cX4_shift 8 = .ok (.iload_n 1, 1) := by decide +kernel
theorem dX4_shift_9 : decode cX4_shift 9 = .ok (.iaload, 1) := by decide +kernel
theorem dX4_shift_10 : decode cX4_shift 10 = .ok (.iconst (-1), 1) := by decide +kernel
theorem dX4_shift_11 : decode cX4_shift 11 = .ok (.iastore, 1) := by decide +kernel
theorem dX4_shift_12 : decode cX4_shift 12 = .ok (.aload_n 0, 1) := by decide +kernel
theorem dX4_shift_13 : decode cX4_shift 13 = .ok (.iload_n 1, 1) := by decide +kernel
theorem dX4_shift_14 : decode cX4_shift 14 = .ok (.iload_n 2, 1) := by decide +kernel
theorem dX4_shift_15 : decode cX4_shift 15 = .ok (.invokevirtual 72, 3) := by decide +kernel
theorem dX4_shift_18 : decode cX4_shift 18 = .ok (.return_, 1) := by decide +kernel
theorem dX4_stand_0 : decode cX4_stand 0 = .ok (.aload_n 0, 1) := by decide +kernel
theorem dX4_stand_1 : decode cX4_stand 1 = .ok (.getfield 33, 3) := by decide +kernel
theorem dX4_stand_4 : decode cX4_stand 4 = .ok (.iload_n 1, 1) := by decide +kernel
theorem dX4_stand_5 : decode cX4_stand 5 = .ok (.iload_n 2, 1) := by decide +kernel
theorem dX4_stand_6 : decode cX4_stand 6 = .ok (.iastore, 1) := by decide +kernel
theorem dX4_stand_7 : decode cX4_stand 7 = .ok (.aload_n 0, 1) := by decide +kernel
theorem dX4_stand_8 : decode cX4_stand 8 = .ok (.getfield 21, 3) := by decide +kernel
theorem dX4_stand_11 : decode cX4_stand 11 = .ok (.iload_n 2, 1) := by decide +kernel
theorem dX4_stand_12 : decode cX4_stand 12 = .ok (.iload_n 1, 1) := by decide +kernel
theorem dX4_stand_13 : decode cX4_stand 13 = .ok (.iastore, 1) := by decide +kernel
theorem dX4_stand_14 : decode cX4_stand 14 = .ok (.aload_n 0, 1) := by decide +kernel
theorem dX4_stand_15 : decode cX4_stand 15 = .ok (.iload_n 2, 1) := by decide +kernel
theorem dX4_stand_16 : decode cX4_stand 16 = .ok (.invokevirtual 76, 3) := by decide +kernel
theorem dX4_stand_19 : decode cX4_stand 19 = .ok (.return_, 1) := by decide +kernel
theorem dX4_giveFortToUnit_0 : decode cX4_giveFortToUnit 0 = .ok (.aload_n 0, 1) := by decide +kernel
theorem dX4_giveFortToUnit_1 : decode cX4_giveFortToUnit 1 = .ok (.iload_n 1, 1) := by decide +kernel
theorem dX4_giveFortToUnit_2 : decode cX4_giveFortToUnit 2 = .ok (.invokevirtual 80, 3) := by decide +kernel
theorem dX4_giveFortToUnit_5 : decode cX4_giveFortToUnit 5 = .ok (.ifCond .eq 23, 3) := by decide +kernel
theorem dX4_giveFortToUnit_8 : decode cX4_giveFortToUnit 8 = .ok (.aload_n 0, 1) := by decide +kernel
theorem dX4_giveFortToUnit_9 : decode cX4_giveFortToUnit 9 = .ok (.iload_n 1, 1) := by decide +kernel
theorem dX4_giveFortToUnit_10 : decode cX4_giveFortToUnit 10 = .ok (.invokevirtual 83, 3) := by decide +kernel
theorem dX4_giveFortToUnit_13 : decode cX4_giveFortToUnit 13 = .ok (.iconst (-1), 1) := by decide +kernel
theorem dX4_giveFortToUnit_14 : decode cX4_giveFortToUnit 14 = .ok (.if_icmp .eq 14, 3) := by decide +kernel
theorem dX4_giveFortToUnit_17 : decode cX4_giveFortToUnit 17 = .ok (.aload_n 0, 1) := by decide +kernel
theorem dX4_giveFortToUnit_18 : decode cX4_giveFortToUnit 18 = .ok (.getfield 18, 3) := by decide +kernel
theorem dX4_giveFortToUnit_21 : decode cX4_giveFortToUnit 21 = .ok (.iload_n 1, 1) := by decide +kernel
theorem dX4_giveFortToUnit_22 : decode cX4_giveFortToUnit 22 = .ok (.aload_n 0, 1) := by decide +kernel
theorem dX4_giveFortToUnit_23 : decode cX4_giveFortToUnit 23 = .ok (.iload_n 1, 1) := by decide +kernel
theorem dX4_giveFortToUnit_24 : decode cX4_giveFortToUnit 24 = .ok (.invokevirtual 83, 3) := by decide +kernel
theorem dX4_giveFortToUnit_27 : decode cX4_giveFortToUnit 27 = .ok (.iastore, 1) := by decide +kernel
theorem dX4_giveFortToUnit_28 : decode cX4_giveFortToUnit 28 = .ok (.return_, 1) := by decide +kernel
theorem dX4_setStrength_0 : decode cX4_setStrength 0 = .ok (.aload_n 0, 1) := by decide +kernel
theorem dX4_setStrength_1 : decode cX4_setStrength 1 = .ok (.getfield 30, 3) := by decide +kernel
theorem dX4_setStrength_4 : decode cX4_setStrength 4 = .ok (.iload_n 1, 1) := by decide +kernel
theorem dX4_setStrength_5 : decode cX4_setStrength 5 = .ok (.iload_n 2, 1) := by decide +kernel
theorem dX4_setStrength_6 : decode cX4_setStrength 6 = .ok (.iconst 0, 1) := by decide +kernel
theorem dX4_setStrength_7 : decode cX4_setStrength 7 = .ok (.invokestatic 87, 3) := by decide +kernel
theorem dX4_setStrength_10 : decode cX4_setStrength 10 = .ok (.iastore, 1) := by decide +kernel
theorem dX4_setStrength_11 : decode cX4_setStrength 11 = .ok (.aload_n 0, 1) := by decide +kernel
theorem dX4_setStrength_12 : decode cX4_setStrength 12 = .ok (.getfield 30, 3) := by decide +kernel
theorem dX4_setStrength_15 : decode cX4_setStrength 15 = .ok (.iload_n 1, 1) := by decide +kernel
theorem dX4_setStrength_16 : decode cX4_setStrength 16 = .ok (.iaload, 1) := by decide +kernel
theorem dX4_setStrength_17 : decode cX4_setStrength 17 = .ok (.ifCond .ne 15, 3) := by decide +kernel
theorem dX4_setStrength_20 : decode cX4_setStrength 20 = .ok (.aload_n 0, 1) := by decide +kernel
theorem dX4_setStrength_21 : decode cX4_setStrength 21 = .ok (.getfield 21, 3) := by decide +kernel
theorem dX4_setStrength_24 : decode cX4_setStrength 24 = .ok (.aload_n 0, 1) := by decide +kernel
theorem dX4_setStrength_25 : decode cX4_setStrength 25 = .ok (.getfield 33, 3) := by decide +kernel
theorem dX4_setStrength_28 : decode cX4_setStrength 28 = .ok (.iload_n 1, 1) := by decide +kernel
theorem dX4_setStrength_29 : decode cX4_setStrength 29 = .ok (.iaload, 1) := by decide +kernel
theorem dX4_setStrength_30 : decode cX4_setStrength 30 = .ok (.iconst (-1), 1) := by decide +kernel
theorem dX4_setStrength_31 : decode cX4_setStrength 31 = .ok (.iastore, 1) := by decide +kernel
theorem dX4_setStrength_32 : decode cX4_setStrength 32 = .ok (.return_, 1) := by decide +kernel
theorem dX4_refresh_0 : decode cX4_refresh 0 = .ok (.iconst 0, 1) := by decide +kernel
theorem dX4_refresh_1 : decode cX4_refresh 1 = .ok (.istore_n 2, 1) := by decide +kernel
theorem dX4_refresh_2 : decode cX4_refresh 2 = .ok (.iload_n 2, 1) := by decide +kernel
theorem dX4_refresh_3 : decode cX4_refresh 3 = .ok (.aload_n 0, 1) := by decide +kernel
theorem dX4_refresh_4 : decode cX4_refresh 4 = .ok (.getfield 61, 3) := by decide +kernel
theorem dX4_refresh_7 : decode cX4_refresh 7 = .ok (.if_icmp .ge 32, 3) := by decide +kernel
theorem dX4_refresh_10 : decode cX4_refresh 10 = .ok (.aload_n 0, 1) := by decide +kernel
theorem dX4_refresh_11 : decode cX4_refresh 11 = .ok (.iload_n 2, 1) := by decide +kernel
theorem dX4_refresh_12 : decode cX4_refresh 12 = .ok (.iload_n 1, 1) := by decide +kernel
theorem dX4_refresh_13 : decode cX4_refresh 13 = .ok (.invokevirtual 93, 3) := by decide +kernel
theorem dX4_refresh_16 : decode cX4_refresh 16 = .ok (.ifCond .eq 17, 3) := by decide +kernel
theorem dX4_refresh_19 : decode cX4_refresh 19 = .ok (.aload_n 0, 1) := by decide +kernel
theorem dX4_refresh_20 : decode cX4_refresh 20 = .ok (.getfield 36, 3) := by decide +kernel
theorem dX4_refresh_23 : decode cX4_refresh 23 = .ok (.iload_n 2, 1) := by decide +kernel
theorem dX4_refresh_24 : decode cX4_refresh 24 = .ok (.iconst 4, 1) := by decide +kernel
theorem dX4_refresh_25 : decode cX4_refresh 25 = .ok (.iastore, 1) := by decide +kernel
theorem dX4_refresh_26 : decode cX4_refresh 26 = .ok (.aload_n 0, 1) := by decide +kernel
theorem dX4_refresh_27 : decode cX4_refresh 27 = .ok (.getfield 39, 3) := by decide +kernel
theorem dX4_refresh_30 : decode cX4_refresh 30 = .ok (.iload_n 2, 1) := by decide +kernel
theorem dX4_refresh_31 : decode cX4_refresh 31 = .ok (.iconst 1, 1) := by decide +kernel
theorem dX4_refresh_32 : decode cX4_refresh 32 = .ok (.iastore, 1) := by decide +kernel
theorem dX4_refresh_33 : decode cX4_refresh 33 = .ok (.iinc 2 1, 3) := by decide +kernel
theorem dX4_refresh_36 : decode cX4_refresh 36 = .ok (.goto (-34), 3) := by decide +kernel
theorem dX4_refresh_39 : decode cX4_refresh 39 = .ok (.return_, 1) := by decide +kernel
theorem dX4_inZone_0 : decode cX4_inZone 0 = .ok (.iconst 0, 1) := by decide +kernel
theorem dX4_inZone_1 : decode cX4_inZone 1 = .ok (.istore_n 3, 1) := by decide +kernel
theorem dX4_inZone_2 : decode cX4_inZone 2 = .ok (.iload_n 3, 1) := by decide +kernel
theorem dX4_inZone_3 : decode cX4_inZone 3 = .ok (.bipush 6, 2) := by decide +kernel
theorem dX4_inZone_5 : decode cX4_inZone 5 = .ok (.if_icmp .ge 45, 3) := by decide +kernel
theorem dX4_inZone_8 : decode cX4_inZone 8 = .ok (.aload_n 0, 1) := by decide +kernel
theorem dX4_inZone_9 : decode cX4_inZone 9 = .ok (.getfield 45, 3) := by decide +kernel
theorem dX4_inZone_12 : decode cX4_inZone 12 = .ok (.getfield 97, 3) := by decide +kernel
theorem dX4_inZone_15 : decode cX4_inZone 15 = .ok (.iload_n 2, 1) := by decide +kernel
theorem dX4_inZone_16 : decode cX4_inZone 16 = .ok (.bipush 6, 2) := by decide +kernel
theorem dX4_inZone_18 : decode cX4_inZone 18 = .ok (.imul, 1) := by decide +kernel
theorem dX4_inZone_19 : decode cX4_inZone 19 = .ok (.iload_n 3, 1) := by decide +kernel
theorem dX4_inZone_20 : decode cX4_inZone 20 = .ok (.iadd, 1) := by decide +kernel
theorem dX4_inZone_21 : decode cX4_inZone 21 = .ok (.iaload, 1) := by decide +kernel
theorem dX4_inZone_22 : decode cX4_inZone 22 = .ok (.istore 4, 2) := by decide +kernel
theorem dX4_inZone_24 : decode cX4_inZone 24 = .ok (.iload 4, 2) := by decide +kernel
theorem dX4_inZone_26 : decode cX4_inZone 26 = .ok (.invokestatic 100, 3) := by decide +kernel
theorem dX4_inZone_29 : decode cX4_inZone 29 = .ok (.ifCond .eq 15, 3) := by decide +kernel
theorem dX4_inZone_32 : decode cX4_inZone 32 = .ok (.aload_n 0, 1) := by decide +kernel
theorem dX4_inZone_33 : decode cX4_inZone 33 = .ok (.iload 4, 2) := by decide +kernel
theorem dX4_inZone_35 : decode cX4_inZone 35 = .ok (.invokevirtual 83, 3) := by decide +kernel
theorem dX4_inZone_38 : decode cX4_inZone 38 = .ok (.iload_n 1, 1) := by decide +kernel
theorem dX4_inZone_39 : decode cX4_inZone 39 = .ok (.if_icmp .ne 5, 3) := by decide +kernel
theorem dX4_inZone_42 : decode cX4_inZone 42 = .ok (.iconst 1, 1) := by decide +kernel
theorem dX4_inZone_43 : decode cX4_inZone 43 = .ok (.ireturn, 1) := by decide +kernel
theorem dX4_inZone_44 : decode cX4_inZone 44 = .ok (.iinc 3 1, 3) := by decide +kernel
theorem dX4_inZone_47 : decode cX4_inZone 47 = .ok (.goto (-45), 3) := by decide +kernel
theorem dX4_inZone_50 : decode cX4_inZone 50 = .ok (.iconst 0, 1) := by decide +kernel
theorem dX4_inZone_51 : decode cX4_inZone 51 = .ok (.ireturn, 1) := by decide +kernel
theorem dX4_isSeen_0 : decode cX4_isSeen 0 = .ok (.aload_n 0, 1) := by decide +kernel
theorem dX4_isSeen_1 : decode cX4_isSeen 1 = .ok (.iload_n 1, 1) := by decide +kernel
theorem dX4_isSeen_2 : decode cX4_isSeen 2 = .ok (.iload_n 2, 1) := by decide +kernel
theorem dX4_isSeen_3 : decode cX4_isSeen 3 = .ok (.invokevirtual 103, 3) := by decide +kernel
theorem dX4_isSeen_6 : decode cX4_isSeen 6 = .ok (.ifCond .ne 12, 3) := by decide +kernel
theorem dX4_isSeen_9 : decode cX4_isSeen 9 = .ok (.aload_n 0, 1) := by decide +kernel
theorem dX4_isSeen_10 : decode cX4_isSeen 10 = .ok (.iload_n 1, 1) := by decide +kernel
theorem dX4_isSeen_11 : decode cX4_isSeen 11 = .ok (.iload_n 2, 1) := by decide +kernel
theorem dX4_isSeen_12 : decode cX4_isSeen 12 = .ok (.invokevirtual 106, 3) := by decide +kernel
theorem dX4_isSeen_15 : decode cX4_isSeen 15 = .ok (.ifCond .eq 7, 3) := by decide +kernel
theorem dX4_isSeen_18 : decode cX4_isSeen 18 = .ok (.iconst 1, 1) := by decide +kernel
theorem dX4_isSeen_19 : decode cX4_isSeen 19 = .ok (.goto 4, 3) := by decide +kernel
theorem dX4_isSeen_22 : decode cX4_isSeen 22 = .ok (.iconst 0, 1) := by decide +kernel
theorem dX4_isSeen_23 : decode cX4_isSeen 23 = .ok (.ireturn, 1) := by decide +kernel
theorem dX4_isSeenByUnit_0 : decode cX4_isSeenByUnit 0 = .ok (.aload_n 0, 1) := by decide +kernel
theorem dX4_isSeenByUnit_1 : decode cX4_isSeenByUnit 1 = .ok (.getfield 9, 3) := by decide +kernel
theorem dX4_isSeenByUnit_4 : decode cX4_isSeenByUnit 4 = .ok (.iload_n 2, 1) := by decide +kernel
theorem dX4_isSeenByUnit_5 : decode cX4_isSeenByUnit 5 = .ok (.iaload, 1) := by decide +kernel
theorem dX4_isSeenByUnit_6 : decode cX4_isSeenByUnit 6 = .ok (.iconst 1, 1) := by decide +kernel
theorem dX4_isSeenByUnit_7 : decode cX4_isSeenByUnit 7 = .ok (.if_icmp .ne 7, 3) := by decide +kernel
theorem dX4_isSeenByUnit_10 : decode cX4_isSeenByUnit 10 = .ok (.iconst 1, 1) := by decide +kernel
theorem dX4_isSeenByUnit_11 : decode cX4_isSeenByUnit 11 = .ok (.goto 4, 3) := by decide +kernel
theorem dX4_isSeenByUnit_14 : decode cX4_isSeenByUnit 14 = .ok (.iconst 2, 1) := by decide +kernel
theorem dX4_isSeenByUnit_15 : decode cX4_isSeenByUnit 15 = .ok (.istore_n 3, 1) := by decide +kernel
theorem dX4_isSeenByUnit_16 : decode cX4_isSeenByUnit 16 = .ok (.iconst 0, 1) := by decide +kernel
theorem dX4_isSeenByUnit_17 : decode cX4_isSeenByUnit 17 = .ok (.istore 4, 2) := by decide +kernel
theorem dX4_isSeenByUnit_19 : decode cX4_isSeenByUnit 19 = .ok (.iload 4, 2) := by decide +kernel
theorem dX4_isSeenByUnit_21 : decode cX4_isSeenByUnit 21 = .ok (.aload_n 0, 1) := by decide +kernel
theorem dX4_isSeenByUnit_22 : decode cX4_isSeenByUnit 22 = .ok (.getfield 61, 3) := by decide +kernel
theorem dX4_isSeenByUnit_25 : decode cX4_isSeenByUnit 25 = .ok (.if_icmp .ge 36, 3) := by decide +kernel
theorem dX4_isSeenByUnit_28 : decode cX4_isSeenByUnit 28 = .ok (.aload_n 0, 1) := by decide +kernel
theorem dX4_isSeenByUnit_29 : decode cX4_isSeenByUnit 29 = .ok (.iload 4, 2) := by decide +kernel
theorem dX4_isSeenByUnit_31 : decode cX4_isSeenByUnit 31 = .ok (.iload_n 1, 1) := by decide +kernel
theorem dX4_isSeenByUnit_32 : decode cX4_isSeenByUnit 32 = .ok (.invokevirtual 93, 3) := by decide +kernel
theorem dX4_isSeenByUnit_35 : decode cX4_isSeenByUnit 35 = .ok (.ifCond .eq 20, 3) := by decide +kernel
theorem dX4_isSeenByUnit_38 : decode cX4_isSeenByUnit 38 = .ok (.aload_n 0, 1) := by decide +kernel
theorem dX4_isSeenByUnit_39 : decode cX4_isSeenByUnit 39 = .ok (.getfield 33, 3) := by decide +kernel
theorem dX4_isSeenByUnit_42 : decode cX4_isSeenByUnit 42 = .ok (.iload 4, 2) := by decide +kernel
theorem dX4_isSeenByUnit_44 : decode cX4_isSeenByUnit 44 = .ok (.iaload, 1) := by decide +kernel
theorem dX4_isSeenByUnit_45 : decode cX4_isSeenByUnit 45 = .ok (.iload_n 2, 1) := by decide +kernel
theorem dX4_isSeenByUnit_46 : decode cX4_isSeenByUnit 46 = .ok (.invokestatic 109, 3) := by decide +kernel
theorem dX4_isSeenByUnit_49 : decode cX4_isSeenByUnit 49 = .ok (.iload_n 3, 1) := by decide +kernel
theorem dX4_isSeenByUnit_50 : decode cX4_isSeenByUnit 50 = .ok (.if_icmp .gt 5, 3) := by decide +kernel
theorem dX4_isSeenByUnit_53 : decode cX4_isSeenByUnit 53 = .ok (.iconst 1, 1) := by decide +kernel
theorem dX4_isSeenByUnit_54 : decode cX4_isSeenByUnit 54 = .ok (.ireturn, 1) := by decide +kernel
theorem dX4_isSeenByUnit_55 : decode cX4_isSeenByUnit 55 = .ok (.iinc 4 1, 3) := by decide +kernel
theorem dX4_isSeenByUnit_58 : decode cX4_isSeenByUnit 58 = .ok (.goto (-39), 3) := by decide +kernel
theorem dX4_isSeenByUnit_61 : decode cX4_isSeenByUnit 61 = .ok (.iconst 0, 1) := by decide +kernel
theorem dX4_isSeenByUnit_62 : decode cX4_isSeenByUnit 62 = .ok (.ireturn, 1) := by decide +kernel
theorem dX4_isSeenByFort_0 : decode cX4_isSeenByFort 0 = .ok (.aload_n 0, 1) := by decide +kernel
theorem dX4_isSeenByFort_1 : decode cX4_isSeenByFort 1 = .ok (.getfield 18, 3) := by decide +kernel
theorem dX4_isSeenByFort_4 : decode cX4_isSeenByFort 4 = .ok (.iload_n 2, 1) := by decide +kernel
theorem dX4_isSeenByFort_5 : decode cX4_isSeenByFort 5 = .ok (.iaload, 1) := by decide +kernel
theorem dX4_isSeenByFort_6 : decode cX4_isSeenByFort 6 = .ok (.iload_n 1, 1) := by decide +kernel
theorem dX4_isSeenByFort_7 : decode cX4_isSeenByFort 7 = .ok (.if_icmp .ne 5, 3) := by decide +kernel
theorem dX4_isSeenByFort_10 : decode cX4_isSeenByFort 10 = .ok (.iconst 1, 1) := by decide +kernel
theorem dX4_isSeenByFort_11 : decode cX4_isSeenByFort 11 = .ok (.ireturn, 1) := by decide +kernel
theorem dX4_isSeenByFort_12 : decode cX4_isSeenByFort 12 = .ok (.iconst 0, 1) := by decide +kernel
theorem dX4_isSeenByFort_13 : decode cX4_isSeenByFort 13 = .ok (.istore_n 3, 1) := by decide +kernel
theorem dX4_isSeenByFort_14 : decode cX4_isSeenByFort 14 = .ok (.iload_n 3, 1) := by decide +kernel
theorem dX4_isSeenByFort_15 : decode cX4_isSeenByFort 15 = .ok (.bipush 6, 2) := by decide +kernel
theorem dX4_isSeenByFort_17 : decode cX4_isSeenByFort 17 = .ok (.if_icmp .ge 46, 3) := by decide +kernel
theorem dX4_isSeenByFort_20 : decode cX4_isSeenByFort 20 = .ok (.aload_n 0, 1) := by decide +kernel
theorem dX4_isSeenByFort_21 : decode cX4_isSeenByFort 21 = .ok (.getfield 45, 3) := by decide +kernel
theorem dX4_isSeenByFort_24 : decode cX4_isSeenByFort 24 = .ok (.getfield 97, 3) := by decide +kernel
theorem dX4_isSeenByFort_27 : decode cX4_isSeenByFort 27 = .ok (.iload_n 2, 1) := by decide +kernel
theorem dX4_isSeenByFort_28 : decode cX4_isSeenByFort 28 = .ok (.bipush 6, 2) := by decide +kernel
theorem dX4_isSeenByFort_30 : decode cX4_isSeenByFort 30 = .ok (.imul, 1) := by decide +kernel
theorem dX4_isSeenByFort_31 : decode cX4_isSeenByFort 31 = .ok (.iload_n 3, 1) := by decide +kernel
theorem dX4_isSeenByFort_32 : decode cX4_isSeenByFort 32 = .ok (.iadd, 1) := by decide +kernel
theorem dX4_isSeenByFort_33 : decode cX4_isSeenByFort 33 = .ok (.iaload, 1) := by decide +kernel
theorem dX4_isSeenByFort_34 : decode cX4_isSeenByFort 34 = .ok (.istore 4, 2) := by decide +kernel
theorem dX4_isSeenByFort_36 : decode cX4_isSeenByFort 36 = .ok (.iload 4, 2) := by decide +kernel
theorem dX4_isSeenByFort_38 : decode cX4_isSeenByFort 38 = .ok (.invokestatic 100, 3) := by decide +kernel
theorem dX4_isSeenByFort_41 : decode cX4_isSeenByFort 41 = .ok (.ifCond .eq 16, 3) := by decide +kernel
theorem dX4_isSeenByFort_44 : decode cX4_isSeenByFort 44 = .ok (.aload_n 0, 1) := by decide +kernel
theorem dX4_isSeenByFort_45 : decode cX4_isSeenByFort 45 = .ok (.getfield 18, 3) := by decide +kernel
theorem dX4_isSeenByFort_48 : decode cX4_isSeenByFort 48 = .ok (.iload 4, 2) := by decide +kernel
theorem dX4_isSeenByFort_50 : decode cX4_isSeenByFort 50 = .ok (.iaload, 1) := by decide +kernel
theorem dX4_isSeenByFort_51 : decode cX4_isSeenByFort 51 = .ok (.iload_n 1, 1) := by decide +kernel
theorem dX4_isSeenByFort_52 : decode cX4_isSeenByFort 52 = .ok (.if_icmp .ne 5, 3) := by decide +kernel
theorem dX4_isSeenByFort_55 : decode cX4_isSeenByFort 55 = .ok (.iconst 1, 1) := by decide +kernel
theorem dX4_isSeenByFort_56 : decode cX4_isSeenByFort 56 = .ok (.ireturn, 1) := by decide +kernel
theorem dX4_isSeenByFort_57 : decode cX4_isSeenByFort 57 = .ok (.iinc 3 1, 3) := by decide +kernel
theorem dX4_isSeenByFort_60 : decode cX4_isSeenByFort 60 = .ok (.goto (-46), 3) := by decide +kernel
theorem dX4_isSeenByFort_63 : decode cX4_isSeenByFort 63 = .ok (.iconst 0, 1) := by decide +kernel
theorem dX4_isSeenByFort_64 : decode cX4_isSeenByFort 64 = .ok (.ireturn, 1) := by decide +kernel
theorem dX4_seenCount_0 : decode cX4_seenCount 0 = .ok (.iconst 0, 1) := by decide +kernel
theorem dX4_seenCount_1 : decode cX4_seenCount 1 = .ok (.istore_n 2, 1) := by decide +kernel
theorem dX4_seenCount_2 : decode cX4_seenCount 2 = .ok (.iconst 0, 1) := by decide +kernel
theorem dX4_seenCount_3 : decode cX4_seenCount 3 = .ok (.istore_n 3, 1) := by decide +kernel
theorem dX4_seenCount_4 : decode cX4_seenCount 4 = .ok (.iload_n 3, 1) := by decide +kernel
theorem dX4_seenCount_5 : decode cX4_seenCount 5 = .ok (.bipush 63, 2) := by decide +kernel
theorem dX4_seenCount_7 : decode cX4_seenCount 7 = .ok (.if_icmp .ge 26, 3) := by decide +kernel
theorem dX4_seenCount_10 : decode cX4_seenCount 10 = .ok (.iload_n 2, 1) := by decide +kernel
theorem dX4_seenCount_11 : decode cX4_seenCount 11 = .ok (.aload_n 0, 1) := by decide +kernel
theorem dX4_seenCount_12 : decode cX4_seenCount 12 = .ok (.iload_n 1, 1) := by decide +kernel
theorem dX4_seenCount_13 : decode cX4_seenCount 13 = .ok (.iload_n 3, 1) := by decide +kernel
theorem dX4_seenCount_14 : decode cX4_seenCount 14 = .ok (.invokevirtual 112, 3) := by decide +kernel
theorem dX4_seenCount_17 : decode cX4_seenCount 17 = .ok (.ifCond .eq 7, 3) := by decide +kernel
theorem dX4_seenCount_20 : decode cX4_seenCount 20 = .ok (.iconst 1, 1) := by decide +kernel
theorem dX4_seenCount_21 : decode cX4_seenCount 21 = .ok (.goto 4, 3) := by decide +kernel
theorem dX4_seenCount_24 : decode cX4_seenCount 24 = .ok (.iconst 0, 1) := by decide +kernel
theorem dX4_seenCount_25 : decode cX4_seenCount 25 = .ok (.iadd, 1) := by decide +kernel
theorem dX4_seenCount_26 : decode cX4_seenCount 26 = .ok (.istore_n 2, 1) := by decide +kernel
theorem dX4_seenCount_27 : decode cX4_seenCount 27 = .ok (.iinc 3 1, 3) := by decide +kernel
theorem dX4_seenCount_30 : decode cX4_seenCount 30 = .ok (.goto (-26), 3) := by decide +kernel
theorem dX4_seenCount_33 : decode cX4_seenCount 33 = .ok (.iload_n 2, 1) := by decide +kernel
theorem dX4_seenCount_34 : decode cX4_seenCount 34 = .ok (.ireturn, 1) := by decide +kernel
theorem dX4_unitCount_0 : decode cX4_unitCount 0 = .ok (.iconst 0, 1) := by decide +kernel
theorem dX4_unitCount_1 : decode cX4_unitCount 1 = .ok (.istore_n 2, 1) := by decide +kernel
theorem dX4_unitCount_2 : decode cX4_unitCount 2 = .ok (.iconst 0, 1) := by decide +kernel
theorem dX4_unitCount_3 : decode cX4_unitCount 3 = .ok (.istore_n 3, 1) := by decide +kernel
theorem dX4_unitCount_4 : decode cX4_unitCount 4 = .ok (.iload_n 3, 1) := by decide +kernel
theorem dX4_unitCount_5 : decode cX4_unitCount 5 = .ok (.aload_n 0, 1) := by decide +kernel
theorem dX4_unitCount_6 : decode cX4_unitCount 6 = .ok (.getfield 61, 3) := by decide +kernel
theorem dX4_unitCount_9 : decode cX4_unitCount 9 = .ok (.if_icmp .ge 26, 3) := by decide +kernel
theorem dX4_unitCount_12 : decode cX4_unitCount 12 = .ok (.iload_n 2, 1) := by decide +kernel
theorem dX4_unitCount_13 : decode cX4_unitCount 13 = .ok (.aload_n 0, 1) := by decide +kernel
theorem dX4_unitCount_14 : decode cX4_unitCount 14 = .ok (.iload_n 3, 1) := by decide +kernel
theorem dX4_unitCount_15 : decode cX4_unitCount 15 = .ok (.iload_n 1, 1) := by decide +kernel
theorem dX4_unitCount_16 : decode cX4_unitCount 16 = .ok (.invokevirtual 93, 3) := by decide +kernel
theorem dX4_unitCount_19 : decode cX4_unitCount 19 = .ok (.ifCond .eq 7, 3) := by decide +kernel
theorem dX4_unitCount_22 : decode cX4_unitCount 22 = .ok (.iconst 1, 1) := by decide +kernel
theorem dX4_unitCount_23 : decode cX4_unitCount 23 = .ok (.goto 4, 3) := by decide +kernel
theorem dX4_unitCount_26 : decode cX4_unitCount 26 = .ok (.iconst 0, 1) := by decide +kernel
theorem dX4_unitCount_27 : decode cX4_unitCount 27 = .ok (.iadd, 1) := by decide +kernel
theorem dX4_unitCount_28 : decode cX4_unitCount 28 = .ok (.istore_n 2, 1) := by decide +kernel
theorem dX4_unitCount_29 : decode cX4_unitCount 29 = .ok (.iinc 3 1, 3) := by decide +kernel
theorem dX4_unitCount_32 : decode cX4_unitCount 32 = .ok (.goto (-28), 3) := by decide +kernel
theorem dX4_unitCount_35 : decode cX4_unitCount 35 = .ok (.iload_n 2, 1) := by decide +kernel
theorem dX4_unitCount_36 : decode cX4_unitCount 36 = .ok (.ireturn, 1) := by decide +kernel
theorem dX4_strengthOf_0 : decode cX4_strengthOf 0 = .ok (.iconst 0, 1) := by decide +kernel
theorem dX4_strengthOf_1 : decode cX4_strengthOf 1 = .ok (.istore_n 2, 1) := by decide +kernel
theorem dX4_strengthOf_2 : decode cX4_strengthOf 2 = .ok (.iconst 0, 1) := by decide +kernel
theorem dX4_strengthOf_3 : decode cX4_strengthOf 3 = .ok (.istore_n 3, 1) := by decide +kernel
theorem dX4_strengthOf_4 : decode cX4_strengthOf 4 = .ok (.iload_n 3, 1) := by decide +kernel
theorem dX4_strengthOf_5 : decode cX4_strengthOf 5 = .ok (.aload_n 0, 1) := by decide +kernel
theorem dX4_strengthOf_6 : decode cX4_strengthOf 6 = .ok (.getfield 61, 3) := by decide +kernel
theorem dX4_strengthOf_9 : decode cX4_strengthOf 9 = .ok (.if_icmp .ge 31, 3) := by decide +kernel
theorem dX4_strengthOf_12 : decode cX4_strengthOf 12 = .ok (.iload_n 2, 1) := by decide +kernel
theorem dX4_strengthOf_13 : decode cX4_strengthOf 13 = .ok (.aload_n 0, 1) := by decide +kernel
theorem dX4_strengthOf_14 : decode cX4_strengthOf 14 = .ok (.iload_n 3, 1) := by decide +kernel
theorem dX4_strengthOf_15 : decode cX4_strengthOf 15 = .ok (.iload_n 1, 1) := by decide +kernel
theorem dX4_strengthOf_16 : decode cX4_strengthOf 16 = .ok (.invokevirtual 93, 3) := by decide +kernel
theorem dX4_strengthOf_19 : decode cX4_strengthOf 19 = .ok (.ifCond .eq 12, 3) := by decide +kernel
theorem dX4_strengthOf_22 : decode cX4_strengthOf 22 = .ok (.aload_n 0, 1) := by decide +kernel
theorem dX4_strengthOf_23 : decode cX4_strengthOf 23 = .ok (.getfield 30, 3) := by decide +kernel
theorem dX4_strengthOf_26 : decode cX4_strengthOf 26 = .ok (.iload_n 3, 1) := by decide +kernel
theorem dX4_strengthOf_27 : decode cX4_strengthOf 27 = .ok (.iaload, 1) := by decide +kernel
theorem dX4_strengthOf_28 : decode cX4_strengthOf 28 = .ok (.goto 4, 3) := by decide +kernel
theorem dX4_strengthOf_31 : decode cX4_strengthOf 31 = .ok (.iconst 0, 1) := by decide +kernel
theorem dX4_strengthOf_32 : decode cX4_strengthOf 32 = .ok (.iadd, 1) := by decide +kernel
theorem dX4_strengthOf_33 : decode cX4_strengthOf 33 = .ok (.istore_n 2, 1) := by decide +kernel
theorem dX4_strengthOf_34 : decode cX4_strengthOf 34 = .ok (.iinc 3 1, 3) := by decide +kernel
theorem dX4_strengthOf_37 : decode cX4_strengthOf 37 = .ok (.goto (-33), 3) := by decide +kernel
theorem dX4_strengthOf_40 : decode cX4_strengthOf 40 = .ok (.iload_n 2, 1) := by decide +kernel
theorem dX4_strengthOf_41 : decode cX4_strengthOf 41 = .ok (.ireturn, 1) := by decide +kernel
theorem dX4_fortCount_0 : decode cX4_fortCount 0 = .ok (.iconst 0, 1) := by decide +kernel
theorem dX4_fortCount_1 : decode cX4_fortCount 1 = .ok (.istore_n 2, 1) := by decide +kernel
theorem dX4_fortCount_2 : decode cX4_fortCount 2 = .ok (.iconst 0, 1) := by decide +kernel
theorem dX4_fortCount_3 : decode cX4_fortCount 3 = .ok (.istore_n 3, 1) := by decide +kernel
theorem dX4_fortCount_4 : decode cX4_fortCount 4 = .ok (.iload_n 3, 1) := by decide +kernel
theorem dX4_fortCount_5 : decode cX4_fortCount 5 = .ok (.bipush 63, 2) := by decide +kernel
theorem dX4_fortCount_7 : decode cX4_fortCount 7 = .ok (.if_icmp .ge 27, 3) := by decide +kernel
theorem dX4_fortCount_10 : decode cX4_fortCount 10 = .ok (.iload_n 2, 1) := by decide +kernel
theorem dX4_fortCount_11 : decode cX4_fortCount 11 = .ok (.aload_n 0, 1) := by decide +kernel
theorem dX4_fortCount_12 : decode cX4_fortCount 12 = .ok (.getfield 18, 3) := by decide +kernel
theorem dX4_fortCount_15 : decode cX4_fortCount 15 = .ok (.iload_n 3, 1) := by decide +kernel
theorem dX4_fortCount_16 : decode cX4_fortCount 16 = .ok (.iaload, 1) := by decide +kernel
theorem dX4_fortCount_17 : decode cX4_fortCount 17 = .ok (.iload_n 1, 1) := by decide +kernel
theorem dX4_fortCount_18 : decode cX4_fortCount 18 = .ok (.if_icmp .ne 7, 3) := by decide +kernel
theorem dX4_fortCount_21 : decode cX4_fortCount 21 = .ok (.iconst 1, 1) := by decide +kernel
theorem dX4_fortCount_22 : decode cX4_fortCount 22 = .ok (.goto 4, 3) := by decide +kernel
theorem dX4_fortCount_25 : decode cX4_fortCount 25 = .ok (.iconst 0, 1) := by decide +kernel
theorem dX4_fortCount_26 : decode cX4_fortCount 26 = .ok (.iadd, 1) := by decide +kernel
theorem dX4_fortCount_27 : decode cX4_fortCount 27 = .ok (.istore_n 2, 1) := by decide +kernel
theorem dX4_fortCount_28 : decode cX4_fortCount 28 = .ok (.iinc 3 1, 3) := by decide +kernel
theorem dX4_fortCount_31 : decode cX4_fortCount 31 = .ok (.goto (-27), 3) := by decide +kernel
theorem dX4_fortCount_34 : decode cX4_fortCount 34 = .ok (.iload_n 2, 1) := by decide +kernel
theorem dX4_fortCount_35 : decode cX4_fortCount 35 = .ok (.ireturn, 1) := by decide +kernel
theorem dX4_riverCount_0 : decode cX4_riverCount 0 = .ok (.iconst 0, 1) := by decide +kernel
theorem dX4_riverCount_1 : decode cX4_riverCount 1 = .ok (.istore_n 1, 1) := by decide +kernel
theorem dX4_riverCount_2 : decode cX4_riverCount 2 = .ok (.iconst 0, 1) := by decide +kernel
theorem dX4_riverCount_3 : decode cX4_riverCount 3 = .ok (.istore_n 2, 1) := by decide +kernel
theorem dX4_riverCount_4 : decode cX4_riverCount 4 = .ok (.iload_n 2, 1) := by decide +kernel
theorem dX4_riverCount_5 : decode cX4_riverCount 5 = .ok (.bipush 63, 2) := by decide +kernel
theorem dX4_riverCount_7 : decode cX4_riverCount 7 = .ok (.if_icmp .ge 21, 3) := by decide +kernel
theorem dX4_riverCount_10 : decode cX4_riverCount 10 = .ok (.iload_n 1, 1) := by decide +kernel
theorem dX4_riverCount_11 : decode cX4_riverCount 11 = .ok (.aload_n 0, 1) := by decide +kernel
theorem dX4_riverCount_12 : decode cX4_riverCount 12 = .ok (.getfield 15, 3) := by decide +kernel
theorem dX4_riverCount_15 : decode cX4_riverCount 15 = .ok (.iload_n 2, 1) := by decide +kernel
theorem dX4_riverCount_16 : decode cX4_riverCount 16 = .ok (.iaload, 1) := by decide +kernel
theorem dX4_riverCount_17 : decode cX4_riverCount 17 = .ok (.invokestatic 115, 3) := by decide +kernel
theorem dX4_riverCount_20 : decode cX4_riverCount 20 = .ok (.iadd, 1) := by decide +kernel
theorem dX4_riverCount_21 : decode cX4_riverCount 21 = .ok (.istore_n 1, 1) := by decide +kernel
theorem dX4_riverCount_22 : decode cX4_riverCount 22 = .ok (.iinc 2 1, 3) := by decide +kernel
theorem dX4_riverCount_25 : decode cX4_riverCount 25 = .ok (.goto (-21), 3) := by decide +kernel
theorem dX4_riverCount_28 : decode cX4_riverCount 28 = .ok (.iload_n 1, 1) := by decide +kernel
theorem dX4_riverCount_29 : decode cX4_riverCount 29 = .ok (.iconst 2, 1) := by decide +kernel
theorem dX4_riverCount_30 : decode cX4_riverCount 30 = .ok (.idiv, 1) := by decide +kernel
theorem dX4_riverCount_31 : decode cX4_riverCount 31 = .ok (.ireturn, 1) := by decide +kernel
theorem dX5_init_0 : decode cX5_init 0 = .ok (.aload_n 0, 1) := by decide +kernel
theorem dX5_init_1 : decode cX5_init 1 = .ok (.invokespecial 1, 3) := by decide +kernel
theorem dX5_init_4 : decode cX5_init 4 = .ok (.aload_n 0, 1) := by decide +kernel
theorem dX5_init_5 : decode cX5_init 5 = .ok (.bipush 63, 2) := by decide +kernel
theorem dX5_init_7 : decode cX5_init 7 = .ok (.newarray .int, 2) := by decide +kernel
theorem dX5_init_9 : decode cX5_init 9 = .ok (.putfield 9, 3) := by decide +kernel
theorem dX5_init_12 : decode cX5_init 12 = .ok (.aload_n 0, 1) := by decide +kernel
theorem dX5_init_13 : decode cX5_init 13 = .ok (.bipush 63, 2) := by decide +kernel
theorem dX5_init_15 : decode cX5_init 15 = .ok (.newarray .boolean, 2) := by decide +kernel
theorem dX5_init_17 : decode cX5_init 17 = .ok (.putfield 15, 3) := by decide +kernel
theorem dX5_init_20 : decode cX5_init 20 = .ok (.aload_n 0, 1) := by decide +kernel
theorem dX5_init_21 : decode cX5_init 21 = .ok (.aload_n 1, 1) := by decide +kernel
theorem dX5_init_22 : decode cX5_init 22 = .ok (.putfield 19, 3) := by decide +kernel
theorem dX5_init_25 : decode cX5_init 25 = .ok (.return_, 1) := by decide +kernel
theorem dX5_measure_0 : decode cX5_measure 0 = .ok (.iconst 0, 1) := by decide +kernel
theorem dX5_measure_1 : decode cX5_measure 1 = .ok (.istore_n 3, 1) := by decide +kernel
theorem dX5_measure_2 : decode cX5_measure 2 = .ok (.iload_n 3, 1) := by decide +kernel
theorem dX5_measure_3 : decode cX5_measure 3 = .ok (.bipush 63, 2) := by decide +kernel
theorem dX5_measure_5 : decode cX5_measure 5 = .ok (.if_icmp .ge 75, 3) := by decide +kernel
theorem dX5_measure_8 : decode cX5_measure 8 = .ok (.aload_n 0, 1) := by decide +kernel
theorem dX5_measure_9 : decode cX5_measure 9 = .ok (.getfield 15, 3) := by decide +kernel
theorem dX5_measure_12 : decode cX5_measure 12 = .ok (.iload_n 3, 1) := by decide +kernel
theorem dX5_measure_13 : decode cX5_measure 13 = .ok (.aload_n 1, 1) := by decide +kernel
theorem dX5_measure_14 : decode cX5_measure 14 = .ok (.iload_n 2, 1) := by decide +kernel
theorem dX5_measure_15 : decode cX5_measure 15 = .ok (.iload_n 3, 1) := by decide +kernel
theorem dX5_measure_16 : decode cX5_measure 16 = .ok (.invokestatic 23, 3) := by decide +kernel
theorem dX5_measure_19 : decode cX5_measure 19 = .ok (.bastore, 1) := by decide +kernel
theorem dX5_measure_20 : decode cX5_measure 20 = .ok (.aload_n 1, 1) := by decide +kernel
theorem dX5_measure_21 : decode cX5_measure 21 = .ok (.getfield 27, 3) := by decide +kernel
theorem dX5_measure_24 : decode cX5_measure 24 = .ok (.iload_n 2, 1) := by decide +kernel
theorem dX5_measure_25 : decode cX5_measure 25 = .ok (.iaload, 1) := by decide +kernel
theorem dX5_measure_26 : decode cX5_measure 26 = .ok (.iload_n 3, 1) := by decide +kernel
theorem dX5_measure_27 : decode cX5_measure 27 = .ok (.if_icmp .eq 13, 3) := by decide +kernel
theorem dX5_measure_30 : decode cX5_measure 30 = .ok (.aload_n 1, 1) := by decide +kernel
theorem dX5_measure_31 : decode cX5_measure 31 = .ok (.getfield 32, 3) := by decide +kernel
theorem dX5_measure_34 : decode cX5_measure 34 = .ok (.iload_n 3, 1) := by decide +kernel
theorem dX5_measure_35 : decode cX5_measure 35 = .ok (.iaload, 1) := by decide +kernel
theorem dX5_measure_36 : decode cX5_measure 36 = .ok (.iload_n 2, 1) := by decide +kernel
theorem dX5_measure_37 : decode cX5_measure 37 = .ok (.if_icmp .ne 7, 3) := by decide +kernel
theorem dX5_measure_40 : decode cX5_measure 40 = .ok (.iconst 1, 1) := by decide +kernel
theorem dX5_measure_41 : decode cX5_measure 41 = .ok (.goto 4, 3) := by decide +kernel
theorem dX5_measure_44 : decode cX5_measure 44 = .ok (.iconst 0, 1) := by decide +kernel
theorem dX5_measure_45 : decode cX5_measure 45 = .ok (.istore 4, 2) := by decide +kernel
theorem dX5_measure_47 : decode cX5_measure 47 = .ok (.aload_n 0, 1) := by decide +kernel
theorem dX5_measure_48 : decode cX5_measure 48 = .ok (.getfield 9, 3) := by decide +kernel
theorem dX5_measure_51 : decode cX5_measure 51 = .ok (.iload_n 3, 1) := by decide +kernel
theorem dX5_measure_52 : decode cX5_measure 52 = .ok (.iload 4, 2) := by decide +kernel
theorem dX5_measure_54 : decode cX5_measure 54 = .ok (.ifCond .eq 16, 3) := by decide +kernel
theorem dX5_measure_57 : decode cX5_measure 57 = .ok (.aload_n 0, 1) := by decide +kernel
theorem dX5_measure_58 : decode cX5_measure 58 = .ok (.getfield 15, 3) := by decide +kernel
theorem dX5_measure_61 : decode cX5_measure 61 = .ok (.iload_n 3, 1) := by decide +kernel
theorem dX5_measure_62 : decode cX5_measure 62 = .ok (.baload, 1) := by decide +kernel
theorem dX5_measure_63 : decode cX5_measure 63 = .ok (.ifCond .eq 7, 3) := by decide +kernel
theorem dX5_measure_66 : decode cX5_measure 66 = .ok (.iconst 0, 1) := by decide +kernel
theorem dX5_measure_67 : decode cX5_measure 67 = .ok (.goto 6, 3) := by decide +kernel
theorem dX5_measure_70 : decode cX5_measure 70 = .ok (.sipush 1000, 3) := by decide +kernel
theorem dX5_measure_73 : decode cX5_measure 73 = .ok (.iastore, 1) := by decide +kernel
theorem dX5_measure_74 : decode cX5_measure 74 = .ok (.iinc 3 1, 3) := by decide +kernel
theorem dX5_measure_77 : decode cX5_measure 77 = .ok (.goto (-75), 3) := by decide +kernel
theorem dX5_measure_80 : decode cX5_measure 80 = .ok (.iconst 0, 1) := by decide +kernel
theorem dX5_measure_81 : decode cX5_measure 81 = .ok (.istore_n 3, 1) := by decide +kernel
theorem dX5_measure_82 : decode cX5_measure 82 = .ok (.iload_n 3, 1) := by decide +kernel
theorem dX5_measure_83 : decode cX5_measure 83 = .ok (.bipush 6, 2) := by decide +kernel
theorem dX5_measure_85 : decode cX5_measure 85 = .ok (.if_icmp .ge 42, 3) := by decide +kernel
theorem dX5_measure_88 : decode cX5_measure 88 = .ok (.iconst 0, 1) := by decide +kernel
theorem dX5_measure_89 : decode cX5_measure 89 = .ok (.istore 4, 2) := by decide +kernel
theorem dX5_measure_91 : decode cX5_measure 91 = .ok (.iload 4, 2) := by decide +kernel
theorem dX5_measure_93 : decode cX5_measure 93 = .ok (.bipush 63, 2) := by decide +kernel
theorem dX5_measure_95 : decode cX5_measure 95 = .ok (.if_icmp .ge 26, 3) := by decide +kernel
theorem dX5_measure_98 : decode cX5_measure 98 = .ok (.aload_n 0, 1) := by decide +kernel
theorem dX5_measure_99 : decode cX5_measure 99 = .ok (.getfield 9, 3) := by decide +kernel
theorem dX5_measure_102 : decode cX5_measure 102 = .ok (.iload 4, 2) := by decide +kernel
theorem dX5_measure_104 : decode cX5_measure 104 = .ok (.iaload, 1) := by decide +kernel
theorem dX5_measure_105 : decode cX5_measure 105 = .ok (.iload_n 3, 1) := by decide +kernel
theorem dX5_measure_106 : decode cX5_measure 106 = .ok (.if_icmp .ne 9, 3) := by decide +kernel
theorem dX5_measure_109 : decode cX5_measure 109 = .ok (.aload_n 0, 1) := by decide +kernel
theorem dX5_measure_110 : decode cX5_measure 110 = .ok (.iload 4, 2) := by decide +kernel
theorem dX5_measure_112 : decode cX5_measure 112 = .ok (.invokevirtual 35, 3) := by decide +kernel
theorem dX5_measure_115 : decode cX5_measure 115 = .ok (.iinc 4 1, 3) := by decide +kernel
theorem dX5_measure_118 : decode cX5_measure 118 = .ok (.goto (-27), 3) := by decide +kernel
theorem dX5_measure_121 : decode cX5_measure 121 = .ok (.iinc 3 1, 3) := by decide +kernel
theorem dX5_measure_124 : decode cX5_measure 124 = .ok (.goto (-42), 3) := by decide +kernel
theorem dX5_measure_127 : decode cX5_measure 127 = .ok (.return_, 1) := by decide +kernel
theorem dX5_spread_0 : decode cX5_spread 0 = .ok (.iconst 0, 1) := by decide +kernel
theorem dX5_spread_1 : decode cX5_spread 1 = .ok (.istore_n 2, 1) := by decide +kernel
theorem dX5_spread_2 : decode cX5_spread 2 = .ok (.iload_n 2, 1) := by decide +kernel
theorem dX5_spread_3 : decode cX5_spread 3 = .ok (.bipush 6, 2) := by decide +kernel
theorem dX5_spread_5 : decode cX5_spread 5 = .ok (.if_icmp .ge 66, 3) := by decide +kernel
theorem dX5_spread_8 : decode cX5_spread 8 = .ok (.aload_n 0, 1) := by decide +kernel
theorem dX5_spread_9 : decode cX5_spread 9 = .ok (.getfield 19, 3) := by decide +kernel
theorem dX5_spread_12 : decode cX5_spread 12 = .ok (.getfield 39, 3) := by decide +kernel
theorem dX5_spread_15 : decode cX5_spread 15 = .ok (.iload_n 1, 1) := by decide +kernel
theorem dX5_spread_16 : decode cX5_spread 16 = .ok (.bipush 6, 2) := by decide +kernel
theorem dX5_spread_18 : decode cX5_spread 18 = .ok (.imul, 1) := by decide +kernel
theorem dX5_spread_19 : decode cX5_spread 19 = .ok (.iload_n 2, 1) := by decide +kernel
theorem dX5_spread_20 : decode cX5_spread 20 = .ok (.iadd, 1) := by decide +kernel
theorem dX5_spread_21 : decode cX5_spread 21 = .ok (.iaload, 1) := by decide +kernel
theorem dX5_spread_22 : decode cX5_spread 22 = .ok (.istore_n 3, 1) := by decide +kernel
theorem dX5_spread_23 : decode cX5_spread 23 = .ok (.iload_n 3, 1) := by decide +kernel
theorem dX5_spread_24 : decode cX5_spread 24 = .ok (.invokestatic 42, 3) := by decide +kernel
theorem dX5_spread_27 : decode cX5_spread 27 = .ok (.ifCond .eq 38, 3) := by decide +kernel
theorem dX5_spread_30 : decode cX5_spread 30 = .ok (.aload_n 0, 1) := by decide +kernel
theorem dX5_spread_31 : decode cX5_spread 31 = .ok (.getfield 15, 3) := by decide +kernel
theorem dX5_spread_34 : decode cX5_spread 34 = .ok (.iload_n 3, 1) := by decide +kernel
theorem dX5_spread_35 : decode cX5_spread 35 = .ok (.baload, 1) := by decide +kernel
theorem dX5_spread_36 : decode cX5_spread 36 = .ok (.ifCond .eq 29, 3) := by decide +kernel
theorem dX5_spread_39 : decode cX5_spread 39 = .ok (.aload_n 0, 1) := by decide +kernel
theorem dX5_spread_40 : decode cX5_spread 40 = .ok (.getfield 9, 3) := by decide +kernel
theorem dX5_spread_43 : decode cX5_spread 43 = .ok (.iload_n 3, 1) := by decide +kernel
theorem dX5_spread_44 : decode cX5_spread 44 = .ok (.iaload, 1) := by decide +kernel
theorem dX5_spread_45 : decode cX5_spread 45 = .ok (.sipush 1000, 3) := by decide +kernel
theorem dX5_spread_48 : decode cX5_spread 48 = .ok (.if_icmp .ne 17, 3) := by decide +kernel
theorem dX5_spread_51 : decode cX5_spread 51 = .ok (.aload_n 0, 1) := by decide +kernel
theorem dX5_spread_52 : decode cX5_spread 52 = .ok (.getfield 9, 3) := by decide +kernel
theorem dX5_spread_55 : decode cX5_spread 55 = .ok (.iload_n 3, 1) := by decide +kernel
theorem dX5_spread_56 : decode cX5_spread 56 = .ok (.aload_n 0, 1) := by decide +kernel
theorem dX5_spread_57 : decode cX5_spread 57 = .ok (.getfield 9, 3) := by decide +kernel
theorem dX5_spread_60 : decode cX5_spread 60 = .ok (.iload_n 1, 1) := by decide +kernel
theorem dX5_spread_61 : decode cX5_spread 61 = .ok (.iaload, 1) := by decide +kernel
theorem dX5_spread_62 : decode cX5_spread 62 = .ok (.iconst 1, 1) := by decide +kernel
theorem dX5_spread_63 : decode cX5_spread 63 = .ok (.iadd, 1) := by decide +kernel
theorem dX5_spread_64 : decode cX5_spread 64 = .ok (.iastore, 1) := by decide +kernel
theorem dX5_spread_65 : decode cX5_spread 65 = .ok (.iinc 2 1, 3) := by decide +kernel
theorem dX5_spread_68 : decode cX5_spread 68 = .ok (.goto (-66), 3) := by decide +kernel
theorem dX5_spread_71 : decode cX5_spread 71 = .ok (.return_, 1) := by decide +kernel
theorem dX5_isFree_0 : decode cX5_isFree 0 = .ok (.aload_n 0, 1) := by decide +kernel
theorem dX5_isFree_1 : decode cX5_isFree 1 = .ok (.iload_n 2, 1) := by decide +kernel
theorem dX5_isFree_2 : decode cX5_isFree 2 = .ok (.invokevirtual 46, 3) := by decide +kernel
theorem dX5_isFree_5 : decode cX5_isFree 5 = .ok (.istore_n 3, 1) := by decide +kernel
theorem dX5_isFree_6 : decode cX5_isFree 6 = .ok (.iload_n 3, 1) := by decide +kernel
theorem dX5_isFree_7 : decode cX5_isFree 7 = .ok (.iload_n 1, 1) := by decide +kernel
theorem dX5_isFree_8 : decode cX5_isFree 8 = .ok (.if_icmp .eq 19, 3) := by decide +kernel
theorem dX5_isFree_11 : decode cX5_isFree 11 = .ok (.iload_n 3, 1) := by decide +kernel
theorem dX5_isFree_12 : decode cX5_isFree 12 = .ok (.iconst (-1), 1) := by decide +kernel
theorem dX5_isFree_13 : decode cX5_isFree 13 = .ok (.if_icmp .ne 18, 3) := by decide +kernel
theorem dX5_isFree_16 : decode cX5_isFree 16 = .ok (.aload_n 0, 1) := by decide +kernel
theorem dX5_isFree_17 : decode cX5_isFree 17 = .ok (.iconst 1, 1) := by decide +kernel
theorem dX5_isFree_18 : decode cX5_isFree 18 = .ok (.iload_n 1, 1) := by decide +kernel
theorem dX5_isFree_19 : decode cX5_isFree 19 = .ok (.isub, 1) := by decide +kernel
theorem dX5_isFree_20 : decode cX5_isFree 20 = .ok (.iload_n 2, 1) := by decide +kernel
theorem dX5_isFree_21 : decode cX5_isFree 21 = .ok (.invokevirtual 50, 3) := by decide +kernel
theorem dX5_isFree_24 : decode cX5_isFree 24 = .ok (.ifCond .ne 7, 3) := by decide +kernel
theorem dX5_isFree_27 : decode cX5_isFree 27 = .ok (.iconst 1, 1) := by decide +kernel
theorem dX5_isFree_28 : decode cX5_isFree 28 = .ok (.goto 4, 3) := by decide +kernel
theorem dX5_isFree_31 : decode cX5_isFree 31 = .ok (.iconst 0, 1) := by decide +kernel
theorem dX5_isFree_32 : decode cX5_isFree 32 = .ok (.ireturn, 1) := by decide +kernel
theorem dX5_reaches_0 : decode cX5_reaches 0 = .ok (.aload_n 0, 1) := by decide +kernel
theorem dX5_reaches_1 : decode cX5_reaches 1 = .ok (.getfield 9, 3) := by decide +kernel
theorem dX5_reaches_4 : decode cX5_reaches 4 = .ok (.iload_n 1, 1) := by decide +kernel
theorem dX5_reaches_5 : decode cX5_reaches 5 = .ok (.iaload, 1) := by decide +kernel
theorem dX5_reaches_6 : decode cX5_reaches 6 = .ok (.sipush 1000, 3) := by decide +kernel
theorem dX5_reaches_9 : decode cX5_reaches 9 = .ok (.if_icmp .eq 7, 3) := by decide +kernel
theorem dX5_reaches_12 : decode cX5_reaches 12 = .ok (.iconst 1, 1) := by decide +kernel
theorem dX5_reaches_13 : decode cX5_reaches 13 = .ok (.goto 4, 3) := by decide +kernel
theorem dX5_reaches_16 : decode cX5_reaches 16 = .ok (.iconst 0, 1) := by decide +kernel
theorem dX5_reaches_17 : decode cX5_reaches 17 = .ok (.ireturn, 1) := by decide +kernel
theorem dX6_init_0 : decode cX6_init 0 = .ok (.aload_n 0, 1) := by decide +kernel
theorem dX6_init_1 : decode cX6_init 1 = .ok (.invokespecial 1, 3) := by decide +kernel
theorem dX6_init_4 : decode cX6_init 4 = .ok (.aload_n 0, 1) := by decide +kernel
theorem dX6_init_5 : decode cX6_init 5 = .ok (.bipush 63, 2) := by decide +kernel
theorem dX6_init_7 : decode cX6_init 7 = .ok (.newarray .int, 2) := by decide +kernel
theorem dX6_init_9 : decode cX6_init 9 = .ok (.putfield 9, 3) := by decide +kernel
theorem dX6_init_12 : decode cX6_init 12 = .ok (.aload_n 0, 1) := by decide +kernel
theorem dX6_init_13 : decode cX6_init 13 = .ok (.aload_n 1, 1) := by decide +kernel
theorem dX6_init_14 : decode cX6_init 14 = .ok (.putfield 15, 3) := by decide +kernel
theorem dX6_init_17 : decode cX6_init 17 = .ok (.return_, 1) := by decide +kernel
theorem dX6_measure_0 : decode cX6_measure 0 = .ok (.aload_n 1, 1) := by decide +kernel
theorem dX6_measure_1 : decode cX6_measure 1 = .ok (.getfield 19, 3) := by decide +kernel
theorem dX6_measure_4 : decode cX6_measure 4 = .ok (.iload_n 2, 1) := by decide +kernel
theorem dX6_measure_5 : decode cX6_measure 5 = .ok (.iaload, 1) := by decide +kernel
theorem dX6_measure_6 : decode cX6_measure 6 = .ok (.istore_n 3, 1) := by decide +kernel
theorem dX6_measure_7 : decode cX6_measure 7 = .ok (.iconst 1, 1) := by decide +kernel
theorem dX6_measure_8 : decode cX6_measure 8 = .ok (.aload_n 1, 1) := by decide +kernel
theorem dX6_measure_9 : decode cX6_measure 9 = .ok (.getfield 24, 3) := by decide +kernel
theorem dX6_measure_12 : decode cX6_measure 12 = .ok (.iload_n 2, 1) := by decide +kernel
theorem dX6_measure_13 : decode cX6_measure 13 = .ok (.iaload, 1) := by decide +kernel
theorem dX6_measure_14 : decode cX6_measure 14 = .ok (.isub, 1) := by decide +kernel
theorem dX6_measure_15 : decode cX6_measure 15 = .ok (.istore 4, 2) := by decide +kernel
theorem dX6_measure_17 : decode cX6_measure 17 = .ok (.aload_n 0, 1) := by decide +kernel
theorem dX6_measure_18 : decode cX6_measure 18 = .ok (.getfield 9, 3) := by decide +kernel
theorem dX6_measure_21 : decode cX6_measure 21 = .ok (.sipush 1000, 3) := by decide +kernel
theorem dX6_measure_24 : decode cX6_measure 24 = .ok (.invokestatic 27, 3) := by decide +kernel
theorem dX6_measure_27 : decode cX6_measure 27 = .ok (.aload_n 0, 1) := by decide +kernel
theorem dX6_measure_28 : decode cX6_measure 28 = .ok (.getfield 9, 3) := by decide +kernel
theorem dX6_measure_31 : decode cX6_measure 31 = .ok (.iload_n 3, 1) := by decide +kernel
theorem dX6_measure_32 : decode cX6_measure 32 = .ok (.iconst 0, 1) := by decide +kernel
theorem dX6_measure_33 : decode cX6_measure 33 = .ok (.iastore, 1) := by decide +kernel
theorem dX6_measure_34 : decode cX6_measure 34 = .ok (.iconst 0, 1) := by decide +kernel
theorem dX6_measure_35 : decode cX6_measure 35 = .ok (.istore 5, 2) := by decide +kernel
theorem dX6_measure_37 : decode cX6_measure 37 = .ok (.iload 5, 2) := by decide +kernel
theorem dX6_measure_39 : decode cX6_measure 39 = .ok (.aload_n 1, 1) := by decide +kernel
theorem dX6_measure_40 : decode cX6_measure 40 = .ok (.getfield 33, 3) := by decide +kernel
theorem dX6_measure_43 : decode cX6_measure 43 = .ok (.iload_n 2, 1) := by decide +kernel
theorem dX6_measure_44 : decode cX6_measure 44 = .ok (.iaload, 1) := by decide +kernel
theorem dX6_measure_45 : decode cX6_measure 45 = .ok (.if_icmp .ge 62, 3) := by decide +kernel
theorem dX6_measure_48 : decode cX6_measure 48 = .ok (.iconst 0, 1) := by decide +kernel
theorem dX6_measure_49 : decode cX6_measure 49 = .ok (.istore 6, 2) := by decide +kernel
theorem dX6_measure_51 : decode cX6_measure 51 = .ok (.iload 6, 2) := by decide +kernel
theorem dX6_measure_53 : decode cX6_measure 53 = .ok (.bipush 63, 2) := by decide +kernel
theorem dX6_measure_55 : decode cX6_measure 55 = .ok (.if_icmp .ge 46, 3) := by decide +kernel
theorem dX6_measure_58 : decode cX6_measure 58 = .ok (.aload_n 0, 1) := by decide +kernel
theorem dX6_measure_59 : decode cX6_measure 59 = .ok (.getfield 9, 3) := by decide +kernel
theorem dX6_measure_62 : decode cX6_measure 62 = .ok (.iload 6, 2) := by decide +kernel
theorem dX6_measure_64 : decode cX6_measure 64 = .ok (.iaload, 1) := by decide +kernel
theorem dX6_measure_65 : decode cX6_measure 65 = .ok (.iload 5, 2) := by decide +kernel
theorem dX6_measure_67 : decode cX6_measure 67 = .ok (.if_icmp .ne 28, 3) := by decide +kernel
theorem dX6_measure_70 : decode cX6_measure 70 = .ok (.iload 6, 2) := by decide +kernel
theorem dX6_measure_72 : decode cX6_measure 72 = .ok (.iload_n 3, 1) := by decide +kernel
theorem dX6_measure_73 : decode cX6_measure 73 = .ok (.if_icmp .eq 14, 3) := by decide +kernel
theorem dX6_measure_76 : decode cX6_measure 76 = .ok (.aload_n 1, 1) := by decide +kernel
theorem dX6_measure_77 : decode cX6_measure 77 = .ok (.iload 4, 2) := by decide +kernel
theorem dX6_measure_79 : decode cX6_measure 79 = .ok (.iload 6, 2) := by decide +kernel
theorem dX6_measure_81 : decode cX6_measure 81 = .ok (.invokevirtual 36, 3) := by decide +kernel
theorem dX6_measure_84 : decode cX6_measure 84 = .ok (.ifCond .ne 11, 3) := by decide +kernel
theorem dX6_measure_87 : decode cX6_measure 87 = .ok (.aload_n 0, 1) := by decide +kernel
theorem dX6_measure_88 : decode cX6_measure 88 = .ok (.aload_n 1, 1) := by decide +kernel
theorem dX6_measure_89 : decode cX6_measure 89 = .ok (.iload_n 2, 1) := by decide +kernel
theorem dX6_measure_90 : decode cX6_measure 90 = .ok (.iload 6, 2) := by decide +kernel
theorem dX6_measure_92 : decode cX6_measure 92 = .ok (.invokevirtual 40, 3) := by decide +kernel
theorem dX6_measure_95 : decode cX6_measure 95 = .ok (.iinc 6 1, 3) := by decide +kernel
theorem dX6_measure_98 : decode cX6_measure 98 = .ok (.goto (-47), 3) := by decide +kernel
theorem dX6_measure_101 : decode cX6_measure 101 = .ok (.iinc 5 1, 3) := by decide +kernel
theorem dX6_measure_104 : decode cX6_measure 104 = .ok (.goto (-67), 3) := by decide +kernel
theorem dX6_measure_107 : decode cX6_measure 107 = .ok (.return_, 1) := by decide +kernel
theorem dX6_goOn_0 : decode cX6_goOn 0 = .ok (.iconst 0, 1) := by decide +kernel
theorem dX6_goOn_1 : decode cX6_goOn 1 = .ok (.istore 4, 2) := by decide +kernel
theorem dX6_goOn_3 : decode cX6_goOn 3 = .ok (.iload 4, 2) := by decide +kernel
theorem dX6_goOn_5 : decode cX6_goOn 5 = .ok (.bipush 6, 2) := by decide +kernel
theorem dX6_goOn_7 : decode cX6_goOn 7 = .ok (.if_icmp .ge 104, 3) := by decide +kernel
theorem dX6_goOn_10 : decode cX6_goOn 10 = .ok (.aload_n 0, 1) := by decide +kernel
theorem dX6_goOn_11 : decode cX6_goOn 11 = .ok (.getfield 15, 3) := by decide +kernel
theorem dX6_goOn_14 : decode cX6_goOn 14 = .ok (.getfield 44, 3) := by decide +kernel
theorem dX6_goOn_17 : decode cX6_goOn 17 = .ok (.iload_n 3, 1) := by decide +kernel
theorem dX6_goOn_18 : decode cX6_goOn 18 = .ok (.bipush 6, 2) := by decide +kernel
theorem dX6_goOn_20 : decode cX6_goOn 20 = .ok (.imul, 1) := by decide +kernel
theorem dX6_goOn_21 : decode cX6_goOn 21 = .ok (.iload 4, 2) := by decide +kernel
theorem dX6_goOn_23 : decode cX6_goOn 23 = .ok (.iadd, 1) := by decide +kernel
theorem dX6_goOn_24 : decode cX6_goOn 24 = .ok (.iaload, 1) := by decide +kernel
theorem dX6_goOn_25 : decode cX6_goOn 25 = .ok (.istore 5, 2) := by decide +kernel
theorem dX6_goOn_27 : decode cX6_goOn 27 = .ok (.iload 5, 2) := by decide +kernel
theorem dX6_goOn_29 : decode cX6_goOn 29 = .ok (.invokestatic 47, 3) := by decide +kernel
theorem dX6_goOn_32 : decode cX6_goOn 32 = .ok (.ifCond .eq 73, 3) := by decide +kernel
theorem dX6_goOn_35 : decode cX6_goOn 35 = .ok (.aload_n 1, 1) := by decide +kernel
theorem dX6_goOn_36 : decode cX6_goOn 36 = .ok (.iload 5, 2) := by decide +kernel
theorem dX6_goOn_38 : decode cX6_goOn 38 = .ok (.invokevirtual 51, 3) := by decide +kernel
theorem dX6_goOn_41 : decode cX6_goOn 41 = .ok (.iconst 1, 1) := by decide +kernel
theorem dX6_goOn_42 : decode cX6_goOn 42 = .ok (.aload_n 1, 1) := by decide +kernel
theorem dX6_goOn_43 : decode cX6_goOn 43 = .ok (.getfield 24, 3) := by decide +kernel
theorem dX6_goOn_46 : decode cX6_goOn 46 = .ok (.iload_n 2, 1) := by decide +kernel
theorem dX6_goOn_47 : decode cX6_goOn 47 = .ok (.iaload, 1) := by decide +kernel
theorem dX6_goOn_48 : decode cX6_goOn 48 = .ok (.isub, 1) := by decide +kernel
theorem dX6_goOn_49 : decode cX6_goOn 49 = .ok (.if_icmp .ne 6, 3) := by decide +kernel
theorem dX6_goOn_52 : decode cX6_goOn 52 = .ok (.goto 53, 3) := by decide +kernel
theorem dX6_goOn_55 : decode cX6_goOn 55 = .ok (.aload_n 0, 1) := by decide +kernel
theorem dX6_goOn_56 : decode cX6_goOn 56 = .ok (.getfield 9, 3) := by decide +kernel
theorem dX6_goOn_59 : decode cX6_goOn 59 = .ok (.iload_n 3, 1) := by decide +kernel
theorem dX6_goOn_60 : decode cX6_goOn 60 = .ok (.iaload, 1) := by decide +kernel
theorem dX6_goOn_61 : decode cX6_goOn 61 = .ok (.aload_n 1, 1) := by decide +kernel
theorem dX6_goOn_62 : decode cX6_goOn 62 = .ok (.iload_n 3, 1) := by decide +kernel
theorem dX6_goOn_63 : decode cX6_goOn 63 = .ok (.iload 4, 2) := by decide +kernel
theorem dX6_goOn_65 : decode cX6_goOn 65 = .ok (.iload 5, 2) := by decide +kernel
theorem dX6_goOn_67 : decode cX6_goOn 67 = .ok (.invokestatic 55, 3) := by decide +kernel
theorem dX6_goOn_70 : decode cX6_goOn 70 = .ok (.iadd, 1) := by decide +kernel
theorem dX6_goOn_71 : decode cX6_goOn 71 = .ok (.istore 6, 2) := by decide +kernel
theorem dX6_goOn_73 : decode cX6_goOn 73 = .ok (.iload 6, 2) := by decide +kernel
theorem dX6_goOn_75 : decode cX6_goOn 75 = .ok (.aload_n 1, 1) := by decide +kernel
theorem dX6_goOn_76 : decode cX6_goOn 76 = .ok (.getfield 33, 3) := by decide +kernel
theorem dX6_goOn_79 : decode cX6_goOn 79 = .ok (.iload_n 2, 1) := by decide +kernel
theorem dX6_goOn_80 : decode cX6_goOn 80 = .ok (.iaload, 1) := by decide +kernel
theorem dX6_goOn_81 : decode cX6_goOn 81 = .ok (.if_icmp .gt 24, 3) := by decide +kernel
theorem dX6_goOn_84 : decode cX6_goOn 84 = .ok (.iload 6, 2) := by decide +kernel
theorem dX6_goOn_86 : decode cX6_goOn 86 = .ok (.aload_n 0, 1) := by decide +kernel
theorem dX6_goOn_87 : decode cX6_goOn 87 = .ok (.getfield 9, 3) := by decide +kernel
theorem dX6_goOn_90 : decode cX6_goOn 90 = .ok (.iload 5, 2) := by decide +kernel
theorem dX6_goOn_92 : decode cX6_goOn 92 = .ok (.iaload, 1) := by decide +kernel
theorem dX6_goOn_93 : decode cX6_goOn 93 = .ok (.if_icmp .ge 12, 3) := by decide +kernel
theorem dX6_goOn_96 : decode cX6_goOn 96 = .ok (.aload_n 0, 1) := by decide +kernel
theorem dX6_goOn_97 : decode cX6_goOn 97 = .ok (.getfield 9, 3) := by decide +kernel
theorem dX6_goOn_100 : decode cX6_goOn 100 = .ok (.iload 5, 2) := by decide +kernel
theorem dX6_goOn_102 : decode cX6_goOn 102 = .ok (.iload 6, 2) := by decide +kernel
theorem dX6_goOn_104 : decode cX6_goOn 104 = .ok (.iastore, 1) := by decide +kernel
theorem dX6_goOn_105 : decode cX6_goOn 105 = .ok (.iinc 4 1, 3) := by decide +kernel
theorem dX6_goOn_108 : decode cX6_goOn 108 = .ok (.goto (-105), 3) := by decide +kernel
theorem dX6_goOn_111 : decode cX6_goOn 111 = .ok (.return_, 1) := by decide +kernel
theorem dX6_costOfStep_0 : decode cX6_costOfStep 0 = .ok (.aload_n 0, 1) := by decide +kernel
theorem dX6_costOfStep_1 : decode cX6_costOfStep 1 = .ok (.getfield 59, 3) := by decide +kernel
theorem dX6_costOfStep_4 : decode cX6_costOfStep 4 = .ok (.iload_n 3, 1) := by decide +kernel
theorem dX6_costOfStep_5 : decode cX6_costOfStep 5 = .ok (.iaload, 1) := by decide +kernel
theorem dX6_costOfStep_6 : decode cX6_costOfStep 6 = .ok (.ifCond .ne 7, 3) := by decide +kernel
theorem dX6_costOfStep_9 : decode cX6_costOfStep 9 = .ok (.iconst 1, 1) := by decide +kernel
theorem dX6_costOfStep_10 : decode cX6_costOfStep 10 = .ok (.goto 4, 3) := by decide +kernel
theorem dX6_costOfStep_13 : decode cX6_costOfStep 13 = .ok (.iconst 2, 1) := by decide +kernel
theorem dX6_costOfStep_14 : decode cX6_costOfStep 14 = .ok (.istore 4, 2) := by decide +kernel
theorem dX6_costOfStep_16 : decode cX6_costOfStep 16 = .ok (.aload_n 0, 1) := by decide +kernel
theorem dX6_costOfStep_17 : decode cX6_costOfStep 17 = .ok (.iload_n 1, 1) := by decide +kernel
theorem dX6_costOfStep_18 : decode cX6_costOfStep 18 = .ok (.iload_n 2, 1) := by decide +kernel
theorem dX6_costOfStep_19 : decode cX6_costOfStep 19 = .ok (.invokevirtual 62, 3) := by decide +kernel
theorem dX6_costOfStep_22 : decode cX6_costOfStep 22 = .ok (.ifCond .eq 10, 3) := by decide +kernel
theorem dX6_costOfStep_25 : decode cX6_costOfStep 25 = .ok (.iload 4, 2) := by decide +kernel
theorem dX6_costOfStep_27 : decode cX6_costOfStep 27 = .ok (.iconst 1, 1) := by decide +kernel
theorem dX6_costOfStep_28 : decode cX6_costOfStep 28 = .ok (.iadd, 1) := by decide +kernel
theorem dX6_costOfStep_29 : decode cX6_costOfStep 29 = .ok (.goto 5, 3) := by decide +kernel
theorem dX6_costOfStep_32 : decode cX6_costOfStep 32 = .ok (.iload 4, 2) := by decide +kernel
theorem dX6_costOfStep_34 : decode cX6_costOfStep 34 = .ok (.ireturn, 1) := by decide +kernel
theorem dX6_canEndOn_0 : decode cX6_canEndOn 0 = .ok (.aload_n 0, 1) := by decide +kernel
theorem dX6_canEndOn_1 : decode cX6_canEndOn 1 = .ok (.getfield 9, 3) := by decide +kernel
theorem dX6_canEndOn_4 : decode cX6_canEndOn 4 = .ok (.iload_n 2, 1) := by decide +kernel
theorem dX6_canEndOn_5 : decode cX6_canEndOn 5 = .ok (.iaload, 1) := by decide +kernel
theorem dX6_canEndOn_6 : decode cX6_canEndOn 6 = .ok (.sipush 1000, 3) := by decide +kernel
theorem dX6_canEndOn_9 : decode cX6_canEndOn 9 = .ok (.if_icmp .eq 16, 3) := by decide +kernel
theorem dX6_canEndOn_12 : decode cX6_canEndOn 12 = .ok (.aload_n 1, 1) := by decide +kernel
theorem dX6_canEndOn_13 : decode cX6_canEndOn 13 = .ok (.iload_n 2, 1) := by decide +kernel
theorem dX6_canEndOn_14 : decode cX6_canEndOn 14 = .ok (.invokevirtual 51, 3) := by decide +kernel
theorem dX6_canEndOn_17 : decode cX6_canEndOn 17 = .ok (.iconst (-1), 1) := by decide +kernel
theorem dX6_canEndOn_18 : decode cX6_canEndOn 18 = .ok (.if_icmp .ne 7, 3) := by decide +kernel
theorem dX6_canEndOn_21 : decode cX6_canEndOn 21 = .ok (.iconst 1, 1) := by decide +kernel
theorem dX6_canEndOn_22 : decode cX6_canEndOn 22 = .ok (.goto 4, 3) := by decide +kernel
theorem dX6_canEndOn_25 : decode cX6_canEndOn 25 = .ok (.iconst 0, 1) := by decide +kernel
theorem dX6_canEndOn_26 : decode cX6_canEndOn 26 = .ok (.ireturn, 1) := by decide +kernel
theorem dX6_endCount_0 : decode cX6_endCount 0 = .ok (.iconst 0, 1) := by decide +kernel
theorem dX6_endCount_1 : decode cX6_endCount 1 = .ok (.istore_n 2, 1) := by decide +kernel
theorem dX6_endCount_2 : decode cX6_endCount 2 = .ok (.iconst 0, 1) := by decide +kernel
theorem dX6_endCount_3 : decode cX6_endCount 3 = .ok (.istore_n 3, 1) := by decide +kernel
theorem dX6_endCount_4 : decode cX6_endCount 4 = .ok (.iload_n 3, 1) := by decide +kernel
theorem dX6_endCount_5 : decode cX6_endCount 5 = .ok (.bipush 63, 2) := by decide +kernel
theorem dX6_endCount_7 : decode cX6_endCount 7 = .ok (.if_icmp .ge 26, 3) := by decide +kernel
theorem dX6_endCount_10 : decode cX6_endCount 10 = .ok (.iload_n 2, 1) := by decide +kernel
theorem dX6_endCount_11 : decode cX6_endCount 11 = .ok (.aload_n 0, 1) := by decide +kernel
theorem dX6_endCount_12 : decode cX6_endCount 12 = .ok (.aload_n 1, 1) := by decide +kernel
theorem dX6_endCount_13 : decode cX6_endCount 13 = .ok (.iload_n 3, 1) := by decide +kernel
theorem dX6_endCount_14 : decode cX6_endCount 14 = .ok (.invokevirtual 65, 3) := by decide +kernel
theorem dX6_endCount_17 : decode cX6_endCount 17 = .ok (.ifCond .eq 7, 3) := by decide +kernel
theorem dX6_endCount_20 : decode cX6_endCount 20 = .ok (.iconst 1, 1) := by decide +kernel
theorem dX6_endCount_21 : decode cX6_endCount 21 = .ok (.goto 4, 3) := by decide +kernel
theorem dX6_endCount_24 : decode cX6_endCount 24 = .ok (.iconst 0, 1) := by decide +kernel
theorem dX6_endCount_25 : decode cX6_endCount 25 = .ok (.iadd, 1) := by decide +kernel
theorem dX6_endCount_26 : decode cX6_endCount 26 = .ok (.istore_n 2, 1) := by decide +kernel
theorem dX6_endCount_27 : decode cX6_endCount 27 = .ok (.iinc 3 1, 3) := by decide +kernel
theorem dX6_endCount_30 : decode cX6_endCount 30 = .ok (.goto (-26), 3) := by decide +kernel
theorem dX6_endCount_33 : decode cX6_endCount 33 = .ok (.iload_n 2, 1) := by decide +kernel
theorem dX6_endCount_34 : decode cX6_endCount 34 = .ok (.ireturn, 1) := by decide +kernel
theorem dX7_init_0 : decode cX7_init 0 = .ok (.aload_n 0, 1) := by decide +kernel
theorem dX7_init_1 : decode cX7_init 1 = .ok (.invokespecial 1, 3) := by decide +kernel
theorem dX7_init_4 : decode cX7_init 4 = .ok (.aload_n 0, 1) := by decide +kernel
theorem dX7_init_5 : decode cX7_init 5 = .ok (.new 7, 3) := by decide +kernel
theorem dX7_init_8 : decode cX7_init 8 = .ok (.dup, 1) := by decide +kernel
theorem dX7_init_9 : decode cX7_init 9 = .ok (.invokespecial 9, 3) := by decide +kernel
theorem dX7_init_12 : decode cX7_init 12 = .ok (.putfield 10, 3) := by decide +kernel
theorem dX7_init_15 : decode cX7_init 15 = .ok (.aload_n 0, 1) := by decide +kernel
theorem dX7_init_16 : decode cX7_init 16 = .ok (.new 16, 3) := by decide +kernel
theorem dX7_init_19 : decode cX7_init 19 = .ok (.dup, 1) := by decide +kernel
theorem dX7_init_20 : decode cX7_init 20 = .ok (.aload_n 0, 1) := by decide +kernel
theorem dX7_init_21 : decode cX7_init 21 = .ok (.getfield 10, 3) := by decide +kernel
theorem dX7_init_24 : decode cX7_init 24 = .ok (.invokespecial 18, 3) := by decide +kernel
theorem dX7_init_27 : decode cX7_init 27 = .ok (.putfield 21, 3) := by decide +kernel
theorem dX7_init_30 : decode cX7_init 30 = .ok (.aload_n 0, 1) := by decide +kernel
theorem dX7_init_31 : decode cX7_init 31 = .ok (.new 16, 3) := by decide +kernel
theorem dX7_init_34 : decode cX7_init 34 = .ok (.dup, 1) := by decide +kernel
theorem dX7_init_35 : decode cX7_init 35 = .ok (.aload_n 0, 1) := by decide +kernel
theorem dX7_init_36 : decode cX7_init 36 = .ok (.getfield 10, 3) := by decide +kernel
theorem dX7_init_39 : decode cX7_init 39 = .ok (.invokespecial 18, 3) := by decide +kernel
theorem dX7_init_42 : decode cX7_init 42 = .ok (.putfield 25, 3) := by decide +kernel
theorem dX7_init_45 : decode cX7_init 45 = .ok (.aload_n 0, 1) := by decide +kernel
theorem dX7_init_46 : decode cX7_init 46 = .ok (.new 16, 3) := by decide +kernel
theorem dX7_init_49 : decode cX7_init 49 = .ok (.dup, 1) := by decide +kernel
theorem dX7_init_50 : decode cX7_init 50 = .ok (.aload_n 0, 1) := by decide +kernel
theorem dX7_init_51 : decode cX7_init 51 = .ok (.getfield 10, 3) := by decide +kernel
theorem dX7_init_54 : decode cX7_init 54 = .ok (.invokespecial 18, 3) := by decide +kernel
theorem dX7_init_57 : decode cX7_init 57 = .ok (.putfield 28, 3) := by decide +kernel
theorem dX7_init_60 : decode cX7_init 60 = .ok (.aload_n 0, 1) := by decide +kernel
theorem dX7_init_61 : decode cX7_init 61 = .ok (.new 31, 3) := by decide +kernel
theorem dX7_init_64 : decode cX7_init 64 = .ok (.dup, 1) := by decide +kernel
theorem dX7_init_65 : decode cX7_init 65 = .ok (.aload_n 0, 1) := by decide +kernel
theorem dX7_init_66 : decode cX7_init 66 = .ok (.getfield 10, 3) := by decide +kernel
theorem dX7_init_69 : decode cX7_init 69 = .ok (.invokespecial 33, 3) := by decide +kernel
theorem dX7_init_72 : decode cX7_init 72 = .ok (.putfield 34, 3) := by decide +kernel
theorem dX7_init_75 : decode cX7_init 75 = .ok (.aload_n 0, 1) := by decide +kernel
theorem dX7_init_76 : decode cX7_init 76 = .ok (.new 38, 3) := by decide +kernel
theorem dX7_init_79 : decode cX7_init 79 = .ok (.dup, 1) := by decide +kernel
theorem dX7_init_80 : decode cX7_init 80 = .ok (.invokespecial 40, 3) := by decide +kernel
theorem dX7_init_83 : decode cX7_init 83 = .ok (.putfield 41, 3) := by decide +kernel
theorem dX7_init_86 : decode cX7_init 86 = .ok (.aload_n 0, 1) := by decide +kernel
theorem dX7_init_87 : decode cX7_init 87 = .ok (.new 45, 3) := by decide +kernel
theorem dX7_init_90 : decode cX7_init 90 = .ok (.dup, 1) := by decide +kernel
theorem dX7_init_91 : decode cX7_init 91 = .ok (.aload_n 0, 1) := by decide +kernel
theorem dX7_init_92 : decode cX7_init 92 = .ok (.getfield 10, 3) := by decide +kernel
theorem dX7_init_95 : decode cX7_init 95 = .ok (.invokespecial 47, 3) := by decide +kernel
theorem dX7_init_98 : decode cX7_init 98 = .ok (.putfield 48, 3) := by decide +kernel
theorem dX7_init_101 : decode cX7_init 101 = .ok (.aload_n 0, 1) := by decide +kernel
theorem dX7_init_102 : decode cX7_init 102 = .ok (.new 52, 3) := by decide +kernel
theorem dX7_init_105 : decode cX7_init 105 = .ok (.dup, 1) := by decide +kernel
theorem dX7_init_106 : decode cX7_init 106 = .ok (.aload_n 0, 1) := by decide +kernel
theorem dX7_init_107 : decode cX7_init 107 = .ok (.getfield 10, 3) := by decide +kernel
theorem dX7_init_110 : decode cX7_init 110 = .ok (.invokespecial 54, 3) := by decide +kernel
theorem dX7_init_113 : decode cX7_init 113 = .ok (.putfield 55, 3) := by decide +kernel
theorem dX7_init_116 : decode cX7_init 116 = .ok (.aload_n 0, 1) := by decide +kernel
theorem dX7_init_117 : decode cX7_init 117 = .ok (.new 59, 3) := by decide +kernel
theorem dX7_init_120 : decode cX7_init 120 = .ok (.dup, 1) := by decide +kernel
theorem dX7_init_121 : decode cX7_init 121 = .ok (.aload_n 0, 1) := by decide +kernel
theorem dX7_init_122 : decode cX7_init 122 = .ok (.getfield 10, 3) := by decide +kernel
theorem dX7_init_125 : decode cX7_init 125 = .ok (.aload_n 0, 1) := by decide +kernel
theorem dX7_init_126 : decode cX7_init 126 = .ok (.getfield 55, 3) := by decide +kernel
theorem dX7_init_129 : decode cX7_init 129 = .ok (.invokespecial 61, 3) := by decide +kernel
theorem dX7_init_132 : decode cX7_init 132 = .ok (.putfield 64, 3) := by decide +kernel
theorem dX7_init_135 : decode cX7_init 135 = .ok (.return_, 1) := by decide +kernel
theorem dX7_ground_0 : decode cX7_ground 0 = .ok (.iload_n 1, 1) := by decide +kernel
theorem dX7_ground_1 : decode cX7_ground 1 = .ok (.invokestatic 68, 3) := by decide +kernel
theorem dX7_ground_4 : decode cX7_ground 4 = .ok (.ifCond .ne 5, 3) := by decide +kernel
theorem dX7_ground_7 : decode cX7_ground 7 = .ok (.iconst (-1), 1) := by decide +kernel
theorem dX7_ground_8 : decode cX7_ground 8 = .ok (.ireturn, 1) := by decide +kernel
theorem dX7_ground_9 : decode cX7_ground 9 = .ok (.iload_n 2, 1) := by decide +kernel
theorem dX7_ground_10 : decode cX7_ground 10 = .ok (.ifCond .lt 8, 3) := by decide +kernel
theorem dX7_ground_13 : decode cX7_ground 13 = .ok (.iload_n 2, 1) := by decide +kernel
theorem dX7_ground_14 : decode cX7_ground 14 = .ok (.iconst 2, 1) := by decide +kernel
theorem dX7_ground_15 : decode cX7_ground 15 = .ok (.if_icmp .le 6, 3) := by decide +kernel
theorem dX7_ground_18 : decode cX7_ground 18 = .ok (.bipush (-2), 2) := by decide +kernel
theorem dX7_ground_20 : decode cX7_ground 20 = .ok (.ireturn, 1) := by decide +kernel
theorem dX7_ground_21 : decode cX7_ground 21 = .ok (.aload_n 0, 1) := by decide +kernel
theorem dX7_ground_22 : decode cX7_ground 22 = .ok (.getfield 21, 3) := by decide +kernel
theorem dX7_ground_25 : decode cX7_ground 25 = .ok (.getfield 72, 3) := by decide +kernel
theorem dX7_ground_28 : decode cX7_ground 28 = .ok (.iload_n 1, 1) := by decide +kernel
theorem dX7_ground_29 : decode cX7_ground 29 = .ok (.iaload, 1) := by decide +kernel
theorem dX7_ground_30 : decode cX7_ground 30 = .ok (.istore_n 3, 1) := by decide +kernel
theorem dX7_ground_31 : decode cX7_ground 31 = .ok (.iload_n 3, 1) := by decide +kernel
theorem dX7_ground_32 : decode cX7_ground 32 = .ok (.iload_n 2, 1) := by decide +kernel
theorem dX7_ground_33 : decode cX7_ground 33 = .ok (.if_icmp .ne 6, 3) := by decide +kernel
theorem dX7_ground_36 : decode cX7_ground 36 = .ok (.bipush (-5), 2) := by decide +kernel
theorem dX7_ground_38 : decode cX7_ground 38 = .ok (.ireturn, 1) := by decide +kernel
theorem dX7_ground_39 : decode cX7_ground 39 = .ok (.aload_n 0, 1) := by decide +kernel
theorem dX7_ground_40 : decode cX7_ground 40 = .ok (.getfield 34, 3) := by decide +kernel
theorem dX7_ground_43 : decode cX7_ground 43 = .ok (.aload_n 0, 1) := by decide +kernel
theorem dX7_ground_44 : decode cX7_ground 44 = .ok (.getfield 21, 3) := by decide +kernel
theorem dX7_ground_47 : decode cX7_ground 47 = .ok (.invokevirtual 76, 3) := by decide +kernel
theorem dX7_ground_50 : decode cX7_ground 50 = .ok (.aload_n 0, 1) := by decide +kernel
theorem dX7_ground_51 : decode cX7_ground 51 = .ok (.getfield 21, 3) := by decide +kernel
theorem dX7_ground_54 : decode cX7_ground 54 = .ok (.getfield 72, 3) := by decide +kernel
theorem dX7_ground_57 : decode cX7_ground 57 = .ok (.iload_n 1, 1) := by decide +kernel
theorem dX7_ground_58 : decode cX7_ground 58 = .ok (.iload_n 2, 1) := by decide +kernel
theorem dX7_ground_59 : decode cX7_ground 59 = .ok (.iastore, 1) := by decide +kernel
theorem dX7_ground_60 : decode cX7_ground 60 = .ok (.iload_n 3, 1) := by decide +kernel
theorem dX7_ground_61 : decode cX7_ground 61 = .ok (.ireturn, 1) := by decide +kernel
theorem dX7_river_0 : decode cX7_river 0 = .ok (.iload_n 1, 1) := by decide +kernel
theorem dX7_river_1 : decode cX7_river 1 = .ok (.invokestatic 68, 3) := by decide +kernel
theorem dX7_river_4 : decode cX7_river 4 = .ok (.ifCond .ne 5, 3) := by decide +kernel
theorem dX7_river_7 : decode cX7_river 7 = .ok (.iconst (-1), 1) := by decide +kernel
theorem dX7_river_8 : decode cX7_river 8 = .ok (.ireturn, 1) := by decide +kernel
theorem dX7_river_9 : decode cX7_river 9 = .ok (.iload_n 2, 1) := by decide +kernel
theorem dX7_river_10 : decode cX7_river 10 = .ok (.invokestatic 80, 3) := by decide +kernel
theorem dX7_river_13 : decode cX7_river 13 = .ok (.ifCond .ne 6, 3) := by decide +kernel
theorem dX7_river_16 : decode cX7_river 16 = .ok (.bipush (-2), 2) := by decide +kernel
theorem dX7_river_18 : decode cX7_river 18 = .ok (.ireturn, 1) := by decide +kernel
theorem dX7_river_19 : decode cX7_river 19 = .ok (.aload_n 0, 1) := by decide +kernel
theorem dX7_river_20 : decode cX7_river 20 = .ok (.getfield 10, 3) := by decide +kernel
theorem dX7_river_23 : decode cX7_river 23 = .ok (.getfield 83, 3) := by decide +kernel
theorem dX7_river_26 : decode cX7_river 26 = .ok (.iload_n 1, 1) := by decide +kernel
theorem dX7_river_27 : decode cX7_river 27 = .ok (.bipush 6, 2) := by decide +kernel
theorem dX7_river_29 : decode cX7_river 29 = .ok (.imul, 1) := by decide +kernel
theorem dX7_river_30 : decode cX7_river 30 = .ok (.iload_n 2, 1) := by decide +kernel
theorem dX7_river_31 : decode cX7_river 31 = .ok (.iadd, 1) := by decide +kernel
theorem dX7_river_32 : decode cX7_river 32 = .ok (.iaload, 1) := by decide +kernel
theorem dX7_river_33 : decode cX7_river 33 = .ok (.istore 4, 2) := by decide +kernel
theorem dX7_river_35 : decode cX7_river 35 = .ok (.iload 4, 2) := by decide +kernel
theorem dX7_river_37 : decode cX7_river 37 = .ok (.invokestatic 68, 3) := by decide +kernel
theorem dX7_river_40 : decode cX7_river 40 = .ok (.ifCond .ne 6, 3) := by decide +kernel
theorem dX7_river_43 : decode cX7_river 43 = .ok (.bipush (-4), 2) := by decide +kernel
theorem dX7_river_45 : decode cX7_river 45 = .ok (.ireturn, 1) := by decide +kernel
theorem dX7_river_46 : decode cX7_river 46 = .ok (.aload_n 0, 1) := by decide +kernel
theorem dX7_river_47 : decode cX7_river 47 = .ok (.getfield 21, 3) := by decide +kernel
theorem dX7_river_50 : decode cX7_river 50 = .ok (.iload_n 1, 1) := by decide +kernel
theorem dX7_river_51 : decode cX7_river 51 = .ok (.iload_n 2, 1) := by decide +kernel
theorem dX7_river_52 : decode cX7_river 52 = .ok (.invokevirtual 86, 3) := by decide +kernel
theorem dX7_river_55 : decode cX7_river 55 = .ok (.iload_n 3, 1) := by decide +kernel
theorem dX7_river_56 : decode cX7_river 56 = .ok (.if_icmp .ne 6, 3) := by decide +kernel
theorem dX7_river_59 : decode cX7_river 59 = .ok (.bipush (-5), 2) := by decide +kernel
theorem dX7_river_61 : decode cX7_river 61 = .ok (.ireturn, 1) := by decide +kernel
theorem dX7_river_62 : decode cX7_river 62 = .ok (.aload_n 0, 1) := by decide +kernel
theorem dX7_river_63 : decode cX7_river 63 = .ok (.getfield 34, 3) := by decide +kernel
theorem dX7_river_66 : decode cX7_river 66 = .ok (.aload_n 0, 1) := by decide +kernel
theorem dX7_river_67 : decode cX7_river 67 = .ok (.getfield 21, 3) := by decide +kernel
theorem dX7_river_70 : decode cX7_river 70 = .ok (.invokevirtual 76, 3) := by decide +kernel
theorem dX7_river_73 : decode cX7_river 73 = .ok (.aload_n 0, 1) := by decide +kernel
theorem dX7_river_74 : decode cX7_river 74 = .ok (.getfield 21, 3) := by decide +kernel
theorem dX7_river_77 : decode cX7_river 77 = .ok (.getfield 90, 3) := by decide +kernel
theorem dX7_river_80 : decode cX7_river 80 = .ok (.iload_n 1, 1) := by decide +kernel
theorem dX7_river_81 : decode cX7_river 81 = .ok (.dup2, 1) := by decide +kernel
theorem dX7_river_82 : decode cX7_river 82 = .ok (.iaload, 1) := by decide +kernel
theorem dX7_river_83 : decode cX7_river 83 = .ok (.iconst 1, 1) := by decide +kernel
theorem dX7_river_84 : decode cX7_river 84 = .ok (.iload_n 2, 1) := by decide +kernel
theorem dX7_river_85 : decode cX7_river 85 = .ok (.ishl, 1) := by decide +kernel
theorem dX7_river_86 : decode cX7_river 86 = .ok (.ixor, 1) := by decide +kernel
theorem dX7_river_87 : decode cX7_river 87 = .ok (.iastore, 1) := by decide +kernel
theorem dX7_river_88 : decode cX7_river 88 = .ok (.aload_n 0, 1) := by decide +kernel
theorem dX7_river_89 : decode cX7_river 89 = .ok (.getfield 21, 3) := by decide +kernel
theorem dX7_river_92 : decode cX7_river 92 = .ok (.getfield 90, 3) := by decide +kernel
theorem dX7_river_95 : decode cX7_river 95 = .ok (.iload 4, 2) := by decide +kernel
theorem dX7_river_97 : decode cX7_river 97 = .ok (.dup2, 1) := by decide +kernel
theorem dX7_river_98 : decode cX7_river 98 = .ok (.iaload, 1) := by decide +kernel
theorem dX7_river_99 : decode cX7_river 99 = .ok (.iconst 1, 1) := by decide +kernel
theorem dX7_river_100 : decode cX7_river 100 = .ok (.iload_n 2, 1) := by decide +kernel
theorem dX7_river_101 : decode cX7_river 101 = .ok (.invokestatic 93, 3) := by decide +kernel
theorem dX7_river_104 : decode cX7_river 104 = .ok (.ishl, 1) := by decide +kernel
theorem dX7_river_105 : decode cX7_river 105 = .ok (.ixor, 1) := by decide +kernel
theorem dX7_river_106 : decode cX7_river 106 = .ok (.iastore, 1) := by decide +kernel
theorem dX7_river_107 : decode cX7_river 107 = .ok (.aload_n 0, 1) := by decide +kernel
theorem dX7_river_108 : decode cX7_river 108 = .ok (.getfield 21, 3) := by decide +kernel
theorem dX7_river_111 : decode cX7_river 111 = .ok (.invokevirtual 97, 3) := by decide +kernel
theorem dX7_river_114 : decode cX7_river 114 = .ok (.ireturn, 1) := by decide +kernel
theorem dX7_fort_0 : decode cX7_fort 0 = .ok (.iload_n 1, 1) := by decide +kernel
theorem dX7_fort_1 : decode cX7_fort 1 = .ok (.invokestatic 68, 3) := by decide +kernel
theorem dX7_fort_4 : decode cX7_fort 4 = .ok (.ifCond .ne 5, 3) := by decide +kernel
theorem dX7_fort_7 : decode cX7_fort 7 = .ok (.iconst (-1), 1) := by decide +kernel
theorem dX7_fort_8 : decode cX7_fort 8 = .ok (.ireturn, 1) := by decide +kernel
theorem dX7_fort_9 : decode cX7_fort 9 = .ok (.iload_n 2, 1) := by decide +kernel
theorem dX7_fort_10 : decode cX7_fort 10 = .ok (.invokestatic 101, 3) := by decide +kernel
theorem dX7_fort_13 : decode cX7_fort 13 = .ok (.ifCond .ne 11, 3) := by decide +kernel
theorem dX7_fort_16 : decode cX7_fort 16 = .ok (.iload_n 2, 1) := by decide +kernel
theorem dX7_fort_17 : decode cX7_fort 17 = .ok (.iconst 2, 1) := by decide +kernel
theorem dX7_fort_18 : decode cX7_fort 18 = .ok (.if_icmp .eq 6, 3) := by decide +kernel
theorem dX7_fort_21 : decode cX7_fort 21 = .ok (.bipush (-2), 2) := by decide +kernel
theorem dX7_fort_23 : decode cX7_fort 23 = .ok (.ireturn, 1) := by decide +kernel
theorem dX7_fort_24 : decode cX7_fort 24 = .ok (.iload_n 2, 1) := by decide +kernel
theorem dX7_fort_25 : decode cX7_fort 25 = .ok (.iconst 2, 1) := by decide +kernel
theorem dX7_fort_26 : decode cX7_fort 26 = .ok (.if_icmp .eq 7, 3) := by decide +kernel
theorem dX7_fort_29 : decode cX7_fort 29 = .ok (.iconst 1, 1) := by decide +kernel
theorem dX7_fort_30 : decode cX7_fort 30 = .ok (.goto 4, 3) := by decide +kernel
theorem dX7_fort_33 : decode cX7_fort 33 = .ok (.iconst 0, 1) := by decide +kernel
theorem dX7_fort_34 : decode cX7_fort 34 = .ok (.istore_n 3, 1) := by decide +kernel
theorem dX7_fort_35 : decode cX7_fort 35 = .ok (.iload_n 3, 1) := by decide +kernel
theorem dX7_fort_36 : decode cX7_fort 36 = .ok (.aload_n 0, 1) := by decide +kernel
theorem dX7_fort_37 : decode cX7_fort 37 = .ok (.getfield 21, 3) := by decide +kernel
theorem dX7_fort_40 : decode cX7_fort 40 = .ok (.iload_n 1, 1) := by decide +kernel
theorem dX7_fort_41 : decode cX7_fort 41 = .ok (.invokevirtual 104, 3) := by decide +kernel
theorem dX7_fort_44 : decode cX7_fort 44 = .ok (.if_icmp .ne 6, 3) := by decide +kernel
theorem dX7_fort_47 : decode cX7_fort 47 = .ok (.bipush (-5), 2) := by decide +kernel
theorem dX7_fort_49 : decode cX7_fort 49 = .ok (.ireturn, 1) := by decide +kernel
theorem dX7_fort_50 : decode cX7_fort 50 = .ok (.aload_n 0, 1) := by decide +kernel
theorem dX7_fort_51 : decode cX7_fort 51 = .ok (.getfield 34, 3) := by decide +kernel
theorem dX7_fort_54 : decode cX7_fort 54 = .ok (.aload_n 0, 1) := by decide +kernel
theorem dX7_fort_55 : decode cX7_fort 55 = .ok (.getfield 21, 3) := by decide +kernel
theorem dX7_fort_58 : decode cX7_fort 58 = .ok (.invokevirtual 76, 3) := by decide +kernel
theorem dX7_fort_61 : decode cX7_fort 61 = .ok (.aload_n 0, 1) := by decide +kernel
theorem dX7_fort_62 : decode cX7_fort 62 = .ok (.getfield 21, 3) := by decide +kernel
theorem dX7_fort_65 : decode cX7_fort 65 = .ok (.getfield 107, 3) := by decide +kernel
theorem dX7_fort_68 : decode cX7_fort 68 = .ok (.iload_n 1, 1) := by decide +kernel
theorem dX7_fort_69 : decode cX7_fort 69 = .ok (.iload_n 3, 1) := by decide +kernel
theorem dX7_fort_70 : decode cX7_fort 70 = .ok (.ifCond .eq 7, 3) := by decide +kernel
theorem dX7_fort_73 : decode cX7_fort 73 = .ok (.iload_n 2, 1) := by decide +kernel
theorem dX7_fort_74 : decode cX7_fort 74 = .ok (.goto 4, 3) := by decide +kernel
theorem dX7_fort_77 : decode cX7_fort 77 = .ok (.iconst (-1), 1) := by decide +kernel
theorem dX7_fort_78 : decode cX7_fort 78 = .ok (.iastore, 1) := by decide +kernel
theorem dX7_fort_79 : decode cX7_fort 79 = .ok (.aload_n 0, 1) := by decide +kernel
theorem dX7_fort_80 : decode cX7_fort 80 = .ok (.getfield 21, 3) := by decide +kernel
theorem dX7_fort_83 : decode cX7_fort 83 = .ok (.iload_n 1, 1) := by decide +kernel
theorem dX7_fort_84 : decode cX7_fort 84 = .ok (.invokevirtual 110, 3) := by decide +kernel
theorem dX7_fort_87 : decode cX7_fort 87 = .ok (.aload_n 0, 1) := by decide +kernel
theorem dX7_fort_88 : decode cX7_fort 88 = .ok (.getfield 21, 3) := by decide +kernel
theorem dX7_fort_91 : decode cX7_fort 91 = .ok (.iconst 0, 1) := by decide +kernel
theorem dX7_fort_92 : decode cX7_fort 92 = .ok (.invokevirtual 114, 3) := by decide +kernel
theorem dX7_fort_95 : decode cX7_fort 95 = .ok (.aload_n 0, 1) := by decide +kernel
theorem dX7_fort_96 : decode cX7_fort 96 = .ok (.getfield 21, 3) := by decide +kernel
theorem dX7_fort_99 : decode cX7_fort 99 = .ok (.iconst 1, 1) := by decide +kernel
theorem dX7_fort_100 : decode cX7_fort 100 = .ok (.invokevirtual 114, 3) := by decide +kernel
theorem dX7_fort_103 : decode cX7_fort 103 = .ok (.iadd, 1) := by decide +kernel
theorem dX7_fort_104 : decode cX7_fort 104 = .ok (.ireturn, 1) := by decide +kernel
theorem dX7_base_0 : decode cX7_base 0 = .ok (.iload_n 1, 1) := by decide +kernel
theorem dX7_base_1 : decode cX7_base 1 = .ok (.invokestatic 101, 3) := by decide +kernel
theorem dX7_base_4 : decode cX7_base 4 = .ok (.ifCond .eq 10, 3) := by decide +kernel
theorem dX7_base_7 : decode cX7_base 7 = .ok (.iload_n 2, 1) := by decide +kernel
theorem dX7_base_8 : decode cX7_base 8 = .ok (.invokestatic 68, 3) := by decide +kernel
theorem dX7_base_11 : decode cX7_base 11 = .ok (.ifCond .ne 5, 3) := by decide +kernel
theorem dX7_base_14 : decode cX7_base 14 = .ok (.iconst (-1), 1) := by decide +kernel
theorem dX7_base_15 : decode cX7_base 15 = .ok (.ireturn, 1) := by decide +kernel
theorem dX7_base_16 : decode cX7_base 16 = .ok (.aload_n 0, 1) := by decide +kernel
theorem dX7_base_17 : decode cX7_base 17 = .ok (.getfield 21, 3) := by decide +kernel
theorem dX7_base_20 : decode cX7_base 20 = .ok (.getfield 117, 3) := by decide +kernel
theorem dX7_base_23 : decode cX7_base 23 = .ok (.iload_n 1, 1) := by decide +kernel
theorem dX7_base_24 : decode cX7_base 24 = .ok (.iaload, 1) := by decide +kernel
theorem dX7_base_25 : decode cX7_base 25 = .ok (.istore_n 3, 1) := by decide +kernel
theorem dX7_base_26 : decode cX7_base 26 = .ok (.iload_n 3, 1) := by decide +kernel
theorem dX7_base_27 : decode cX7_base 27 = .ok (.iload_n 2, 1) := by decide +kernel
theorem dX7_base_28 : decode cX7_base 28 = .ok (.if_icmp .ne 6, 3) := by decide +kernel
theorem dX7_base_31 : decode cX7_base 31 = .ok (.bipush (-5), 2) := by decide +kernel
theorem dX7_base_33 : decode cX7_base 33 = .ok (.ireturn, 1) := by decide +kernel
theorem dX7_base_34 : decode cX7_base 34 = .ok (.aload_n 0, 1) := by decide +kernel
theorem dX7_base_35 : decode cX7_base 35 = .ok (.getfield 34, 3) := by decide +kernel
theorem dX7_base_38 : decode cX7_base 38 = .ok (.aload_n 0, 1) := by decide +kernel
theorem dX7_base_39 : decode cX7_base 39 = .ok (.getfield 21, 3) := by decide +kernel
theorem dX7_base_42 : decode cX7_base 42 = .ok (.invokevirtual 76, 3) := by decide +kernel
theorem dX7_base_45 : decode cX7_base 45 = .ok (.aload_n 0, 1) := by decide +kernel
theorem dX7_base_46 : decode cX7_base 46 = .ok (.getfield 21, 3) := by decide +kernel
theorem dX7_base_49 : decode cX7_base 49 = .ok (.getfield 117, 3) := by decide +kernel
theorem dX7_base_52 : decode cX7_base 52 = .ok (.iload_n 1, 1) := by decide +kernel
theorem dX7_base_53 : decode cX7_base 53 = .ok (.iload_n 2, 1) := by decide +kernel
theorem dX7_base_54 : decode cX7_base 54 = .ok (.iastore, 1) := by decide +kernel
theorem dX7_base_55 : decode cX7_base 55 = .ok (.iload_n 3, 1) := by decide +kernel
theorem dX7_base_56 : decode cX7_base 56 = .ok (.ireturn, 1) := by decide +kernel
theorem dX7_place_0 : decode cX7_place 0 = .ok (.iload_n 1, 1) := by decide +kernel
theorem dX7_place_1 : decode cX7_place 1 = .ok (.invokestatic 101, 3) := by decide +kernel
theorem dX7_place_4 : decode cX7_place 4 = .ok (.ifCond .eq 10, 3) := by decide +kernel
theorem dX7_place_7 : decode cX7_place 7 = .ok (.iload_n 3, 1) := by decide +kernel
theorem dX7_place_8 : decode cX7_place 8 = .ok (.invokestatic 68, 3) := by decide +kernel
theorem dX7_place_11 : decode cX7_place 11 = .ok (.ifCond .ne 5, 3) := by decide +kernel
theorem dX7_place_14 : decode cX7_place 14 = .ok (.iconst (-1), 1) := by decide +kernel
theorem dX7_place_15 : decode cX7_place 15 = .ok (.ireturn, 1) := by decide +kernel
theorem dX7_place_16 : decode cX7_place 16 = .ok (.iload_n 2, 1) := by decide +kernel
theorem dX7_place_17 : decode cX7_place 17 = .ok (.iconst 1, 1) := by decide +kernel
theorem dX7_place_18 : decode cX7_place 18 = .ok (.if_icmp .lt 9, 3) := by decide +kernel
theorem dX7_place_21 : decode cX7_place 21 = .ok (.iload_n 2, 1) := by decide +kernel
theorem dX7_place_22 : decode cX7_place 22 = .ok (.bipush 9, 2) := by decide +kernel
theorem dX7_place_24 : decode cX7_place 24 = .ok (.if_icmp .le 6, 3) := by decide +kernel
theorem dX7_place_27 : decode cX7_place 27 = .ok (.bipush (-2), 2) := by decide +kernel
theorem dX7_place_29 : decode cX7_place 29 = .ok (.ireturn, 1) := by decide +kernel
theorem dX7_place_30 : decode cX7_place 30 = .ok (.aload_n 0, 1) := by decide +kernel
theorem dX7_place_31 : decode cX7_place 31 = .ok (.getfield 21, 3) := by decide +kernel
theorem dX7_place_34 : decode cX7_place 34 = .ok (.getfield 120, 3) := by decide +kernel
theorem dX7_place_37 : decode cX7_place 37 = .ok (.bipush 16, 2) := by decide +kernel
theorem dX7_place_39 : decode cX7_place 39 = .ok (.if_icmp .lt 6, 3) := by decide +kernel
theorem dX7_place_42 : decode cX7_place 42 = .ok (.bipush (-3), 2) := by decide +kernel
theorem dX7_place_44 : decode cX7_place 44 = .ok (.ireturn, 1) := by decide +kernel
theorem dX7_place_45 : decode cX7_place 45 = .ok (.aload_n 0, 1) := by decide +kernel
theorem dX7_place_46 : decode cX7_place 46 = .ok (.getfield 21, 3) := by decide +kernel
theorem dX7_place_49 : decode cX7_place 49 = .ok (.iload_n 3, 1) := by decide +kernel
theorem dX7_place_50 : decode cX7_place 50 = .ok (.invokevirtual 124, 3) := by decide +kernel
theorem dX7_place_53 : decode cX7_place 53 = .ok (.iconst (-1), 1) := by decide +kernel
theorem dX7_place_54 : decode cX7_place 54 = .ok (.if_icmp .eq 6, 3) := by decide +kernel
theorem dX7_place_57 : decode cX7_place 57 = .ok (.bipush (-4), 2) := by decide +kernel
theorem dX7_place_59 : decode cX7_place 59 = .ok (.ireturn, 1) := by decide +kernel
theorem dX7_place_60 : decode cX7_place 60 = .ok (.aload_n 0, 1) := by decide +kernel
theorem dX7_place_61 : decode cX7_place 61 = .ok (.getfield 34, 3) := by decide +kernel
theorem dX7_place_64 : decode cX7_place 64 = .ok (.aload_n 0, 1) := by decide +kernel
theorem dX7_place_65 : decode cX7_place 65 = .ok (.getfield 21, 3) := by decide +kernel
theorem dX7_place_68 : decode cX7_place 68 = .ok (.invokevirtual 76, 3) := by decide +kernel
theorem dX7_place_71 : decode cX7_place 71 = .ok (.aload_n 0, 1) := by decide +kernel
theorem dX7_place_72 : decode cX7_place 72 = .ok (.getfield 21, 3) := by decide +kernel
theorem dX7_place_75 : decode cX7_place 75 = .ok (.iload_n 1, 1) := by decide +kernel
theorem dX7_place_76 : decode cX7_place 76 = .ok (.iload_n 2, 1) := by decide +kernel
theorem dX7_place_77 : decode cX7_place 77 = .ok (.iload_n 3, 1) := by decide +kernel
theorem dX7_place_78 : decode cX7_place 78 = .ok (.invokevirtual 127, 3) := by decide +kernel
theorem dX7_place_81 : decode cX7_place 81 = .ok (.ireturn, 1) := by decide +kernel
theorem dX7_move_0 : decode cX7_move 0 = .ok (.aload_n 0, 1) := by decide +kernel
theorem dX7_move_1 : decode cX7_move 1 = .ok (.getfield 25, 3) := by decide +kernel
theorem dX7_move_4 : decode cX7_move 4 = .ok (.aload_n 0, 1) := by decide +kernel
theorem dX7_move_5 : decode cX7_move 5 = .ok (.getfield 21, 3) := by decide +kernel
theorem dX7_move_8 : decode cX7_move 8 = .ok (.invokevirtual 131, 3) := by decide +kernel
theorem dX7_move_11 : decode cX7_move 11 = .ok (.aload_n 0, 1) := by decide +kernel
theorem dX7_move_12 : decode cX7_move 12 = .ok (.aload_n 0, 1) := by decide +kernel
theorem dX7_move_13 : decode cX7_move 13 = .ok (.iload_n 1, 1) := by decide +kernel
theorem dX7_move_14 : decode cX7_move 14 = .ok (.iload_n 2, 1) := by decide +kernel
theorem dX7_move_15 : decode cX7_move 15 = .ok (.invokevirtual 134, 3) := by decide +kernel
theorem dX7_move_18 : decode cX7_move 18 = .ok (.invokevirtual 138, 3) := by decide +kernel
theorem dX7_move_21 : decode cX7_move 21 = .ok (.ireturn, 1) := by decide +kernel
theorem dX7_attack_0 : decode cX7_attack 0 = .ok (.aload_n 0, 1) := by decide +kernel
theorem dX7_attack_1 : decode cX7_attack 1 = .ok (.getfield 25, 3) := by decide +kernel
theorem dX7_attack_4 : decode cX7_attack 4 = .ok (.aload_n 0, 1) := by decide +kernel
theorem dX7_attack_5 : decode cX7_attack 5 = .ok (.getfield 21, 3) := by decide +kernel
theorem dX7_attack_8 : decode cX7_attack 8 = .ok (.invokevirtual 131, 3) := by decide +kernel
theorem dX7_attack_11 : decode cX7_attack 11 = .ok (.aload_n 0, 1) := by decide +kernel
theorem dX7_attack_12 : decode cX7_attack 12 = .ok (.aload_n 0, 1) := by decide +kernel
theorem dX7_attack_13 : decode cX7_attack 13 = .ok (.iload_n 1, 1) := by decide +kernel
theorem dX7_attack_14 : decode cX7_attack 14 = .ok (.iload_n 2, 1) := by decide +kernel
theorem dX7_attack_15 : decode cX7_attack 15 = .ok (.invokevirtual 141, 3) := by decide +kernel
theorem dX7_attack_18 : decode cX7_attack 18 = .ok (.invokevirtual 138, 3) := by decide +kernel
theorem dX7_attack_21 : decode cX7_attack 21 = .ok (.ireturn, 1) := by decide +kernel
theorem dX7_endTurn_0 : decode cX7_endTurn 0 = .ok (.aload_n 0, 1) := by decide +kernel
theorem dX7_endTurn_1 : decode cX7_endTurn 1 = .ok (.getfield 25, 3) := by decide +kernel
theorem dX7_endTurn_4 : decode cX7_endTurn 4 = .ok (.aload_n 0, 1) := by decide +kernel
theorem dX7_endTurn_5 : decode cX7_endTurn 5 = .ok (.getfield 21, 3) := by decide +kernel
theorem dX7_endTurn_8 : decode cX7_endTurn 8 = .ok (.invokevirtual 131, 3) := by decide +kernel
theorem dX7_endTurn_11 : decode cX7_endTurn 11 = .ok (.aload_n 0, 1) := by decide +kernel
theorem dX7_endTurn_12 : decode cX7_endTurn 12 = .ok (.aload_n 0, 1) := by decide +kernel
theorem dX7_endTurn_13 : decode cX7_endTurn 13 = .ok (.invokevirtual 144, 3) := by decide +kernel
theorem dX7_endTurn_16 : decode cX7_endTurn 16 = .ok (.invokevirtual 138, 3) := by decide +kernel
theorem dX7_endTurn_19 : decode cX7_endTurn 19 = .ok (.ireturn, 1) := by decide +kernel
theorem dX7_perform_0 : decode cX7_perform 0 = .ok (.aload_n 0, 1) := by decide +kernel
theorem dX7_perform_1 : decode cX7_perform 1 = .ok (.getfield 41, 3) := by decide +kernel
theorem dX7_perform_4 : decode cX7_perform 4 = .ok (.invokevirtual 147, 3) := by decide +kernel
theorem dX7_perform_7 : decode cX7_perform 7 = .ok (.istore_n 1, 1) := by decide +kernel
theorem dX7_perform_8 : decode cX7_perform 8 = .ok (.iload_n 1, 1) := by decide +kernel
theorem dX7_perform_9 : decode cX7_perform 9 = .ok (.iconst (-1), 1) := by decide +kernel
theorem dX7_perform_10 : decode cX7_perform 10 = .ok (.if_icmp .eq 8, 3) := by decide +kernel
theorem dX7_perform_13 : decode cX7_perform 13 = .ok (.bipush (-100), 2) := by decide +kernel
theorem dX7_perform_15 : decode cX7_perform 15 = .ok (.iload_n 1, 1) := by decide +kernel
theorem dX7_perform_16 : decode cX7_perform 16 = .ok (.isub, 1) := by decide +kernel
theorem dX7_perform_17 : decode cX7_perform 17 = .ok (.ireturn, 1) := by decide +kernel
theorem dX7_perform_18 : decode cX7_perform 18 = .ok (.aload_n 0, 1) := by decide +kernel
theorem dX7_perform_19 : decode cX7_perform 19 = .ok (.getfield 25, 3) := by decide +kernel
theorem dX7_perform_22 : decode cX7_perform 22 = .ok (.aload_n 0, 1) := by decide +kernel
theorem dX7_perform_23 : decode cX7_perform 23 = .ok (.getfield 21, 3) := by decide +kernel
theorem dX7_perform_26 : decode cX7_perform 26 = .ok (.invokevirtual 131, 3) := by decide +kernel
theorem dX7_perform_29 : decode cX7_perform 29 = .ok (.iconst 0, 1) := by decide +kernel
theorem dX7_perform_30 : decode cX7_perform 30 = .ok (.istore_n 2, 1) := by decide +kernel
theorem dX7_perform_31 : decode cX7_perform 31 = .ok (.iload_n 2, 1) := by decide +kernel
theorem dX7_perform_32 : decode cX7_perform 32 = .ok (.aload_n 0, 1) := by decide +kernel
theorem dX7_perform_33 : decode cX7_perform 33 = .ok (.getfield 41, 3) := by decide +kernel
theorem dX7_perform_36 : decode cX7_perform 36 = .ok (.getfield 150, 3) := by decide +kernel
theorem dX7_perform_39 : decode cX7_perform 39 = .ok (.if_icmp .ge 117, 3) := by decide +kernel
theorem dX7_perform_42 : decode cX7_perform 42 = .ok (.aload_n 0, 1) := by decide +kernel
theorem dX7_perform_43 : decode cX7_perform 43 = .ok (.getfield 41, 3) := by decide +kernel
theorem dX7_perform_46 : decode cX7_perform 46 = .ok (.getfield 153, 3) := by decide +kernel
theorem dX7_perform_49 : decode cX7_perform 49 = .ok (.iload_n 2, 1) := by decide +kernel
theorem dX7_perform_50 : decode cX7_perform 50 = .ok (.caload, 1) := by decide +kernel
theorem dX7_perform_51 : decode cX7_perform 51 = .ok (.bipush 62, 2) := by decide +kernel
theorem dX7_perform_53 : decode cX7_perform 53 = .ok (.if_icmp .ne 29, 3) := by decide +kernel
theorem dX7_perform_56 : decode cX7_perform 56 = .ok (.aload_n 0, 1) := by decide +kernel
theorem dX7_perform_57 : decode cX7_perform 57 = .ok (.aload_n 0, 1) := by decide +kernel
theorem dX7_perform_58 : decode cX7_perform 58 = .ok (.getfield 41, 3) := by decide +kernel
theorem dX7_perform_61 : decode cX7_perform 61 = .ok (.getfield 157, 3) := by decide +kernel
theorem dX7_perform_64 : decode cX7_perform 64 = .ok (.iload_n 2, 1) := by decide +kernel
theorem dX7_perform_65 : decode cX7_perform 65 = .ok (.iaload, 1) := by decide +kernel
theorem dX7_perform_66 : decode cX7_perform 66 = .ok (.aload_n 0, 1) := by decide +kernel
theorem dX7_perform_67 : decode cX7_perform 67 = .ok (.getfield 41, 3) := by decide +kernel
theorem dX7_perform_70 : decode cX7_perform 70 = .ok (.getfield 159, 3) := by decide +kernel
theorem dX7_perform_73 : decode cX7_perform 73 = .ok (.iload_n 2, 1) := by decide +kernel
theorem dX7_perform_74 : decode cX7_perform 74 = .ok (.iaload, 1) := by decide +kernel
theorem dX7_perform_75 : decode cX7_perform 75 = .ok (.invokevirtual 134, 3) := by decide +kernel
theorem dX7_perform_78 : decode cX7_perform 78 = .ok (.istore_n 3, 1) := by decide +kernel
theorem dX7_perform_79 : decode cX7_perform 79 = .ok (.goto 48, 3) := by decide +kernel
theorem dX7_perform_82 : decode cX7_perform 82 = .ok (.aload_n 0, 1) := by decide +kernel
theorem dX7_perform_83 : decode cX7_perform 83 = .ok (.getfield 41, 3) := by decide +kernel
theorem dX7_perform_86 : decode cX7_perform 86 = .ok (.getfield 153, 3) := by decide +kernel
theorem dX7_perform_89 : decode cX7_perform 89 = .ok (.iload_n 2, 1) := by decide +kernel
theorem dX7_perform_90 : decode cX7_perform 90 = .ok (.caload, 1) := by decide +kernel
theorem dX7_perform_91 : decode cX7_perform 91 = .ok (.bipush 33, 2) := by decide +kernel
theorem dX7_perform_93 : decode cX7_perform 93 = .ok (.if_icmp .ne 29, 3) := by decide +kernel
theorem dX7_perform_96 : decode cX7_perform 96 = .ok (.aload_n 0, 1) := by decide +kernel
theorem dX7_perform_97 : decode cX7_perform 97 = .ok (.aload_n 0, 1) := by decide +kernel
theorem dX7_perform_98 : decode cX7_perform 98 = .ok (.getfield 41, 3) := by decide +kernel
theorem dX7_perform_101 : decode cX7_perform 101 = .ok (.getfield 157, 3) := by decide +kernel
theorem dX7_perform_104 : decode cX7_perform 104 = .ok (.iload_n 2, 1) := by decide +kernel
theorem dX7_perform_105 : decode cX7_perform 105 = .ok (.iaload, 1) := by decide +kernel
theorem dX7_perform_106 : decode cX7_perform 106 = .ok (.aload_n 0, 1) := by decide +kernel
theorem dX7_perform_107 : decode cX7_perform 107 = .ok (.getfield 41, 3) := by decide +kernel
theorem dX7_perform_110 : decode cX7_perform 110 = .ok (.getfield 159, 3) := by decide +kernel
theorem dX7_perform_113 : decode cX7_perform 113 = .ok (.iload_n 2, 1) := by decide +kernel
theorem dX7_perform_114 : decode cX7_perform 114 = .ok (.iaload, 1) := by decide +kernel
theorem dX7_perform_115 : decode cX7_perform 115 = .ok (.invokevirtual 141, 3) := by decide +kernel
theorem dX7_perform_118 : decode cX7_perform 118 = .ok (.istore_n 3, 1) := by decide +kernel
theorem dX7_perform_119 : decode cX7_perform 119 = .ok (.goto 8, 3) := by decide +kernel
theorem dX7_perform_122 : decode cX7_perform 122 = .ok (.aload_n 0, 1) := by decide +kernel
theorem dX7_perform_123 : decode cX7_perform 123 = .ok (.invokevirtual 144, 3) := by decide +kernel
theorem dX7_perform_126 : decode cX7_perform 126 = .ok (.istore_n 3, 1) := by decide +kernel
theorem dX7_perform_127 : decode cX7_perform 127 = .ok (.iload_n 3, 1) := by decide +kernel
theorem dX7_perform_128 : decode cX7_perform 128 = .ok (.ifCond .ge 22, 3) := by decide +kernel
theorem dX7_perform_131 : decode cX7_perform 131 = .ok (.iload_n 3, 1) := by decide +kernel
theorem dX7_perform_132 : decode cX7_perform 132 = .ok (.bipush (-5), 2) := by decide +kernel
theorem dX7_perform_134 : decode cX7_perform 134 = .ok (.if_icmp .eq 16, 3) := by decide +kernel
theorem dX7_perform_137 : decode cX7_perform 137 = .ok (.aload_n 0, 1) := by decide +kernel
theorem dX7_perform_138 : decode cX7_perform 138 = .ok (.getfield 21, 3) := by decide +kernel
theorem dX7_perform_141 : decode cX7_perform 141 = .ok (.aload_n 0, 1) := by decide +kernel
theorem dX7_perform_142 : decode cX7_perform 142 = .ok (.getfield 25, 3) := by decide +kernel
theorem dX7_perform_145 : decode cX7_perform 145 = .ok (.invokevirtual 131, 3) := by decide +kernel
theorem dX7_perform_148 : decode cX7_perform 148 = .ok (.iload_n 3, 1) := by decide +kernel
theorem dX7_perform_149 : decode cX7_perform 149 = .ok (.ireturn, 1) := by decide +kernel
theorem dX7_perform_150 : decode cX7_perform 150 = .ok (.iinc 2 1, 3) := by decide +kernel
theorem dX7_perform_153 : decode cX7_perform 153 = .ok (.goto (-122), 3) := by decide +kernel
theorem dX7_perform_156 : decode cX7_perform 156 = .ok (.aload_n 0, 1) := by decide +kernel
theorem dX7_perform_157 : decode cX7_perform 157 = .ok (.aload_n 0, 1) := by decide +kernel
theorem dX7_perform_158 : decode cX7_perform 158 = .ok (.getfield 41, 3) := by decide +kernel
theorem dX7_perform_161 : decode cX7_perform 161 = .ok (.getfield 150, 3) := by decide +kernel
theorem dX7_perform_164 : decode cX7_perform 164 = .ok (.invokevirtual 138, 3) := by decide +kernel
theorem dX7_perform_167 : decode cX7_perform 167 = .ok (.ireturn, 1) := by decide +kernel
theorem dX7_recordedIfDone_0 : decode cX7_recordedIfDone 0 = .ok (.iload_n 1, 1) := by decide +kernel
theorem dX7_recordedIfDone_1 : decode cX7_recordedIfDone 1 = .ok (.ifCond .lt 14, 3) := by decide +kernel
theorem dX7_recordedIfDone_4 : decode cX7_recordedIfDone 4 = .ok (.aload_n 0, 1) := by decide +kernel
theorem dX7_recordedIfDone_5 : decode cX7_recordedIfDone 5 = .ok (.getfield 34, 3) := by decide +kernel
theorem dX7_recordedIfDone_8 : decode cX7_recordedIfDone 8 = .ok (.aload_n 0, 1) := by decide +kernel
theorem dX7_recordedIfDone_9 : decode cX7_recordedIfDone 9 = .ok (.getfield 25, 3) := by decide +kernel
theorem dX7_recordedIfDone_12 : decode cX7_recordedIfDone 12 = .ok (.invokevirtual 76, 3) := by decide +kernel
theorem dX7_recordedIfDone_15 : decode cX7_recordedIfDone 15 = .ok (.iload_n 1, 1) := by decide +kernel
theorem dX7_recordedIfDone_16 : decode cX7_recordedIfDone 16 = .ok (.ireturn, 1) := by decide +kernel
theorem dX7_moveUnit_0 : decode cX7_moveUnit 0 = .ok (.aload_n 0, 1) := by decide +kernel
theorem dX7_moveUnit_1 : decode cX7_moveUnit 1 = .ok (.getfield 21, 3) := by decide +kernel
theorem dX7_moveUnit_4 : decode cX7_moveUnit 4 = .ok (.iload_n 1, 1) := by decide +kernel
theorem dX7_moveUnit_5 : decode cX7_moveUnit 5 = .ok (.invokevirtual 162, 3) := by decide +kernel
theorem dX7_moveUnit_8 : decode cX7_moveUnit 8 = .ok (.ifCond .eq 10, 3) := by decide +kernel
theorem dX7_moveUnit_11 : decode cX7_moveUnit 11 = .ok (.iload_n 2, 1) := by decide +kernel
theorem dX7_moveUnit_12 : decode cX7_moveUnit 12 = .ok (.invokestatic 68, 3) := by decide +kernel
theorem dX7_moveUnit_15 : decode cX7_moveUnit 15 = .ok (.ifCond .ne 5, 3) := by decide +kernel
theorem dX7_moveUnit_18 : decode cX7_moveUnit 18 = .ok (.iconst (-1), 1) := by decide +kernel
theorem dX7_moveUnit_19 : decode cX7_moveUnit 19 = .ok (.ireturn, 1) := by decide +kernel
theorem dX7_moveUnit_20 : decode cX7_moveUnit 20 = .ok (.aload_n 0, 1) := by decide +kernel
theorem dX7_moveUnit_21 : decode cX7_moveUnit 21 = .ok (.getfield 21, 3) := by decide +kernel
theorem dX7_moveUnit_24 : decode cX7_moveUnit 24 = .ok (.getfield 165, 3) := by decide +kernel
theorem dX7_moveUnit_27 : decode cX7_moveUnit 27 = .ok (.iload_n 1, 1) := by decide +kernel
theorem dX7_moveUnit_28 : decode cX7_moveUnit 28 = .ok (.iaload, 1) := by decide +kernel
theorem dX7_moveUnit_29 : decode cX7_moveUnit 29 = .ok (.aload_n 0, 1) := by decide +kernel
theorem dX7_moveUnit_30 : decode cX7_moveUnit 30 = .ok (.getfield 21, 3) := by decide +kernel
theorem dX7_moveUnit_33 : decode cX7_moveUnit 33 = .ok (.invokevirtual 168, 3) := by decide +kernel
theorem dX7_moveUnit_36 : decode cX7_moveUnit 36 = .ok (.if_icmp .eq 6, 3) := by decide +kernel
theorem dX7_moveUnit_39 : decode cX7_moveUnit 39 = .ok (.bipush (-4), 2) := by decide +kernel
theorem dX7_moveUnit_41 : decode cX7_moveUnit 41 = .ok (.ireturn, 1) := by decide +kernel
theorem dX7_moveUnit_42 : decode cX7_moveUnit 42 = .ok (.aload_n 0, 1) := by decide +kernel
theorem dX7_moveUnit_43 : decode cX7_moveUnit 43 = .ok (.getfield 21, 3) := by decide +kernel
theorem dX7_moveUnit_46 : decode cX7_moveUnit 46 = .ok (.getfield 171, 3) := by decide +kernel
theorem dX7_moveUnit_49 : decode cX7_moveUnit 49 = .ok (.iload_n 1, 1) := by decide +kernel
theorem dX7_moveUnit_50 : decode cX7_moveUnit 50 = .ok (.iaload, 1) := by decide +kernel
theorem dX7_moveUnit_51 : decode cX7_moveUnit 51 = .ok (.iload_n 2, 1) := by decide +kernel
theorem dX7_moveUnit_52 : decode cX7_moveUnit 52 = .ok (.if_icmp .ne 6, 3) := by decide +kernel
theorem dX7_moveUnit_55 : decode cX7_moveUnit 55 = .ok (.bipush (-5), 2) := by decide +kernel
theorem dX7_moveUnit_57 : decode cX7_moveUnit 57 = .ok (.ireturn, 1) := by decide +kernel
theorem dX7_moveUnit_58 : decode cX7_moveUnit 58 = .ok (.aload_n 0, 1) := by decide +kernel
theorem dX7_moveUnit_59 : decode cX7_moveUnit 59 = .ok (.getfield 48, 3) := by decide +kernel
theorem dX7_moveUnit_62 : decode cX7_moveUnit 62 = .ok (.aload_n 0, 1) := by decide +kernel
theorem dX7_moveUnit_63 : decode cX7_moveUnit 63 = .ok (.getfield 21, 3) := by decide +kernel
theorem dX7_moveUnit_66 : decode cX7_moveUnit 66 = .ok (.iload_n 1, 1) := by decide +kernel
theorem dX7_moveUnit_67 : decode cX7_moveUnit 67 = .ok (.invokevirtual 172, 3) := by decide +kernel
theorem dX7_moveUnit_70 : decode cX7_moveUnit 70 = .ok (.aload_n 0, 1) := by decide +kernel
theorem dX7_moveUnit_71 : decode cX7_moveUnit 71 = .ok (.getfield 48, 3) := by decide +kernel
theorem dX7_moveUnit_74 : decode cX7_moveUnit 74 = .ok (.aload_n 0, 1) := by decide +kernel
theorem dX7_moveUnit_75 : decode cX7_moveUnit 75 = .ok (.getfield 21, 3) := by decide +kernel
theorem dX7_moveUnit_78 : decode cX7_moveUnit 78 = .ok (.iload_n 2, 1) := by decide +kernel
theorem dX7_moveUnit_79 : decode cX7_moveUnit 79 = .ok (.invokevirtual 176, 3) := by decide +kernel
theorem dX7_moveUnit_82 : decode cX7_moveUnit 82 = .ok (.ifCond .ne 6, 3) := by decide +kernel
theorem dX7_moveUnit_85 : decode cX7_moveUnit 85 = .ok (.bipush (-4), 2) := by decide +kernel
theorem dX7_moveUnit_87 : decode cX7_moveUnit 87 = .ok (.ireturn, 1) := by decide +kernel
theorem dX7_moveUnit_88 : decode cX7_moveUnit 88 = .ok (.aload_n 0, 1) := by decide +kernel
theorem dX7_moveUnit_89 : decode cX7_moveUnit 89 = .ok (.getfield 21, 3) := by decide +kernel
theorem dX7_moveUnit_92 : decode cX7_moveUnit 92 = .ok (.getfield 180, 3) := by decide +kernel
theorem dX7_moveUnit_95 : decode cX7_moveUnit 95 = .ok (.iload_n 1, 1) := by decide +kernel
theorem dX7_moveUnit_96 : decode cX7_moveUnit 96 = .ok (.dup2, 1) := by decide +kernel
theorem dX7_moveUnit_97 : decode cX7_moveUnit 97 = .ok (.iaload, 1) := by decide +kernel
theorem dX7_moveUnit_98 : decode cX7_moveUnit 98 = .ok (.aload_n 0, 1) := by decide +kernel
theorem dX7_moveUnit_99 : decode cX7_moveUnit 99 = .ok (.getfield 48, 3) := by decide +kernel
theorem dX7_moveUnit_102 : decode cX7_moveUnit 102 = .ok (.getfield 183, 3) := by decide +kernel
theorem dX7_moveUnit_105 : decode cX7_moveUnit 105 = .ok (.iload_n 2, 1) := by decide +kernel
theorem dX7_moveUnit_106 : decode cX7_moveUnit 106 = .ok (.iaload, 1) := by decide +kernel
theorem dX7_moveUnit_107 : decode cX7_moveUnit 107 = .ok (.isub, 1) := by decide +kernel
theorem dX7_moveUnit_108 : decode cX7_moveUnit 108 = .ok (.iastore, 1) := by decide +kernel
theorem dX7_moveUnit_109 : decode cX7_moveUnit 109 = .ok (.aload_n 0, 1) := by decide +kernel
theorem dX7_moveUnit_110 : decode cX7_moveUnit 110 = .ok (.getfield 21, 3) := by decide +kernel
theorem dX7_moveUnit_113 : decode cX7_moveUnit 113 = .ok (.iload_n 1, 1) := by decide +kernel
theorem dX7_moveUnit_114 : decode cX7_moveUnit 114 = .ok (.iload_n 2, 1) := by decide +kernel
theorem dX7_moveUnit_115 : decode cX7_moveUnit 115 = .ok (.invokevirtual 186, 3) := by decide +kernel
theorem dX7_moveUnit_118 : decode cX7_moveUnit 118 = .ok (.aload_n 0, 1) := by decide +kernel
theorem dX7_moveUnit_119 : decode cX7_moveUnit 119 = .ok (.getfield 21, 3) := by decide +kernel
theorem dX7_moveUnit_122 : decode cX7_moveUnit 122 = .ok (.getfield 180, 3) := by decide +kernel
theorem dX7_moveUnit_125 : decode cX7_moveUnit 125 = .ok (.iload_n 1, 1) := by decide +kernel
theorem dX7_moveUnit_126 : decode cX7_moveUnit 126 = .ok (.iaload, 1) := by decide +kernel
theorem dX7_moveUnit_127 : decode cX7_moveUnit 127 = .ok (.ireturn, 1) := by decide +kernel
theorem dX7_strike_0 : decode cX7_strike 0 = .ok (.aload_n 0, 1) := by decide +kernel
theorem dX7_strike_1 : decode cX7_strike 1 = .ok (.getfield 21, 3) := by decide +kernel
theorem dX7_strike_4 : decode cX7_strike 4 = .ok (.iload_n 1, 1) := by decide +kernel
theorem dX7_strike_5 : decode cX7_strike 5 = .ok (.invokevirtual 162, 3) := by decide +kernel
theorem dX7_strike_8 : decode cX7_strike 8 = .ok (.ifCond .eq 10, 3) := by decide +kernel
theorem dX7_strike_11 : decode cX7_strike 11 = .ok (.iload_n 2, 1) := by decide +kernel
theorem dX7_strike_12 : decode cX7_strike 12 = .ok (.invokestatic 68, 3) := by decide +kernel
theorem dX7_strike_15 : decode cX7_strike 15 = .ok (.ifCond .ne 5, 3) := by decide +kernel
theorem dX7_strike_18 : decode cX7_strike 18 = .ok (.iconst (-1), 1) := by decide +kernel
theorem dX7_strike_19 : decode cX7_strike 19 = .ok (.ireturn, 1) := by decide +kernel
theorem dX7_strike_20 : decode cX7_strike 20 = .ok (.aload_n 0, 1) := by decide +kernel
theorem dX7_strike_21 : decode cX7_strike 21 = .ok (.getfield 21, 3) := by decide +kernel
theorem dX7_strike_24 : decode cX7_strike 24 = .ok (.getfield 165, 3) := by decide +kernel
theorem dX7_strike_27 : decode cX7_strike 27 = .ok (.iload_n 1, 1) := by decide +kernel
theorem dX7_strike_28 : decode cX7_strike 28 = .ok (.iaload, 1) := by decide +kernel
theorem dX7_strike_29 : decode cX7_strike 29 = .ok (.aload_n 0, 1) := by decide +kernel
theorem dX7_strike_30 : decode cX7_strike 30 = .ok (.getfield 21, 3) := by decide +kernel
theorem dX7_strike_33 : decode cX7_strike 33 = .ok (.invokevirtual 168, 3) := by decide +kernel
theorem dX7_strike_36 : decode cX7_strike 36 = .ok (.if_icmp .ne 24, 3) := by decide +kernel
theorem dX7_strike_39 : decode cX7_strike 39 = .ok (.aload_n 0, 1) := by decide +kernel
theorem dX7_strike_40 : decode cX7_strike 40 = .ok (.getfield 21, 3) := by decide +kernel
theorem dX7_strike_43 : decode cX7_strike 43 = .ok (.getfield 190, 3) := by decide +kernel
theorem dX7_strike_46 : decode cX7_strike 46 = .ok (.iload_n 1, 1) := by decide +kernel
theorem dX7_strike_47 : decode cX7_strike 47 = .ok (.iaload, 1) := by decide +kernel
theorem dX7_strike_48 : decode cX7_strike 48 = .ok (.ifCond .eq 12, 3) := by decide +kernel
theorem dX7_strike_51 : decode cX7_strike 51 = .ok (.aload_n 0, 1) := by decide +kernel
theorem dX7_strike_52 : decode cX7_strike 52 = .ok (.iload_n 1, 1) := by decide +kernel
theorem dX7_strike_53 : decode cX7_strike 53 = .ok (.iload_n 2, 1) := by decide +kernel
theorem dX7_strike_54 : decode cX7_strike 54 = .ok (.invokevirtual 193, 3) := by decide +kernel
theorem dX7_strike_57 : decode cX7_strike 57 = .ok (.ifCond .ne 6, 3) := by decide +kernel
theorem dX7_strike_60 : decode cX7_strike 60 = .ok (.bipush (-4), 2) := by decide +kernel
theorem dX7_strike_62 : decode cX7_strike 62 = .ok (.ireturn, 1) := by decide +kernel
theorem dX7_strike_63 : decode cX7_strike 63 = .ok (.aload_n 0, 1) := by decide +kernel
theorem dX7_strike_64 : decode cX7_strike 64 = .ok (.getfield 21, 3) := by decide +kernel
theorem dX7_strike_67 : decode cX7_strike 67 = .ok (.getfield 196, 3) := by decide +kernel
theorem dX7_strike_70 : decode cX7_strike 70 = .ok (.iload_n 2, 1) := by decide +kernel
theorem dX7_strike_71 : decode cX7_strike 71 = .ok (.iaload, 1) := by decide +kernel
theorem dX7_strike_72 : decode cX7_strike 72 = .ok (.istore_n 3, 1) := by decide +kernel
theorem dX7_strike_73 : decode cX7_strike 73 = .ok (.aload_n 0, 1) := by decide +kernel
theorem dX7_strike_74 : decode cX7_strike 74 = .ok (.getfield 64, 3) := by decide +kernel
theorem dX7_strike_77 : decode cX7_strike 77 = .ok (.aload_n 0, 1) := by decide +kernel
theorem dX7_strike_78 : decode cX7_strike 78 = .ok (.getfield 21, 3) := by decide +kernel
theorem dX7_strike_81 : decode cX7_strike 81 = .ok (.iload_n 1, 1) := by decide +kernel
theorem dX7_strike_82 : decode cX7_strike 82 = .ok (.iload_n 3, 1) := by decide +kernel
theorem dX7_strike_83 : decode cX7_strike 83 = .ok (.invokevirtual 199, 3) := by decide +kernel
theorem dX7_strike_86 : decode cX7_strike 86 = .ok (.aload_n 0, 1) := by decide +kernel
theorem dX7_strike_87 : decode cX7_strike 87 = .ok (.getfield 21, 3) := by decide +kernel
theorem dX7_strike_90 : decode cX7_strike 90 = .ok (.getfield 190, 3) := by decide +kernel
theorem dX7_strike_93 : decode cX7_strike 93 = .ok (.iload_n 1, 1) := by decide +kernel
theorem dX7_strike_94 : decode cX7_strike 94 = .ok (.dup2, 1) := by decide +kernel
theorem dX7_strike_95 : decode cX7_strike 95 = .ok (.iaload, 1) := by decide +kernel
theorem dX7_strike_96 : decode cX7_strike 96 = .ok (.iconst 1, 1) := by decide +kernel
theorem dX7_strike_97 : decode cX7_strike 97 = .ok (.isub, 1) := by decide +kernel
theorem dX7_strike_98 : decode cX7_strike 98 = .ok (.iastore, 1) := by decide +kernel
theorem dX7_strike_99 : decode cX7_strike 99 = .ok (.aload_n 0, 1) := by decide +kernel
theorem dX7_strike_100 : decode cX7_strike 100 = .ok (.getfield 21, 3) := by decide +kernel
theorem dX7_strike_103 : decode cX7_strike 103 = .ok (.iload_n 1, 1) := by decide +kernel
theorem dX7_strike_104 : decode cX7_strike 104 = .ok (.aload_n 0, 1) := by decide +kernel
theorem dX7_strike_105 : decode cX7_strike 105 = .ok (.getfield 64, 3) := by decide +kernel
theorem dX7_strike_108 : decode cX7_strike 108 = .ok (.getfield 203, 3) := by decide +kernel
theorem dX7_strike_111 : decode cX7_strike 111 = .ok (.invokevirtual 206, 3) := by decide +kernel
theorem dX7_strike_114 : decode cX7_strike 114 = .ok (.aload_n 0, 1) := by decide +kernel
theorem dX7_strike_115 : decode cX7_strike 115 = .ok (.getfield 21, 3) := by decide +kernel
theorem dX7_strike_118 : decode cX7_strike 118 = .ok (.iload_n 3, 1) := by decide +kernel
theorem dX7_strike_119 : decode cX7_strike 119 = .ok (.aload_n 0, 1) := by decide +kernel
theorem dX7_strike_120 : decode cX7_strike 120 = .ok (.getfield 64, 3) := by decide +kernel
theorem dX7_strike_123 : decode cX7_strike 123 = .ok (.getfield 209, 3) := by decide +kernel
theorem dX7_strike_126 : decode cX7_strike 126 = .ok (.invokevirtual 206, 3) := by decide +kernel
theorem dX7_strike_129 : decode cX7_strike 129 = .ok (.aload_n 0, 1) := by decide +kernel
theorem dX7_strike_130 : decode cX7_strike 130 = .ok (.getfield 64, 3) := by decide +kernel
theorem dX7_strike_133 : decode cX7_strike 133 = .ok (.getfield 209, 3) := by decide +kernel
theorem dX7_strike_136 : decode cX7_strike 136 = .ok (.ifCond .ne 12, 3) := by decide +kernel
theorem dX7_strike_139 : decode cX7_strike 139 = .ok (.aload_n 0, 1) := by decide +kernel
theorem dX7_strike_140 : decode cX7_strike 140 = .ok (.getfield 21, 3) := by decide +kernel
theorem dX7_strike_143 : decode cX7_strike 143 = .ok (.iload_n 1, 1) := by decide +kernel
theorem dX7_strike_144 : decode cX7_strike 144 = .ok (.iload_n 2, 1) := by decide +kernel
theorem dX7_strike_145 : decode cX7_strike 145 = .ok (.invokevirtual 186, 3) := by decide +kernel
theorem dX7_strike_148 : decode cX7_strike 148 = .ok (.aload_n 0, 1) := by decide +kernel
theorem dX7_strike_149 : decode cX7_strike 149 = .ok (.getfield 64, 3) := by decide +kernel
theorem dX7_strike_152 : decode cX7_strike 152 = .ok (.getfield 209, 3) := by decide +kernel
theorem dX7_strike_155 : decode cX7_strike 155 = .ok (.ireturn, 1) := by decide +kernel
theorem dX7_canFight_0 : decode cX7_canFight 0 = .ok (.aload_n 0, 1) := by decide +kernel
theorem dX7_canFight_1 : decode cX7_canFight 1 = .ok (.getfield 21, 3) := by decide +kernel
theorem dX7_canFight_4 : decode cX7_canFight 4 = .ok (.iload_n 2, 1) := by decide +kernel
theorem dX7_canFight_5 : decode cX7_canFight 5 = .ok (.invokevirtual 124, 3) := by decide +kernel
theorem dX7_canFight_8 : decode cX7_canFight 8 = .ok (.iconst 1, 1) := by decide +kernel
theorem dX7_canFight_9 : decode cX7_canFight 9 = .ok (.aload_n 0, 1) := by decide +kernel
theorem dX7_canFight_10 : decode cX7_canFight 10 = .ok (.getfield 21, 3) := by decide +kernel
theorem dX7_canFight_13 : decode cX7_canFight 13 = .ok (.getfield 165, 3) := by decide +kernel
theorem dX7_canFight_16 : decode cX7_canFight 16 = .ok (.iload_n 1, 1) := by decide +kernel
theorem dX7_canFight_17 : decode cX7_canFight 17 = .ok (.iaload, 1) := by decide +kernel
theorem dX7_canFight_18 : decode cX7_canFight 18 = .ok (.isub, 1) := by decide +kernel
theorem dX7_canFight_19 : decode cX7_canFight 19 = .ok (.if_icmp .ne 28, 3) := by decide +kernel
theorem dX7_canFight_22 : decode cX7_canFight 22 = .ok (.aload_n 0, 1) := by decide +kernel
theorem dX7_canFight_23 : decode cX7_canFight 23 = .ok (.getfield 10, 3) := by decide +kernel
theorem dX7_canFight_26 : decode cX7_canFight 26 = .ok (.aload_n 0, 1) := by decide +kernel
theorem dX7_canFight_27 : decode cX7_canFight 27 = .ok (.getfield 21, 3) := by decide +kernel
theorem dX7_canFight_30 : decode cX7_canFight 30 = .ok (.getfield 171, 3) := by decide +kernel
theorem dX7_canFight_33 : decode cX7_canFight 33 = .ok (.iload_n 1, 1) := by decide +kernel
theorem dX7_canFight_34 : decode cX7_canFight 34 = .ok (.iaload, 1) := by decide +kernel
theorem dX7_canFight_35 : decode cX7_canFight 35 = .ok (.iload_n 2, 1) := by decide +kernel
theorem dX7_canFight_36 : decode cX7_canFight 36 = .ok (.invokevirtual 212, 3) := by decide +kernel
theorem dX7_canFight_39 : decode cX7_canFight 39 = .ok (.iconst (-1), 1) := by decide +kernel
theorem dX7_canFight_40 : decode cX7_canFight 40 = .ok (.if_icmp .eq 7, 3) := by decide +kernel
theorem dX7_canFight_43 : decode cX7_canFight 43 = .ok (.iconst 1, 1) := by decide +kernel
theorem dX7_canFight_44 : decode cX7_canFight 44 = .ok (.goto 4, 3) := by decide +kernel
theorem dX7_canFight_47 : decode cX7_canFight 47 = .ok (.iconst 0, 1) := by decide +kernel
theorem dX7_canFight_48 : decode cX7_canFight 48 = .ok (.ireturn, 1) := by decide +kernel
theorem dX7_finishTurn_0 : decode cX7_finishTurn 0 = .ok (.aload_n 0, 1) := by decide +kernel
theorem dX7_finishTurn_1 : decode cX7_finishTurn 1 = .ok (.getfield 21, 3) := by decide +kernel
theorem dX7_finishTurn_4 : decode cX7_finishTurn 4 = .ok (.getfield 215, 3) := by decide +kernel
theorem dX7_finishTurn_7 : decode cX7_finishTurn 7 = .ok (.sipush 999, 3) := by decide +kernel
theorem dX7_finishTurn_10 : decode cX7_finishTurn 10 = .ok (.if_icmp .lt 6, 3) := by decide +kernel
theorem dX7_finishTurn_13 : decode cX7_finishTurn 13 = .ok (.bipush (-3), 2) := by decide +kernel
theorem dX7_finishTurn_15 : decode cX7_finishTurn 15 = .ok (.ireturn, 1) := by decide +kernel
theorem dX7_finishTurn_16 : decode cX7_finishTurn 16 = .ok (.aload_n 0, 1) := by decide +kernel
theorem dX7_finishTurn_17 : decode cX7_finishTurn 17 = .ok (.aload_n 0, 1) := by decide +kernel
theorem dX7_finishTurn_18 : decode cX7_finishTurn 18 = .ok (.getfield 21, 3) := by decide +kernel
theorem dX7_finishTurn_21 : decode cX7_finishTurn 21 = .ok (.invokevirtual 168, 3) := by decide +kernel
theorem dX7_finishTurn_24 : decode cX7_finishTurn 24 = .ok (.invokevirtual 218, 3) := by decide +kernel
theorem dX7_finishTurn_27 : decode cX7_finishTurn 27 = .ok (.istore_n 1, 1) := by decide +kernel
theorem dX7_finishTurn_28 : decode cX7_finishTurn 28 = .ok (.aload_n 0, 1) := by decide +kernel
theorem dX7_finishTurn_29 : decode cX7_finishTurn 29 = .ok (.getfield 21, 3) := by decide +kernel
theorem dX7_finishTurn_32 : decode cX7_finishTurn 32 = .ok (.dup, 1) := by decide +kernel
theorem dX7_finishTurn_33 : decode cX7_finishTurn 33 = .ok (.getfield 215, 3) := by decide +kernel
theorem dX7_finishTurn_36 : decode cX7_finishTurn 36 = .ok (.iconst 1, 1) := by decide +kernel
theorem dX7_finishTurn_37 : decode cX7_finishTurn 37 = .ok (.iadd, 1) := by decide +kernel
theorem dX7_finishTurn_38 : decode cX7_finishTurn 38 = .ok (.putfield 215, 3) := by decide +kernel
theorem dX7_finishTurn_41 : decode cX7_finishTurn 41 = .ok (.aload_n 0, 1) := by decide +kernel
theorem dX7_finishTurn_42 : decode cX7_finishTurn 42 = .ok (.getfield 21, 3) := by decide +kernel
theorem dX7_finishTurn_45 : decode cX7_finishTurn 45 = .ok (.aload_n 0, 1) := by decide +kernel
theorem dX7_finishTurn_46 : decode cX7_finishTurn 46 = .ok (.getfield 21, 3) := by decide +kernel
theorem dX7_finishTurn_49 : decode cX7_finishTurn 49 = .ok (.invokevirtual 168, 3) := by decide +kernel
theorem dX7_finishTurn_52 : decode cX7_finishTurn 52 = .ok (.invokevirtual 221, 3) := by decide +kernel
theorem dX7_finishTurn_55 : decode cX7_finishTurn 55 = .ok (.iload_n 1, 1) := by decide +kernel
theorem dX7_finishTurn_56 : decode cX7_finishTurn 56 = .ok (.ireturn, 1) := by decide +kernel
theorem dX7_starve_0 : decode cX7_starve 0 = .ok (.aload_n 0, 1) := by decide +kernel
theorem dX7_starve_1 : decode cX7_starve 1 = .ok (.getfield 55, 3) := by decide +kernel
theorem dX7_starve_4 : decode cX7_starve 4 = .ok (.aload_n 0, 1) := by decide +kernel
theorem dX7_starve_5 : decode cX7_starve 5 = .ok (.getfield 21, 3) := by decide +kernel
theorem dX7_starve_8 : decode cX7_starve 8 = .ok (.iload_n 1, 1) := by decide +kernel
theorem dX7_starve_9 : decode cX7_starve 9 = .ok (.invokevirtual 224, 3) := by decide +kernel
theorem dX7_starve_12 : decode cX7_starve 12 = .ok (.iconst 0, 1) := by decide +kernel
theorem dX7_starve_13 : decode cX7_starve 13 = .ok (.istore_n 2, 1) := by decide +kernel
theorem dX7_starve_14 : decode cX7_starve 14 = .ok (.iconst 0, 1) := by decide +kernel
theorem dX7_starve_15 : decode cX7_starve 15 = .ok (.istore_n 3, 1) := by decide +kernel
theorem dX7_starve_16 : decode cX7_starve 16 = .ok (.iload_n 3, 1) := by decide +kernel
theorem dX7_starve_17 : decode cX7_starve 17 = .ok (.aload_n 0, 1) := by decide +kernel
theorem dX7_starve_18 : decode cX7_starve 18 = .ok (.getfield 21, 3) := by decide +kernel
theorem dX7_starve_21 : decode cX7_starve 21 = .ok (.getfield 120, 3) := by decide +kernel
theorem dX7_starve_24 : decode cX7_starve 24 = .ok (.if_icmp .ge 120, 3) := by decide +kernel
theorem dX7_starve_27 : decode cX7_starve 27 = .ok (.aload_n 0, 1) := by decide +kernel
theorem dX7_starve_28 : decode cX7_starve 28 = .ok (.getfield 21, 3) := by decide +kernel
theorem dX7_starve_31 : decode cX7_starve 31 = .ok (.iload_n 3, 1) := by decide +kernel
theorem dX7_starve_32 : decode cX7_starve 32 = .ok (.iload_n 1, 1) := by decide +kernel
theorem dX7_starve_33 : decode cX7_starve 33 = .ok (.invokevirtual 225, 3) := by decide +kernel
theorem dX7_starve_36 : decode cX7_starve 36 = .ok (.ifCond .ne 6, 3) := by decide +kernel
theorem dX7_starve_39 : decode cX7_starve 39 = .ok (.goto 99, 3) := by decide +kernel
theorem dX7_starve_42 : decode cX7_starve 42 = .ok (.aload_n 0, 1) := by decide +kernel
theorem dX7_starve_43 : decode cX7_starve 43 = .ok (.getfield 55, 3) := by decide +kernel
theorem dX7_starve_46 : decode cX7_starve 46 = .ok (.aload_n 0, 1) := by decide +kernel
theorem dX7_starve_47 : decode cX7_starve 47 = .ok (.getfield 21, 3) := by decide +kernel
theorem dX7_starve_50 : decode cX7_starve 50 = .ok (.getfield 171, 3) := by decide +kernel
theorem dX7_starve_53 : decode cX7_starve 53 = .ok (.iload_n 3, 1) := by decide +kernel
theorem dX7_starve_54 : decode cX7_starve 54 = .ok (.iaload, 1) := by decide +kernel
theorem dX7_starve_55 : decode cX7_starve 55 = .ok (.invokevirtual 228, 3) := by decide +kernel
theorem dX7_starve_58 : decode cX7_starve 58 = .ok (.ifCond .eq 16, 3) := by decide +kernel
theorem dX7_starve_61 : decode cX7_starve 61 = .ok (.aload_n 0, 1) := by decide +kernel
theorem dX7_starve_62 : decode cX7_starve 62 = .ok (.getfield 21, 3) := by decide +kernel
theorem dX7_starve_65 : decode cX7_starve 65 = .ok (.getfield 231, 3) := by decide +kernel
theorem dX7_starve_68 : decode cX7_starve 68 = .ok (.iload_n 3, 1) := by decide +kernel
theorem dX7_starve_69 : decode cX7_starve 69 = .ok (.iconst 0, 1) := by decide +kernel
theorem dX7_starve_70 : decode cX7_starve 70 = .ok (.iastore, 1) := by decide +kernel
theorem dX7_starve_71 : decode cX7_starve 71 = .ok (.goto 67, 3) := by decide +kernel
theorem dX7_starve_74 : decode cX7_starve 74 = .ok (.aload_n 0, 1) := by decide +kernel
theorem dX7_starve_75 : decode cX7_starve 75 = .ok (.getfield 21, 3) := by decide +kernel
theorem dX7_starve_78 : decode cX7_starve 78 = .ok (.getfield 231, 3) := by decide +kernel
theorem dX7_starve_81 : decode cX7_starve 81 = .ok (.iload_n 3, 1) := by decide +kernel
theorem dX7_starve_82 : decode cX7_starve 82 = .ok (.dup2, 1) := by decide +kernel
theorem dX7_starve_83 : decode cX7_starve 83 = .ok (.iaload, 1) := by decide +kernel
theorem dX7_starve_84 : decode cX7_starve 84 = .ok (.iconst 1, 1) := by decide +kernel
theorem dX7_starve_85 : decode cX7_starve 85 = .ok (.iadd, 1) := by decide +kernel
theorem dX7_starve_86 : decode cX7_starve 86 = .ok (.iastore, 1) := by decide +kernel
theorem dX7_starve_87 : decode cX7_starve 87 = .ok (.aload_n 0, 1) := by decide +kernel
theorem dX7_starve_88 : decode cX7_starve 88 = .ok (.getfield 21, 3) := by decide +kernel
theorem dX7_starve_91 : decode cX7_starve 91 = .ok (.getfield 231, 3) := by decide +kernel
theorem dX7_starve_94 : decode cX7_starve 94 = .ok (.iload_n 3, 1) := by decide +kernel
theorem dX7_starve_95 : decode cX7_starve 95 = .ok (.iaload, 1) := by decide +kernel
theorem dX7_starve_96 : decode cX7_starve 96 = .ok (.iconst 2, 1) := by decide +kernel
theorem dX7_starve_97 : decode cX7_starve 97 = .ok (.if_icmp .lt 41, 3) := by decide +kernel
theorem dX7_starve_100 : decode cX7_starve 100 = .ok (.aload_n 0, 1) := by decide +kernel
theorem dX7_starve_101 : decode cX7_starve 101 = .ok (.getfield 21, 3) := by decide +kernel
theorem dX7_starve_104 : decode cX7_starve 104 = .ok (.iload_n 3, 1) := by decide +kernel
theorem dX7_starve_105 : decode cX7_starve 105 = .ok (.aload_n 0, 1) := by decide +kernel
theorem dX7_starve_106 : decode cX7_starve 106 = .ok (.getfield 21, 3) := by decide +kernel
theorem dX7_starve_109 : decode cX7_starve 109 = .ok (.getfield 234, 3) := by decide +kernel
theorem dX7_starve_112 : decode cX7_starve 112 = .ok (.iload_n 3, 1) := by decide +kernel
theorem dX7_starve_113 : decode cX7_starve 113 = .ok (.iaload, 1) := by decide +kernel
theorem dX7_starve_114 : decode cX7_starve 114 = .ok (.iconst 1, 1) := by decide +kernel
theorem dX7_starve_115 : decode cX7_starve 115 = .ok (.isub, 1) := by decide +kernel
theorem dX7_starve_116 : decode cX7_starve 116 = .ok (.invokevirtual 206, 3) := by decide +kernel
theorem dX7_starve_119 : decode cX7_starve 119 = .ok (.iload_n 2, 1) := by decide +kernel
theorem dX7_starve_120 : decode cX7_starve 120 = .ok (.aload_n 0, 1) := by decide +kernel
theorem dX7_starve_121 : decode cX7_starve 121 = .ok (.getfield 21, 3) := by decide +kernel
theorem dX7_starve_124 : decode cX7_starve 124 = .ok (.iload_n 3, 1) := by decide +kernel
theorem dX7_starve_125 : decode cX7_starve 125 = .ok (.invokevirtual 162, 3) := by decide +kernel
theorem dX7_starve_128 : decode cX7_starve 128 = .ok (.ifCond .eq 7, 3) := by decide +kernel
theorem dX7_starve_131 : decode cX7_starve 131 = .ok (.iconst 0, 1) := by decide +kernel
theorem dX7_starve_132 : decode cX7_starve 132 = .ok (.goto 4, 3) := by decide +kernel
theorem dX7_starve_135 : decode cX7_starve 135 = .ok (.iconst 1, 1) := by decide +kernel
theorem dX7_starve_136 : decode cX7_starve 136 = .ok (.iadd, 1) := by decide +kernel
theorem dX7_starve_137 : decode cX7_starve 137 = .ok (.istore_n 2, 1) := by decide +kernel
theorem dX7_starve_138 : decode cX7_starve 138 = .ok (.iinc 3 1, 3) := by decide +kernel
theorem dX7_starve_141 : decode cX7_starve 141 = .ok (.goto (-125), 3) := by decide +kernel
theorem dX7_starve_144 : decode cX7_starve 144 = .ok (.iload_n 2, 1) := by decide +kernel
theorem dX7_starve_145 : decode cX7_starve 145 = .ok (.ireturn, 1) := by decide +kernel
theorem dX7_type_0 : decode cX7_type 0 = .ok (.aload_n 0, 1) := by decide +kernel
theorem dX7_type_1 : decode cX7_type 1 = .ok (.getfield 41, 3) := by decide +kernel
theorem dX7_type_4 : decode cX7_type 4 = .ok (.iload_n 1, 1) := by decide +kernel
theorem dX7_type_5 : decode cX7_type 5 = .ok (.invokevirtual 237, 3) := by decide +kernel
theorem dX7_type_8 : decode cX7_type 8 = .ok (.ifCond .eq 13, 3) := by decide +kernel
theorem dX7_type_11 : decode cX7_type 11 = .ok (.aload_n 0, 1) := by decide +kernel
theorem dX7_type_12 : decode cX7_type 12 = .ok (.getfield 41, 3) := by decide +kernel
theorem dX7_type_15 : decode cX7_type 15 = .ok (.getfield 241, 3) := by decide +kernel
theorem dX7_type_18 : decode cX7_type 18 = .ok (.goto 5, 3) := by decide +kernel
theorem dX7_type_21 : decode cX7_type 21 = .ok (.bipush (-3), 2) := by decide +kernel
theorem dX7_type_23 : decode cX7_type 23 = .ok (.ireturn, 1) := by decide +kernel
theorem dX7_clearText_0 : decode cX7_clearText 0 = .ok (.aload_n 0, 1) := by decide +kernel
theorem dX7_clearText_1 : decode cX7_clearText 1 = .ok (.getfield 41, 3) := by decide +kernel
theorem dX7_clearText_4 : decode cX7_clearText 4 = .ok (.getfield 241, 3) := by decide +kernel
theorem dX7_clearText_7 : decode cX7_clearText 7 = .ok (.istore_n 1, 1) := by decide +kernel
theorem dX7_clearText_8 : decode cX7_clearText 8 = .ok (.aload_n 0, 1) := by decide +kernel
theorem dX7_clearText_9 : decode cX7_clearText 9 = .ok (.getfield 41, 3) := by decide +kernel
theorem dX7_clearText_12 : decode cX7_clearText 12 = .ok (.iconst 0, 1) := by decide +kernel
theorem dX7_clearText_13 : decode cX7_clearText 13 = .ok (.putfield 241, 3) := by decide +kernel
theorem dX7_clearText_16 : decode cX7_clearText 16 = .ok (.iload_n 1, 1) := by decide +kernel
theorem dX7_clearText_17 : decode cX7_clearText 17 = .ok (.ireturn, 1) := by decide +kernel
theorem dX7_undo_0 : decode cX7_undo 0 = .ok (.aload_n 0, 1) := by decide +kernel
theorem dX7_undo_1 : decode cX7_undo 1 = .ok (.getfield 34, 3) := by decide +kernel
theorem dX7_undo_4 : decode cX7_undo 4 = .ok (.aload_n 0, 1) := by decide +kernel
theorem dX7_undo_5 : decode cX7_undo 5 = .ok (.getfield 21, 3) := by decide +kernel
theorem dX7_undo_8 : decode cX7_undo 8 = .ok (.invokevirtual 244, 3) := by decide +kernel
theorem dX7_undo_11 : decode cX7_undo 11 = .ok (.ifCond .eq 13, 3) := by decide +kernel
theorem dX7_undo_14 : decode cX7_undo 14 = .ok (.aload_n 0, 1) := by decide +kernel
theorem dX7_undo_15 : decode cX7_undo 15 = .ok (.getfield 34, 3) := by decide +kernel
theorem dX7_undo_18 : decode cX7_undo 18 = .ok (.getfield 248, 3) := by decide +kernel
theorem dX7_undo_21 : decode cX7_undo 21 = .ok (.goto 5, 3) := by decide +kernel
theorem dX7_undo_24 : decode cX7_undo 24 = .ok (.bipush (-5), 2) := by decide +kernel
theorem dX7_undo_26 : decode cX7_undo 26 = .ok (.ireturn, 1) := by decide +kernel
theorem dX7_keep_0 : decode cX7_keep 0 = .ok (.aload_n 0, 1) := by decide +kernel
theorem dX7_keep_1 : decode cX7_keep 1 = .ok (.getfield 28, 3) := by decide +kernel
theorem dX7_keep_4 : decode cX7_keep 4 = .ok (.aload_n 0, 1) := by decide +kernel
theorem dX7_keep_5 : decode cX7_keep 5 = .ok (.getfield 21, 3) := by decide +kernel
theorem dX7_keep_8 : decode cX7_keep 8 = .ok (.invokevirtual 131, 3) := by decide +kernel
theorem dX7_keep_11 : decode cX7_keep 11 = .ok (.aload_n 0, 1) := by decide +kernel
theorem dX7_keep_12 : decode cX7_keep 12 = .ok (.iconst 1, 1) := by decide +kernel
theorem dX7_keep_13 : decode cX7_keep 13 = .ok (.putfield 251, 3) := by decide +kernel
theorem dX7_keep_16 : decode cX7_keep 16 = .ok (.aload_n 0, 1) := by decide +kernel
theorem dX7_keep_17 : decode cX7_keep 17 = .ok (.getfield 21, 3) := by decide +kernel
theorem dX7_keep_20 : decode cX7_keep 20 = .ok (.getfield 215, 3) := by decide +kernel
theorem dX7_keep_23 : decode cX7_keep 23 = .ok (.ireturn, 1) := by decide +kernel
theorem dX7_restore_0 : decode cX7_restore 0 = .ok (.aload_n 0, 1) := by decide +kernel
theorem dX7_restore_1 : decode cX7_restore 1 = .ok (.getfield 251, 3) := by decide +kernel
theorem dX7_restore_4 : decode cX7_restore 4 = .ok (.ifCond .ne 6, 3) := by decide +kernel
theorem dX7_restore_7 : decode cX7_restore 7 = .ok (.bipush (-5), 2) := by decide +kernel
theorem dX7_restore_9 : decode cX7_restore 9 = .ok (.ireturn, 1) := by decide +kernel
theorem dX7_restore_10 : decode cX7_restore 10 = .ok (.aload_n 0, 1) := by decide +kernel
theorem dX7_restore_11 : decode cX7_restore 11 = .ok (.getfield 34, 3) := by decide +kernel
theorem dX7_restore_14 : decode cX7_restore 14 = .ok (.aload_n 0, 1) := by decide +kernel
theorem dX7_restore_15 : decode cX7_restore 15 = .ok (.getfield 21, 3) := by decide +kernel
theorem dX7_restore_18 : decode cX7_restore 18 = .ok (.invokevirtual 76, 3) := by decide +kernel
theorem dX7_restore_21 : decode cX7_restore 21 = .ok (.aload_n 0, 1) := by decide +kernel
theorem dX7_restore_22 : decode cX7_restore 22 = .ok (.getfield 21, 3) := by decide +kernel
theorem dX7_restore_25 : decode cX7_restore 25 = .ok (.aload_n 0, 1) := by decide +kernel
theorem dX7_restore_26 : decode cX7_restore 26 = .ok (.getfield 28, 3) := by decide +kernel
theorem dX7_restore_29 : decode cX7_restore 29 = .ok (.invokevirtual 131, 3) := by decide +kernel
theorem dX7_restore_32 : decode cX7_restore 32 = .ok (.aload_n 0, 1) := by decide +kernel
theorem dX7_restore_33 : decode cX7_restore 33 = .ok (.getfield 21, 3) := by decide +kernel
theorem dX7_restore_36 : decode cX7_restore 36 = .ok (.getfield 215, 3) := by decide +kernel
theorem dX7_restore_39 : decode cX7_restore 39 = .ok (.ireturn, 1) := by decide +kernel
theorem dX7_hex_0 : decode cX7_hex 0 = .ok (.iload_n 1, 1) := by decide +kernel
theorem dX7_hex_1 : decode cX7_hex 1 = .ok (.invokestatic 68, 3) := by decide +kernel
theorem dX7_hex_4 : decode cX7_hex 4 = .ok (.ifCond .ne 5, 3) := by decide +kernel
theorem dX7_hex_7 : decode cX7_hex 7 = .ok (.iconst (-1), 1) := by decide +kernel
theorem dX7_hex_8 : decode cX7_hex 8 = .ok (.ireturn, 1) := by decide +kernel
theorem dX7_hex_9 : decode cX7_hex 9 = .ok (.iload_n 2, 1) := by decide +kernel
theorem dX7_hex_10 : decode cX7_hex 10 = .ok (.tableswitch 163 0 8 #[50, 60, 70, 96, 123, 123, 138, 138, 154], 50) := by decide +kernel
theorem dX7_hex_60 : decode cX7_hex 60 = .ok (.aload_n 0, 1) := by decide +kernel
theorem dX7_hex_61 : decode cX7_hex 61 = .ok (.getfield 21, 3) := by decide +kernel
theorem dX7_hex_64 : decode cX7_hex 64 = .ok (.getfield 72, 3) := by decide +kernel
theorem dX7_hex_67 : decode cX7_hex 67 = .ok (.iload_n 1, 1) := by decide +kernel
theorem dX7_hex_68 : decode cX7_hex 68 = .ok (.iaload, 1) := by decide +kernel
theorem dX7_hex_69 : decode cX7_hex 69 = .ok (.ireturn, 1) := by decide +kernel
theorem dX7_hex_70 : decode cX7_hex 70 = .ok (.aload_n 0, 1) := by decide +kernel
theorem dX7_hex_71 : decode cX7_hex 71 = .ok (.getfield 21, 3) := by decide +kernel
theorem dX7_hex_74 : decode cX7_hex 74 = .ok (.getfield 90, 3) := by decide +kernel
theorem dX7_hex_77 : decode cX7_hex 77 = .ok (.iload_n 1, 1) := by decide +kernel
theorem dX7_hex_78 : decode cX7_hex 78 = .ok (.iaload, 1) := by decide +kernel
theorem dX7_hex_79 : decode cX7_hex 79 = .ok (.ireturn, 1) := by decide +kernel
theorem dX7_hex_80 : decode cX7_hex 80 = .ok (.aload_n 0, 1) := by decide +kernel
theorem dX7_hex_81 : decode cX7_hex 81 = .ok (.getfield 21, 3) := by decide +kernel
theorem dX7_hex_84 : decode cX7_hex 84 = .ok (.iload_n 1, 1) := by decide +kernel
theorem dX7_hex_85 : decode cX7_hex 85 = .ok (.invokevirtual 104, 3) := by decide +kernel
theorem dX7_hex_88 : decode cX7_hex 88 = .ok (.ifCond .eq 15, 3) := by decide +kernel
theorem dX7_hex_91 : decode cX7_hex 91 = .ok (.aload_n 0, 1) := by decide +kernel
theorem dX7_hex_92 : decode cX7_hex 92 = .ok (.getfield 21, 3) := by decide +kernel
theorem dX7_hex_95 : decode cX7_hex 95 = .ok (.getfield 107, 3) := by decide +kernel
theorem dX7_hex_98 : decode cX7_hex 98 = .ok (.iload_n 1, 1) := by decide +kernel
theorem dX7_hex_99 : decode cX7_hex 99 = .ok (.iaload, 1) := by decide +kernel
theorem dX7_hex_100 : decode cX7_hex 100 = .ok (.goto 5, 3) := by decide +kernel
theorem dX7_hex_103 : decode cX7_hex 103 = .ok (.bipush (-5), 2) := by decide +kernel
theorem dX7_hex_105 : decode cX7_hex 105 = .ok (.ireturn, 1) := by decide +kernel
theorem dX7_hex_106 : decode cX7_hex 106 = .ok (.aload_n 0, 1) := by decide +kernel
theorem dX7_hex_107 : decode cX7_hex 107 = .ok (.getfield 21, 3) := by decide +kernel
theorem dX7_hex_110 : decode cX7_hex 110 = .ok (.iload_n 1, 1) := by decide +kernel
theorem dX7_hex_111 : decode cX7_hex 111 = .ok (.invokevirtual 124, 3) := by decide +kernel
theorem dX7_hex_114 : decode cX7_hex 114 = .ok (.iconst (-1), 1) := by decide +kernel
theorem dX7_hex_115 : decode cX7_hex 115 = .ok (.if_icmp .eq 15, 3) := by decide +kernel
theorem dX7_hex_118 : decode cX7_hex 118 = .ok (.aload_n 0, 1) := by decide +kernel
theorem dX7_hex_119 : decode cX7_hex 119 = .ok (.getfield 21, 3) := by decide +kernel
theorem dX7_hex_122 : decode cX7_hex 122 = .ok (.getfield 196, 3) := by decide +kernel
theorem dX7_hex_125 : decode cX7_hex 125 = .ok (.iload_n 1, 1) := by decide +kernel
theorem dX7_hex_126 : decode cX7_hex 126 = .ok (.iaload, 1) := by decide +kernel
theorem dX7_hex_127 : decode cX7_hex 127 = .ok (.goto 5, 3) := by decide +kernel
theorem dX7_hex_130 : decode cX7_hex 130 = .ok (.bipush (-5), 2) := by decide +kernel
theorem dX7_hex_132 : decode cX7_hex 132 = .ok (.ireturn, 1) := by decide +kernel
theorem dX7_hex_133 : decode cX7_hex 133 = .ok (.aload_n 0, 1) := by decide +kernel
theorem dX7_hex_134 : decode cX7_hex 134 = .ok (.getfield 21, 3) := by decide +kernel
theorem dX7_hex_137 : decode cX7_hex 137 = .ok (.iload_n 2, 1) := by decide +kernel
theorem dX7_hex_138 : decode cX7_hex 138 = .ok (.iconst 4, 1) := by decide +kernel
theorem dX7_hex_139 : decode cX7_hex 139 = .ok (.isub, 1) := by decide +kernel
theorem dX7_hex_140 : decode cX7_hex 140 = .ok (.iload_n 1, 1) := by decide +kernel
theorem dX7_hex_141 : decode cX7_hex 141 = .ok (.invokevirtual 255, 3) := by decide +kernel
theorem dX7_hex_144 : decode cX7_hex 144 = .ok (.invokestatic 258, 3) := by decide +kernel
theorem dX7_hex_147 : decode cX7_hex 147 = .ok (.ireturn, 1) := by decide +kernel
theorem dX7_hex_148 : decode cX7_hex 148 = .ok (.aload_n 0, 1) := by decide +kernel
theorem dX7_hex_149 : decode cX7_hex 149 = .ok (.getfield 21, 3) := by decide +kernel
theorem dX7_hex_152 : decode cX7_hex 152 = .ok (.iload_n 2, 1) := by decide +kernel
theorem dX7_hex_153 : decode cX7_hex 153 = .ok (.bipush 6, 2) := by decide +kernel
theorem dX7_hex_155 : decode cX7_hex 155 = .ok (.isub, 1) := by decide +kernel
theorem dX7_hex_156 : decode cX7_hex 156 = .ok (.iload_n 1, 1) := by decide +kernel
theorem dX7_hex_157 : decode cX7_hex 157 = .ok (.invokevirtual 262, 3) := by decide +kernel
theorem dX7_hex_160 : decode cX7_hex 160 = .ok (.invokestatic 258, 3) := by decide +kernel
theorem dX7_hex_163 : decode cX7_hex 163 = .ok (.ireturn, 1) := by decide +kernel
theorem dX7_hex_164 : decode cX7_hex 164 = .ok (.aload_n 0, 1) := by decide +kernel
theorem dX7_hex_165 : decode cX7_hex 165 = .ok (.getfield 10, 3) := by decide +kernel
theorem dX7_hex_168 : decode cX7_hex 168 = .ok (.iload_n 1, 1) := by decide +kernel
theorem dX7_hex_169 : decode cX7_hex 169 = .ok (.invokevirtual 265, 3) := by decide +kernel
theorem dX7_hex_172 : decode cX7_hex 172 = .ok (.ireturn, 1) := by decide +kernel
theorem dX7_hex_173 : decode cX7_hex 173 = .ok (.bipush (-2), 2) := by decide +kernel
theorem dX7_hex_175 : decode cX7_hex 175 = .ok (.ireturn, 1) := by decide +kernel
theorem dX7_beside_0 : decode cX7_beside 0 = .ok (.iload_n 1, 1) := by decide +kernel
theorem dX7_beside_1 : decode cX7_beside 1 = .ok (.invokestatic 68, 3) := by decide +kernel
theorem dX7_beside_4 : decode cX7_beside 4 = .ok (.ifCond .ne 5, 3) := by decide +kernel
theorem dX7_beside_7 : decode cX7_beside 7 = .ok (.iconst (-1), 1) := by decide +kernel
theorem dX7_beside_8 : decode cX7_beside 8 = .ok (.ireturn, 1) := by decide +kernel
theorem dX7_beside_9 : decode cX7_beside 9 = .ok (.iload_n 2, 1) := by decide +kernel
theorem dX7_beside_10 : decode cX7_beside 10 = .ok (.invokestatic 80, 3) := by decide +kernel
theorem dX7_beside_13 : decode cX7_beside 13 = .ok (.ifCond .ne 6, 3) := by decide +kernel
theorem dX7_beside_16 : decode cX7_beside 16 = .ok (.bipush (-2), 2) := by decide +kernel
theorem dX7_beside_18 : decode cX7_beside 18 = .ok (.ireturn, 1) := by decide +kernel
theorem dX7_beside_19 : decode cX7_beside 19 = .ok (.aload_n 0, 1) := by decide +kernel
theorem dX7_beside_20 : decode cX7_beside 20 = .ok (.getfield 10, 3) := by decide +kernel
theorem dX7_beside_23 : decode cX7_beside 23 = .ok (.getfield 83, 3) := by decide +kernel
theorem dX7_beside_26 : decode cX7_beside 26 = .ok (.iload_n 1, 1) := by decide +kernel
theorem dX7_beside_27 : decode cX7_beside 27 = .ok (.bipush 6, 2) := by decide +kernel
theorem dX7_beside_29 : decode cX7_beside 29 = .ok (.imul, 1) := by decide +kernel
theorem dX7_beside_30 : decode cX7_beside 30 = .ok (.iload_n 2, 1) := by decide +kernel
theorem dX7_beside_31 : decode cX7_beside 31 = .ok (.iadd, 1) := by decide +kernel
theorem dX7_beside_32 : decode cX7_beside 32 = .ok (.iaload, 1) := by decide +kernel
theorem dX7_beside_33 : decode cX7_beside 33 = .ok (.istore_n 3, 1) := by decide +kernel
theorem dX7_beside_34 : decode cX7_beside 34 = .ok (.iload_n 3, 1) := by decide +kernel
theorem dX7_beside_35 : decode cX7_beside 35 = .ok (.invokestatic 68, 3) := by decide +kernel
theorem dX7_beside_38 : decode cX7_beside 38 = .ok (.ifCond .eq 7, 3) := by decide +kernel
theorem dX7_beside_41 : decode cX7_beside 41 = .ok (.iload_n 3, 1) := by decide +kernel
theorem dX7_beside_42 : decode cX7_beside 42 = .ok (.goto 5, 3) := by decide +kernel
theorem dX7_beside_45 : decode cX7_beside 45 = .ok (.bipush (-5), 2) := by decide +kernel
theorem dX7_beside_47 : decode cX7_beside 47 = .ok (.ireturn, 1) := by decide +kernel
theorem dX7_distance_0 : decode cX7_distance 0 = .ok (.iload_n 1, 1) := by decide +kernel
theorem dX7_distance_1 : decode cX7_distance 1 = .ok (.invokestatic 68, 3) := by decide +kernel
theorem dX7_distance_4 : decode cX7_distance 4 = .ok (.ifCond .eq 10, 3) := by decide +kernel
theorem dX7_distance_7 : decode cX7_distance 7 = .ok (.iload_n 2, 1) := by decide +kernel
theorem dX7_distance_8 : decode cX7_distance 8 = .ok (.invokestatic 68, 3) := by decide +kernel
theorem dX7_distance_11 : decode cX7_distance 11 = .ok (.ifCond .ne 5, 3) := by decide +kernel
theorem dX7_distance_14 : decode cX7_distance 14 = .ok (.iconst (-1), 1) := by decide +kernel
theorem dX7_distance_15 : decode cX7_distance 15 = .ok (.ireturn, 1) := by decide +kernel
theorem dX7_distance_16 : decode cX7_distance 16 = .ok (.iload_n 1, 1) := by decide +kernel
theorem dX7_distance_17 : decode cX7_distance 17 = .ok (.iload_n 2, 1) := by decide +kernel
theorem dX7_distance_18 : decode cX7_distance 18 = .ok (.invokestatic 268, 3) := by decide +kernel
theorem dX7_distance_21 : decode cX7_distance 21 = .ok (.ireturn, 1) := by decide +kernel
theorem dX7_unit_0 : decode cX7_unit 0 = .ok (.aload_n 0, 1) := by decide +kernel
theorem dX7_unit_1 : decode cX7_unit 1 = .ok (.getfield 21, 3) := by decide +kernel
theorem dX7_unit_4 : decode cX7_unit 4 = .ok (.iload_n 1, 1) := by decide +kernel
theorem dX7_unit_5 : decode cX7_unit 5 = .ok (.invokevirtual 162, 3) := by decide +kernel
theorem dX7_unit_8 : decode cX7_unit 8 = .ok (.ifCond .ne 5, 3) := by decide +kernel
theorem dX7_unit_11 : decode cX7_unit 11 = .ok (.iconst (-1), 1) := by decide +kernel
theorem dX7_unit_12 : decode cX7_unit 12 = .ok (.ireturn, 1) := by decide +kernel
theorem dX7_unit_13 : decode cX7_unit 13 = .ok (.aload_n 0, 1) := by decide +kernel
theorem dX7_unit_14 : decode cX7_unit 14 = .ok (.getfield 21, 3) := by decide +kernel
theorem dX7_unit_17 : decode cX7_unit 17 = .ok (.getfield 165, 3) := by decide +kernel
theorem dX7_unit_20 : decode cX7_unit 20 = .ok (.iload_n 1, 1) := by decide +kernel
theorem dX7_unit_21 : decode cX7_unit 21 = .ok (.iaload, 1) := by decide +kernel
theorem dX7_unit_22 : decode cX7_unit 22 = .ok (.istore_n 3, 1) := by decide +kernel
theorem dX7_unit_23 : decode cX7_unit 23 = .ok (.aload_n 0, 1) := by decide +kernel
theorem dX7_unit_24 : decode cX7_unit 24 = .ok (.getfield 21, 3) := by decide +kernel
theorem dX7_unit_27 : decode cX7_unit 27 = .ok (.getfield 171, 3) := by decide +kernel
theorem dX7_unit_30 : decode cX7_unit 30 = .ok (.iload_n 1, 1) := by decide +kernel
theorem dX7_unit_31 : decode cX7_unit 31 = .ok (.iaload, 1) := by decide +kernel
theorem dX7_unit_32 : decode cX7_unit 32 = .ok (.istore 4, 2) := by decide +kernel
theorem dX7_unit_34 : decode cX7_unit 34 = .ok (.iload_n 2, 1) := by decide +kernel
theorem dX7_unit_35 : decode cX7_unit 35 = .ok (.tableswitch 203 0 9 #[53, 55, 65, 68, 78, 88, 113, 153, 163, 187], 53) := by decide +kernel
theorem dX7_unit_88 : decode cX7_unit 88 = .ok (.iload_n 3, 1) := by decide +kernel
theorem dX7_unit_89 : decode cX7_unit 89 = .ok (.ireturn, 1) := by decide +kernel
theorem dX7_unit_90 : decode cX7_unit 90 = .ok (.aload_n 0, 1) := by decide +kernel
theorem dX7_unit_91 : decode cX7_unit 91 = .ok (.getfield 21, 3) := by decide +kernel
theorem dX7_unit_94 : decode cX7_unit 94 = .ok (.getfield 234, 3) := by decide +kernel
theorem dX7_unit_97 : decode cX7_unit 97 = .ok (.iload_n 1, 1) := by decide +kernel
theorem dX7_unit_98 : decode cX7_unit 98 = .ok (.iaload, 1) := by decide +kernel
theorem dX7_unit_99 : decode cX7_unit 99 = .ok (.ireturn, 1) := by decide +kernel
theorem dX7_unit_100 : decode cX7_unit 100 = .ok (.iload 4, 2) := by decide +kernel
theorem dX7_unit_102 : decode cX7_unit 102 = .ok (.ireturn, 1) := by decide +kernel
theorem dX7_unit_103 : decode cX7_unit 103 = .ok (.aload_n 0, 1) := by decide +kernel
theorem dX7_unit_104 : decode cX7_unit 104 = .ok (.getfield 21, 3) := by decide +kernel
theorem dX7_unit_107 : decode cX7_unit 107 = .ok (.getfield 180, 3) := by decide +kernel
theorem dX7_unit_110 : decode cX7_unit 110 = .ok (.iload_n 1, 1) := by decide +kernel
theorem dX7_unit_111 : decode cX7_unit 111 = .ok (.iaload, 1) := by decide +kernel
theorem dX7_unit_112 : decode cX7_unit 112 = .ok (.ireturn, 1) := by decide +kernel
theorem dX7_unit_113 : decode cX7_unit 113 = .ok (.aload_n 0, 1) := by decide +kernel
theorem dX7_unit_114 : decode cX7_unit 114 = .ok (.getfield 21, 3) := by decide +kernel
theorem dX7_unit_117 : decode cX7_unit 117 = .ok (.getfield 190, 3) := by decide +kernel
theorem dX7_unit_120 : decode cX7_unit 120 = .ok (.iload_n 1, 1) := by decide +kernel
theorem dX7_unit_121 : decode cX7_unit 121 = .ok (.iaload, 1) := by decide +kernel
theorem dX7_unit_122 : decode cX7_unit 122 = .ok (.ireturn, 1) := by decide +kernel
theorem dX7_unit_123 : decode cX7_unit 123 = .ok (.aload_n 0, 1) := by decide +kernel
theorem dX7_unit_124 : decode cX7_unit 124 = .ok (.getfield 55, 3) := by decide +kernel
theorem dX7_unit_127 : decode cX7_unit 127 = .ok (.aload_n 0, 1) := by decide +kernel
theorem dX7_unit_128 : decode cX7_unit 128 = .ok (.getfield 21, 3) := by decide +kernel
theorem dX7_unit_131 : decode cX7_unit 131 = .ok (.iload_n 3, 1) := by decide +kernel
theorem dX7_unit_132 : decode cX7_unit 132 = .ok (.invokevirtual 224, 3) := by decide +kernel
theorem dX7_unit_135 : decode cX7_unit 135 = .ok (.aload_n 0, 1) := by decide +kernel
theorem dX7_unit_136 : decode cX7_unit 136 = .ok (.getfield 55, 3) := by decide +kernel
theorem dX7_unit_139 : decode cX7_unit 139 = .ok (.iload 4, 2) := by decide +kernel
theorem dX7_unit_141 : decode cX7_unit 141 = .ok (.invokevirtual 228, 3) := by decide +kernel
theorem dX7_unit_144 : decode cX7_unit 144 = .ok (.invokestatic 258, 3) := by decide +kernel
theorem dX7_unit_147 : decode cX7_unit 147 = .ok (.ireturn, 1) := by decide +kernel
theorem dX7_unit_148 : decode cX7_unit 148 = .ok (.aload_n 0, 1) := by decide +kernel
theorem dX7_unit_149 : decode cX7_unit 149 = .ok (.getfield 55, 3) := by decide +kernel
theorem dX7_unit_152 : decode cX7_unit 152 = .ok (.aload_n 0, 1) := by decide +kernel
theorem dX7_unit_153 : decode cX7_unit 153 = .ok (.getfield 21, 3) := by decide +kernel
theorem dX7_unit_156 : decode cX7_unit 156 = .ok (.iload_n 3, 1) := by decide +kernel
theorem dX7_unit_157 : decode cX7_unit 157 = .ok (.invokevirtual 224, 3) := by decide +kernel
theorem dX7_unit_160 : decode cX7_unit 160 = .ok (.aload_n 0, 1) := by decide +kernel
theorem dX7_unit_161 : decode cX7_unit 161 = .ok (.getfield 55, 3) := by decide +kernel
theorem dX7_unit_164 : decode cX7_unit 164 = .ok (.iload 4, 2) := by decide +kernel
theorem dX7_unit_166 : decode cX7_unit 166 = .ok (.invokevirtual 228, 3) := by decide +kernel
theorem dX7_unit_169 : decode cX7_unit 169 = .ok (.ifCond .eq 16, 3) := by decide +kernel
theorem dX7_unit_172 : decode cX7_unit 172 = .ok (.aload_n 0, 1) := by decide +kernel
theorem dX7_unit_173 : decode cX7_unit 173 = .ok (.getfield 55, 3) := by decide +kernel
theorem dX7_unit_176 : decode cX7_unit 176 = .ok (.getfield 271, 3) := by decide +kernel
theorem dX7_unit_179 : decode cX7_unit 179 = .ok (.iload 4, 2) := by decide +kernel
theorem dX7_unit_181 : decode cX7_unit 181 = .ok (.iaload, 1) := by decide +kernel
theorem dX7_unit_182 : decode cX7_unit 182 = .ok (.goto 5, 3) := by decide +kernel
theorem dX7_unit_185 : decode cX7_unit 185 = .ok (.bipush (-5), 2) := by decide +kernel
theorem dX7_unit_187 : decode cX7_unit 187 = .ok (.ireturn, 1) := by decide +kernel
theorem dX7_unit_188 : decode cX7_unit 188 = .ok (.aload_n 0, 1) := by decide +kernel
theorem dX7_unit_189 : decode cX7_unit 189 = .ok (.getfield 21, 3) := by decide +kernel
theorem dX7_unit_192 : decode cX7_unit 192 = .ok (.getfield 231, 3) := by decide +kernel
theorem dX7_unit_195 : decode cX7_unit 195 = .ok (.iload_n 1, 1) := by decide +kernel
theorem dX7_unit_196 : decode cX7_unit 196 = .ok (.iaload, 1) := by decide +kernel
theorem dX7_unit_197 : decode cX7_unit 197 = .ok (.ireturn, 1) := by decide +kernel
theorem dX7_unit_198 : decode cX7_unit 198 = .ok (.aload_n 0, 1) := by decide +kernel
theorem dX7_unit_199 : decode cX7_unit 199 = .ok (.getfield 48, 3) := by decide +kernel
theorem dX7_unit_202 : decode cX7_unit 202 = .ok (.aload_n 0, 1) := by decide +kernel
theorem dX7_unit_203 : decode cX7_unit 203 = .ok (.getfield 21, 3) := by decide +kernel
theorem dX7_unit_206 : decode cX7_unit 206 = .ok (.iload_n 1, 1) := by decide +kernel
theorem dX7_unit_207 : decode cX7_unit 207 = .ok (.invokevirtual 172, 3) := by decide +kernel
theorem dX7_unit_210 : decode cX7_unit 210 = .ok (.aload_n 0, 1) := by decide +kernel
theorem dX7_unit_211 : decode cX7_unit 211 = .ok (.getfield 48, 3) := by decide +kernel
theorem dX7_unit_214 : decode cX7_unit 214 = .ok (.aload_n 0, 1) := by decide +kernel
theorem dX7_unit_215 : decode cX7_unit 215 = .ok (.getfield 21, 3) := by decide +kernel
theorem dX7_unit_218 : decode cX7_unit 218 = .ok (.invokevirtual 274, 3) := by decide +kernel
theorem dX7_unit_221 : decode cX7_unit 221 = .ok (.ireturn, 1) := by decide +kernel
theorem dX7_unit_222 : decode cX7_unit 222 = .ok (.aload_n 0, 1) := by decide +kernel
theorem dX7_unit_223 : decode cX7_unit 223 = .ok (.getfield 21, 3) := by decide +kernel
theorem dX7_unit_226 : decode cX7_unit 226 = .ok (.iconst 1, 1) := by decide +kernel
theorem dX7_unit_227 : decode cX7_unit 227 = .ok (.iload_n 3, 1) := by decide +kernel
theorem dX7_unit_228 : decode cX7_unit 228 = .ok (.isub, 1) := by decide +kernel
theorem dX7_unit_229 : decode cX7_unit 229 = .ok (.iload 4, 2) := by decide +kernel
theorem dX7_unit_231 : decode cX7_unit 231 = .ok (.invokevirtual 262, 3) := by decide +kernel
theorem dX7_unit_234 : decode cX7_unit 234 = .ok (.invokestatic 258, 3) := by decide +kernel
theorem dX7_unit_237 : decode cX7_unit 237 = .ok (.ireturn, 1) := by decide +kernel
theorem dX7_unit_238 : decode cX7_unit 238 = .ok (.bipush (-2), 2) := by decide +kernel
theorem dX7_unit_240 : decode cX7_unit 240 = .ok (.ireturn, 1) := by decide +kernel
theorem dX7_cost_0 : decode cX7_cost 0 = .ok (.aload_n 0, 1) := by decide +kernel
theorem dX7_cost_1 : decode cX7_cost 1 = .ok (.getfield 21, 3) := by decide +kernel
theorem dX7_cost_4 : decode cX7_cost 4 = .ok (.iload_n 1, 1) := by decide +kernel
theorem dX7_cost_5 : decode cX7_cost 5 = .ok (.invokevirtual 162, 3) := by decide +kernel
theorem dX7_cost_8 : decode cX7_cost 8 = .ok (.ifCond .eq 10, 3) := by decide +kernel
theorem dX7_cost_11 : decode cX7_cost 11 = .ok (.iload_n 2, 1) := by decide +kernel
theorem dX7_cost_12 : decode cX7_cost 12 = .ok (.invokestatic 68, 3) := by decide +kernel
theorem dX7_cost_15 : decode cX7_cost 15 = .ok (.ifCond .ne 5, 3) := by decide +kernel
theorem dX7_cost_18 : decode cX7_cost 18 = .ok (.iconst (-1), 1) := by decide +kernel
theorem dX7_cost_19 : decode cX7_cost 19 = .ok (.ireturn, 1) := by decide +kernel
theorem dX7_cost_20 : decode cX7_cost 20 = .ok (.aload_n 0, 1) := by decide +kernel
theorem dX7_cost_21 : decode cX7_cost 21 = .ok (.getfield 21, 3) := by decide +kernel
theorem dX7_cost_24 : decode cX7_cost 24 = .ok (.getfield 171, 3) := by decide +kernel
theorem dX7_cost_27 : decode cX7_cost 27 = .ok (.iload_n 1, 1) := by decide +kernel
theorem dX7_cost_28 : decode cX7_cost 28 = .ok (.iaload, 1) := by decide +kernel
theorem dX7_cost_29 : decode cX7_cost 29 = .ok (.iload_n 2, 1) := by decide +kernel
theorem dX7_cost_30 : decode cX7_cost 30 = .ok (.if_icmp .ne 5, 3) := by decide +kernel
theorem dX7_cost_33 : decode cX7_cost 33 = .ok (.iconst 0, 1) := by decide +kernel
theorem dX7_cost_34 : decode cX7_cost 34 = .ok (.ireturn, 1) := by decide +kernel
theorem dX7_cost_35 : decode cX7_cost 35 = .ok (.aload_n 0, 1) := by decide +kernel
theorem dX7_cost_36 : decode cX7_cost 36 = .ok (.getfield 48, 3) := by decide +kernel
theorem dX7_cost_39 : decode cX7_cost 39 = .ok (.aload_n 0, 1) := by decide +kernel
theorem dX7_cost_40 : decode cX7_cost 40 = .ok (.getfield 21, 3) := by decide +kernel
theorem dX7_cost_43 : decode cX7_cost 43 = .ok (.iload_n 1, 1) := by decide +kernel
theorem dX7_cost_44 : decode cX7_cost 44 = .ok (.invokevirtual 172, 3) := by decide +kernel
theorem dX7_cost_47 : decode cX7_cost 47 = .ok (.aload_n 0, 1) := by decide +kernel
theorem dX7_cost_48 : decode cX7_cost 48 = .ok (.getfield 48, 3) := by decide +kernel
theorem dX7_cost_51 : decode cX7_cost 51 = .ok (.aload_n 0, 1) := by decide +kernel
theorem dX7_cost_52 : decode cX7_cost 52 = .ok (.getfield 21, 3) := by decide +kernel
theorem dX7_cost_55 : decode cX7_cost 55 = .ok (.iload_n 2, 1) := by decide +kernel
theorem dX7_cost_56 : decode cX7_cost 56 = .ok (.invokevirtual 176, 3) := by decide +kernel
theorem dX7_cost_59 : decode cX7_cost 59 = .ok (.ifCond .eq 15, 3) := by decide +kernel
theorem dX7_cost_62 : decode cX7_cost 62 = .ok (.aload_n 0, 1) := by decide +kernel
theorem dX7_cost_63 : decode cX7_cost 63 = .ok (.getfield 48, 3) := by decide +kernel
theorem dX7_cost_66 : decode cX7_cost 66 = .ok (.getfield 183, 3) := by decide +kernel
theorem dX7_cost_69 : decode cX7_cost 69 = .ok (.iload_n 2, 1) := by decide +kernel
theorem dX7_cost_70 : decode cX7_cost 70 = .ok (.iaload, 1) := by decide +kernel
theorem dX7_cost_71 : decode cX7_cost 71 = .ok (.goto 5, 3) := by decide +kernel
theorem dX7_cost_74 : decode cX7_cost 74 = .ok (.bipush (-5), 2) := by decide +kernel
theorem dX7_cost_76 : decode cX7_cost 76 = .ok (.ireturn, 1) := by decide +kernel
theorem dX7_would_0 : decode cX7_would 0 = .ok (.aload_n 0, 1) := by decide +kernel
theorem dX7_would_1 : decode cX7_would 1 = .ok (.getfield 21, 3) := by decide +kernel
theorem dX7_would_4 : decode cX7_would 4 = .ok (.iload_n 1, 1) := by decide +kernel
theorem dX7_would_5 : decode cX7_would 5 = .ok (.invokevirtual 162, 3) := by decide +kernel
theorem dX7_would_8 : decode cX7_would 8 = .ok (.ifCond .eq 10, 3) := by decide +kernel
theorem dX7_would_11 : decode cX7_would 11 = .ok (.iload_n 2, 1) := by decide +kernel
theorem dX7_would_12 : decode cX7_would 12 = .ok (.invokestatic 68, 3) := by decide +kernel
theorem dX7_would_15 : decode cX7_would 15 = .ok (.ifCond .ne 5, 3) := by decide +kernel
theorem dX7_would_18 : decode cX7_would 18 = .ok (.iconst (-1), 1) := by decide +kernel
theorem dX7_would_19 : decode cX7_would 19 = .ok (.ireturn, 1) := by decide +kernel
theorem dX7_would_20 : decode cX7_would 20 = .ok (.iload_n 3, 1) := by decide +kernel
theorem dX7_would_21 : decode cX7_would 21 = .ok (.ifCond .lt 8, 3) := by decide +kernel
theorem dX7_would_24 : decode cX7_would 24 = .ok (.iload_n 3, 1) := by decide +kernel
theorem dX7_would_25 : decode cX7_would 25 = .ok (.iconst 3, 1) := by decide +kernel
theorem dX7_would_26 : decode cX7_would 26 = .ok (.if_icmp .le 6, 3) := by decide +kernel
theorem dX7_would_29 : decode cX7_would 29 = .ok (.bipush (-2), 2) := by decide +kernel
theorem dX7_would_31 : decode cX7_would 31 = .ok (.ireturn, 1) := by decide +kernel
theorem dX7_would_32 : decode cX7_would 32 = .ok (.aload_n 0, 1) := by decide +kernel
theorem dX7_would_33 : decode cX7_would 33 = .ok (.iload_n 1, 1) := by decide +kernel
theorem dX7_would_34 : decode cX7_would 34 = .ok (.iload_n 2, 1) := by decide +kernel
theorem dX7_would_35 : decode cX7_would 35 = .ok (.invokevirtual 193, 3) := by decide +kernel
theorem dX7_would_38 : decode cX7_would 38 = .ok (.ifCond .ne 6, 3) := by decide +kernel
theorem dX7_would_41 : decode cX7_would 41 = .ok (.bipush (-4), 2) := by decide +kernel
theorem dX7_would_43 : decode cX7_would 43 = .ok (.ireturn, 1) := by decide +kernel
theorem dX7_would_44 : decode cX7_would 44 = .ok (.aload_n 0, 1) := by decide +kernel
theorem dX7_would_45 : decode cX7_would 45 = .ok (.getfield 64, 3) := by decide +kernel
theorem dX7_would_48 : decode cX7_would 48 = .ok (.aload_n 0, 1) := by decide +kernel
theorem dX7_would_49 : decode cX7_would 49 = .ok (.getfield 21, 3) := by decide +kernel
theorem dX7_would_52 : decode cX7_would 52 = .ok (.iload_n 1, 1) := by decide +kernel
theorem dX7_would_53 : decode cX7_would 53 = .ok (.aload_n 0, 1) := by decide +kernel
theorem dX7_would_54 : decode cX7_would 54 = .ok (.getfield 21, 3) := by decide +kernel
theorem dX7_would_57 : decode cX7_would 57 = .ok (.getfield 196, 3) := by decide +kernel
theorem dX7_would_60 : decode cX7_would 60 = .ok (.iload_n 2, 1) := by decide +kernel
theorem dX7_would_61 : decode cX7_would 61 = .ok (.iaload, 1) := by decide +kernel
theorem dX7_would_62 : decode cX7_would 62 = .ok (.invokevirtual 199, 3) := by decide +kernel
theorem dX7_would_65 : decode cX7_would 65 = .ok (.iload_n 3, 1) := by decide +kernel
theorem dX7_would_66 : decode cX7_would 66 = .ok (.tableswitch 50 0 2 #[26, 34, 42], 26) := by decide +kernel
theorem dX7_would_92 : decode cX7_would 92 = .ok (.aload_n 0, 1) := by decide +kernel
theorem dX7_would_93 : decode cX7_would 93 = .ok (.getfield 64, 3) := by decide +kernel
theorem dX7_would_96 : decode cX7_would 96 = .ok (.getfield 278, 3) := by decide +kernel
theorem dX7_would_99 : decode cX7_would 99 = .ok (.ireturn, 1) := by decide +kernel
theorem dX7_would_100 : decode cX7_would 100 = .ok (.aload_n 0, 1) := by decide +kernel
theorem dX7_would_101 : decode cX7_would 101 = .ok (.getfield 64, 3) := by decide +kernel
theorem dX7_would_104 : decode cX7_would 104 = .ok (.getfield 281, 3) := by decide +kernel
theorem dX7_would_107 : decode cX7_would 107 = .ok (.ireturn, 1) := by decide +kernel
theorem dX7_would_108 : decode cX7_would 108 = .ok (.aload_n 0, 1) := by decide +kernel
theorem dX7_would_109 : decode cX7_would 109 = .ok (.getfield 64, 3) := by decide +kernel
theorem dX7_would_112 : decode cX7_would 112 = .ok (.getfield 203, 3) := by decide +kernel
theorem dX7_would_115 : decode cX7_would 115 = .ok (.ireturn, 1) := by decide +kernel
theorem dX7_would_116 : decode cX7_would 116 = .ok (.aload_n 0, 1) := by decide +kernel
theorem dX7_would_117 : decode cX7_would 117 = .ok (.getfield 64, 3) := by decide +kernel
theorem dX7_would_120 : decode cX7_would 120 = .ok (.getfield 209, 3) := by decide +kernel
theorem dX7_would_123 : decode cX7_would 123 = .ok (.ireturn, 1) := by decide +kernel
theorem dX7_besieged_0 : decode cX7_besieged 0 = .ok (.iload_n 1, 1) := by decide +kernel
theorem dX7_besieged_1 : decode cX7_besieged 1 = .ok (.invokestatic 68, 3) := by decide +kernel
theorem dX7_besieged_4 : decode cX7_besieged 4 = .ok (.ifCond .ne 5, 3) := by decide +kernel
theorem dX7_besieged_7 : decode cX7_besieged 7 = .ok (.iconst (-1), 1) := by decide +kernel
theorem dX7_besieged_8 : decode cX7_besieged 8 = .ok (.ireturn, 1) := by decide +kernel
theorem dX7_besieged_9 : decode cX7_besieged 9 = .ok (.aload_n 0, 1) := by decide +kernel
theorem dX7_besieged_10 : decode cX7_besieged 10 = .ok (.getfield 21, 3) := by decide +kernel
theorem dX7_besieged_13 : decode cX7_besieged 13 = .ok (.iload_n 1, 1) := by decide +kernel
theorem dX7_besieged_14 : decode cX7_besieged 14 = .ok (.invokevirtual 104, 3) := by decide +kernel
theorem dX7_besieged_17 : decode cX7_besieged 17 = .ok (.ifCond .ne 6, 3) := by decide +kernel
theorem dX7_besieged_20 : decode cX7_besieged 20 = .ok (.bipush (-5), 2) := by decide +kernel
theorem dX7_besieged_22 : decode cX7_besieged 22 = .ok (.ireturn, 1) := by decide +kernel
theorem dX7_besieged_23 : decode cX7_besieged 23 = .ok (.iconst 1, 1) := by decide +kernel
theorem dX7_besieged_24 : decode cX7_besieged 24 = .ok (.aload_n 0, 1) := by decide +kernel
theorem dX7_besieged_25 : decode cX7_besieged 25 = .ok (.getfield 21, 3) := by decide +kernel
theorem dX7_besieged_28 : decode cX7_besieged 28 = .ok (.getfield 107, 3) := by decide +kernel
theorem dX7_besieged_31 : decode cX7_besieged 31 = .ok (.iload_n 1, 1) := by decide +kernel
theorem dX7_besieged_32 : decode cX7_besieged 32 = .ok (.iaload, 1) := by decide +kernel
theorem dX7_besieged_33 : decode cX7_besieged 33 = .ok (.isub, 1) := by decide +kernel
theorem dX7_besieged_34 : decode cX7_besieged 34 = .ok (.istore_n 2, 1) := by decide +kernel
theorem dX7_besieged_35 : decode cX7_besieged 35 = .ok (.iconst 0, 1) := by decide +kernel
theorem dX7_besieged_36 : decode cX7_besieged 36 = .ok (.istore_n 3, 1) := by decide +kernel
theorem dX7_besieged_37 : decode cX7_besieged 37 = .ok (.iload_n 3, 1) := by decide +kernel
theorem dX7_besieged_38 : decode cX7_besieged 38 = .ok (.bipush 6, 2) := by decide +kernel
theorem dX7_besieged_40 : decode cX7_besieged 40 = .ok (.if_icmp .ge 61, 3) := by decide +kernel
theorem dX7_besieged_43 : decode cX7_besieged 43 = .ok (.aload_n 0, 1) := by decide +kernel
theorem dX7_besieged_44 : decode cX7_besieged 44 = .ok (.getfield 10, 3) := by decide +kernel
theorem dX7_besieged_47 : decode cX7_besieged 47 = .ok (.getfield 83, 3) := by decide +kernel
theorem dX7_besieged_50 : decode cX7_besieged 50 = .ok (.iload_n 1, 1) := by decide +kernel
theorem dX7_besieged_51 : decode cX7_besieged 51 = .ok (.bipush 6, 2) := by decide +kernel
theorem dX7_besieged_53 : decode cX7_besieged 53 = .ok (.imul, 1) := by decide +kernel
theorem dX7_besieged_54 : decode cX7_besieged 54 = .ok (.iload_n 3, 1) := by decide +kernel
theorem dX7_besieged_55 : decode cX7_besieged 55 = .ok (.iadd, 1) := by decide +kernel
theorem dX7_besieged_56 : decode cX7_besieged 56 = .ok (.iaload, 1) := by decide +kernel
theorem dX7_besieged_57 : decode cX7_besieged 57 = .ok (.istore 4, 2) := by decide +kernel
theorem dX7_besieged_59 : decode cX7_besieged 59 = .ok (.iload 4, 2) := by decide +kernel
theorem dX7_besieged_61 : decode cX7_besieged 61 = .ok (.invokestatic 68, 3) := by decide +kernel
theorem dX7_besieged_64 : decode cX7_besieged 64 = .ok (.ifCond .eq 31, 3) := by decide +kernel
theorem dX7_besieged_67 : decode cX7_besieged 67 = .ok (.aload_n 0, 1) := by decide +kernel
theorem dX7_besieged_68 : decode cX7_besieged 68 = .ok (.getfield 21, 3) := by decide +kernel
theorem dX7_besieged_71 : decode cX7_besieged 71 = .ok (.iload_n 2, 1) := by decide +kernel
theorem dX7_besieged_72 : decode cX7_besieged 72 = .ok (.iload 4, 2) := by decide +kernel
theorem dX7_besieged_74 : decode cX7_besieged 74 = .ok (.invokevirtual 255, 3) := by decide +kernel
theorem dX7_besieged_77 : decode cX7_besieged 77 = .ok (.ifCond .ne 18, 3) := by decide +kernel
theorem dX7_besieged_80 : decode cX7_besieged 80 = .ok (.aload_n 0, 1) := by decide +kernel
theorem dX7_besieged_81 : decode cX7_besieged 81 = .ok (.getfield 21, 3) := by decide +kernel
theorem dX7_besieged_84 : decode cX7_besieged 84 = .ok (.iload 4, 2) := by decide +kernel
theorem dX7_besieged_86 : decode cX7_besieged 86 = .ok (.invokevirtual 124, 3) := by decide +kernel
theorem dX7_besieged_89 : decode cX7_besieged 89 = .ok (.iload_n 2, 1) := by decide +kernel
theorem dX7_besieged_90 : decode cX7_besieged 90 = .ok (.if_icmp .eq 5, 3) := by decide +kernel
theorem dX7_besieged_93 : decode cX7_besieged 93 = .ok (.iconst 0, 1) := by decide +kernel
theorem dX7_besieged_94 : decode cX7_besieged 94 = .ok (.ireturn, 1) := by decide +kernel
theorem dX7_besieged_95 : decode cX7_besieged 95 = .ok (.iinc 3 1, 3) := by decide +kernel
theorem dX7_besieged_98 : decode cX7_besieged 98 = .ok (.goto (-61), 3) := by decide +kernel
theorem dX7_besieged_101 : decode cX7_besieged 101 = .ok (.iconst 1, 1) := by decide +kernel
theorem dX7_besieged_102 : decode cX7_besieged 102 = .ok (.ireturn, 1) := by decide +kernel
theorem dX7_count_0 : decode cX7_count 0 = .ok (.iload_n 1, 1) := by decide +kernel
theorem dX7_count_1 : decode cX7_count 1 = .ok (.tableswitch 186 0 15 #[79, 87, 95, 103, 103, 114, 114, 125, 125, 137, 145, 145, 157, 165, 173, 173], 79) := by decide +kernel
theorem dX7_count_80 : decode cX7_count 80 = .ok (.aload_n 0, 1) := by decide +kernel
theorem dX7_count_81 : decode cX7_count 81 = .ok (.getfield 21, 3) := by decide +kernel
theorem dX7_count_84 : decode cX7_count 84 = .ok (.getfield 215, 3) := by decide +kernel
theorem dX7_count_87 : decode cX7_count 87 = .ok (.ireturn, 1) := by decide +kernel
theorem dX7_count_88 : decode cX7_count 88 = .ok (.aload_n 0, 1) := by decide +kernel
theorem dX7_count_89 : decode cX7_count 89 = .ok (.getfield 21, 3) := by decide +kernel
theorem dX7_count_92 : decode cX7_count 92 = .ok (.invokevirtual 168, 3) := by decide +kernel
theorem dX7_count_95 : decode cX7_count 95 = .ok (.ireturn, 1) := by decide +kernel
theorem dX7_count_96 : decode cX7_count 96 = .ok (.aload_n 0, 1) := by decide +kernel
theorem dX7_count_97 : decode cX7_count 97 = .ok (.getfield 21, 3) := by decide +kernel
theorem dX7_count_100 : decode cX7_count 100 = .ok (.getfield 120, 3) := by decide +kernel
theorem dX7_count_103 : decode cX7_count 103 = .ok (.ireturn, 1) := by decide +kernel
theorem dX7_count_104 : decode cX7_count 104 = .ok (.aload_n 0, 1) := by decide +kernel
theorem dX7_count_105 : decode cX7_count 105 = .ok (.getfield 21, 3) := by decide +kernel
theorem dX7_count_108 : decode cX7_count 108 = .ok (.iload_n 1, 1) := by decide +kernel
theorem dX7_count_109 : decode cX7_count 109 = .ok (.iconst 3, 1) := by decide +kernel
theorem dX7_count_110 : decode cX7_count 110 = .ok (.isub, 1) := by decide +kernel
theorem dX7_count_111 : decode cX7_count 111 = .ok (.invokevirtual 284, 3) := by decide +kernel
theorem dX7_count_114 : decode cX7_count 114 = .ok (.ireturn, 1) := by decide +kernel
theorem dX7_count_115 : decode cX7_count 115 = .ok (.aload_n 0, 1) := by decide +kernel
theorem dX7_count_116 : decode cX7_count 116 = .ok (.getfield 21, 3) := by decide +kernel
theorem dX7_count_119 : decode cX7_count 119 = .ok (.iload_n 1, 1) := by decide +kernel
theorem dX7_count_120 : decode cX7_count 120 = .ok (.iconst 5, 1) := by decide +kernel
theorem dX7_count_121 : decode cX7_count 121 = .ok (.isub, 1) := by decide +kernel
theorem dX7_count_122 : decode cX7_count 122 = .ok (.invokevirtual 287, 3) := by decide +kernel
theorem dX7_count_125 : decode cX7_count 125 = .ok (.ireturn, 1) := by decide +kernel
theorem dX7_count_126 : decode cX7_count 126 = .ok (.aload_n 0, 1) := by decide +kernel
theorem dX7_count_127 : decode cX7_count 127 = .ok (.getfield 21, 3) := by decide +kernel
theorem dX7_count_130 : decode cX7_count 130 = .ok (.iload_n 1, 1) := by decide +kernel
theorem dX7_count_131 : decode cX7_count 131 = .ok (.bipush 7, 2) := by decide +kernel
theorem dX7_count_133 : decode cX7_count 133 = .ok (.isub, 1) := by decide +kernel
theorem dX7_count_134 : decode cX7_count 134 = .ok (.invokevirtual 114, 3) := by decide +kernel
theorem dX7_count_137 : decode cX7_count 137 = .ok (.ireturn, 1) := by decide +kernel
theorem dX7_count_138 : decode cX7_count 138 = .ok (.aload_n 0, 1) := by decide +kernel
theorem dX7_count_139 : decode cX7_count 139 = .ok (.getfield 21, 3) := by decide +kernel
theorem dX7_count_142 : decode cX7_count 142 = .ok (.invokevirtual 97, 3) := by decide +kernel
theorem dX7_count_145 : decode cX7_count 145 = .ok (.ireturn, 1) := by decide +kernel
theorem dX7_count_146 : decode cX7_count 146 = .ok (.aload_n 0, 1) := by decide +kernel
theorem dX7_count_147 : decode cX7_count 147 = .ok (.getfield 21, 3) := by decide +kernel
theorem dX7_count_150 : decode cX7_count 150 = .ok (.iload_n 1, 1) := by decide +kernel
theorem dX7_count_151 : decode cX7_count 151 = .ok (.bipush 10, 2) := by decide +kernel
theorem dX7_count_153 : decode cX7_count 153 = .ok (.isub, 1) := by decide +kernel
theorem dX7_count_154 : decode cX7_count 154 = .ok (.invokevirtual 290, 3) := by decide +kernel
theorem dX7_count_157 : decode cX7_count 157 = .ok (.ireturn, 1) := by decide +kernel
theorem dX7_count_158 : decode cX7_count 158 = .ok (.aload_n 0, 1) := by decide +kernel
theorem dX7_count_159 : decode cX7_count 159 = .ok (.getfield 34, 3) := by decide +kernel
theorem dX7_count_162 : decode cX7_count 162 = .ok (.getfield 248, 3) := by decide +kernel
theorem dX7_count_165 : decode cX7_count 165 = .ok (.ireturn, 1) := by decide +kernel
theorem dX7_count_166 : decode cX7_count 166 = .ok (.aload_n 0, 1) := by decide +kernel
theorem dX7_count_167 : decode cX7_count 167 = .ok (.getfield 41, 3) := by decide +kernel
theorem dX7_count_170 : decode cX7_count 170 = .ok (.getfield 241, 3) := by decide +kernel
theorem dX7_count_173 : decode cX7_count 173 = .ok (.ireturn, 1) := by decide +kernel
theorem dX7_count_174 : decode cX7_count 174 = .ok (.aload_n 0, 1) := by decide +kernel
theorem dX7_count_175 : decode cX7_count 175 = .ok (.getfield 21, 3) := by decide +kernel
theorem dX7_count_178 : decode cX7_count 178 = .ok (.getfield 117, 3) := by decide +kernel
theorem dX7_count_181 : decode cX7_count 181 = .ok (.iload_n 1, 1) := by decide +kernel
theorem dX7_count_182 : decode cX7_count 182 = .ok (.bipush 14, 2) := by decide +kernel
theorem dX7_count_184 : decode cX7_count 184 = .ok (.isub, 1) := by decide +kernel
theorem dX7_count_185 : decode cX7_count 185 = .ok (.iaload, 1) := by decide +kernel
theorem dX7_count_186 : decode cX7_count 186 = .ok (.ireturn, 1) := by decide +kernel
theorem dX7_count_187 : decode cX7_count 187 = .ok (.bipush (-2), 2) := by decide +kernel
theorem dX7_count_189 : decode cX7_count 189 = .ok (.ireturn, 1) := by decide +kernel
theorem dX7_isSide_0 : decode cX7_isSide 0 = .ok (.iload_n 0, 1) := by decide +kernel
theorem dX7_isSide_1 : decode cX7_isSide 1 = .ok (.ifCond .eq 8, 3) := by decide +kernel
theorem dX7_isSide_4 : decode cX7_isSide 4 = .ok (.iload_n 0, 1) := by decide +kernel
theorem dX7_isSide_5 : decode cX7_isSide 5 = .ok (.iconst 1, 1) := by decide +kernel
theorem dX7_isSide_6 : decode cX7_isSide 6 = .ok (.if_icmp .ne 7, 3) := by decide +kernel
theorem dX7_isSide_9 : decode cX7_isSide 9 = .ok (.iconst 1, 1) := by decide +kernel
theorem dX7_isSide_10 : decode cX7_isSide 10 = .ok (.goto 4, 3) := by decide +kernel
theorem dX7_isSide_13 : decode cX7_isSide 13 = .ok (.iconst 0, 1) := by decide +kernel
theorem dX7_isSide_14 : decode cX7_isSide 14 = .ok (.ireturn, 1) := by decide +kernel
theorem dX7_oneIf_0 : decode cX7_oneIf 0 = .ok (.iload_n 0, 1) := by decide +kernel
theorem dX7_oneIf_1 : decode cX7_oneIf 1 = .ok (.ifCond .eq 7, 3) := by decide +kernel
theorem dX7_oneIf_4 : decode cX7_oneIf 4 = .ok (.iconst 1, 1) := by decide +kernel
theorem dX7_oneIf_5 : decode cX7_oneIf 5 = .ok (.goto 4, 3) := by decide +kernel
theorem dX7_oneIf_8 : decode cX7_oneIf 8 = .ok (.iconst 0, 1) := by decide +kernel
theorem dX7_oneIf_9 : decode cX7_oneIf 9 = .ok (.ireturn, 1) := by decide +kernel
theorem dJ6_bitCount_0f7a4_0 : decode cJ6_bitCount_0f7a4 0 = .ok (.iload_n 0, 1) := by decide +kernel
theorem dJ6_bitCount_0f7a4_1 : decode cJ6_bitCount_0f7a4 1 = .ok (.iload_n 0, 1) := by decide +kernel
theorem dJ6_bitCount_0f7a4_2 : decode cJ6_bitCount_0f7a4 2 = .ok (.iconst 1, 1) := by decide +kernel
theorem dJ6_bitCount_0f7a4_3 : decode cJ6_bitCount_0f7a4 3 = .ok (.iushr, 1) := by decide +kernel
theorem dJ6_bitCount_0f7a4_4 : decode cJ6_bitCount_0f7a4 4 = .ok (.ldc_w 265, 3) := by decide +kernel
theorem dJ6_bitCount_0f7a4_7 : decode cJ6_bitCount_0f7a4 7 = .ok (.iand, 1) := by decide +kernel
theorem dJ6_bitCount_0f7a4_8 : decode cJ6_bitCount_0f7a4 8 = .ok (.isub, 1) := by decide +kernel
theorem dJ6_bitCount_0f7a4_9 : decode cJ6_bitCount_0f7a4 9 = .ok (.istore_n 0, 1) := by decide +kernel
theorem dJ6_bitCount_0f7a4_10 : decode cJ6_bitCount_0f7a4 10 = .ok (.iload_n 0, 1) := by decide +kernel
theorem dJ6_bitCount_0f7a4_11 : decode cJ6_bitCount_0f7a4 11 = .ok (.ldc_w 266, 3) := by decide +kernel
theorem dJ6_bitCount_0f7a4_14 : decode cJ6_bitCount_0f7a4 14 = .ok (.iand, 1) := by decide +kernel
theorem dJ6_bitCount_0f7a4_15 : decode cJ6_bitCount_0f7a4 15 = .ok (.iload_n 0, 1) := by decide +kernel
theorem dJ6_bitCount_0f7a4_16 : decode cJ6_bitCount_0f7a4 16 = .ok (.iconst 2, 1) := by decide +kernel
theorem dJ6_bitCount_0f7a4_17 : decode cJ6_bitCount_0f7a4 17 = .ok (.iushr, 1) := by decide +kernel
theorem dJ6_bitCount_0f7a4_18 : decode cJ6_bitCount_0f7a4 18 = .ok (.ldc_w 266, 3) := by decide +kernel
theorem dJ6_bitCount_0f7a4_21 : decode cJ6_bitCount_0f7a4 21 = .ok (.iand, 1) := by decide +kernel
theorem dJ6_bitCount_0f7a4_22 : decode cJ6_bitCount_0f7a4 22 = .ok (.iadd, 1) := by decide +kernel
theorem dJ6_bitCount_0f7a4_23 : decode cJ6_bitCount_0f7a4 23 = .ok (.istore_n 0, 1) := by decide +kernel
theorem dJ6_bitCount_0f7a4_24 : decode cJ6_bitCount_0f7a4 24 = .ok (.iload_n 0, 1) := by decide +kernel
theorem dJ6_bitCount_0f7a4_25 : decode cJ6_bitCount_0f7a4 25 = .ok (.iload_n 0, 1) := by decide +kernel
theorem dJ6_bitCount_0f7a4_26 : decode cJ6_bitCount_0f7a4 26 = .ok (.iconst 4, 1) := by decide +kernel
theorem dJ6_bitCount_0f7a4_27 : decode cJ6_bitCount_0f7a4 27 = .ok (.iushr, 1) := by decide +kernel
theorem dJ6_bitCount_0f7a4_28 : decode cJ6_bitCount_0f7a4 28 = .ok (.iadd, 1) := by decide +kernel
theorem dJ6_bitCount_0f7a4_29 : decode cJ6_bitCount_0f7a4 29 = .ok (.ldc_w 267, 3) := by decide +kernel
theorem dJ6_bitCount_0f7a4_32 : decode cJ6_bitCount_0f7a4 32 = .ok (.iand, 1) := by decide +kernel
theorem dJ6_bitCount_0f7a4_33 : decode cJ6_bitCount_0f7a4 33 = .ok (.istore_n 0, 1) := by decide +kernel
theorem dJ6_bitCount_0f7a4_34 : decode cJ6_bitCount_0f7a4 34 = .ok (.iload_n 0, 1) := by decide +kernel
theorem dJ6_bitCount_0f7a4_35 : decode cJ6_bitCount_0f7a4 35 = .ok (.iload_n 0, 1) := by decide +kernel
theorem dJ6_bitCount_0f7a4_36 : decode cJ6_bitCount_0f7a4 36 = .ok (.bipush 8, 2) := by decide +kernel
theorem dJ6_bitCount_0f7a4_38 : decode cJ6_bitCount_0f7a4 38 = .ok (.iushr, 1) := by decide +kernel
theorem dJ6_bitCount_0f7a4_39 : decode cJ6_bitCount_0f7a4 39 = .ok (.iadd, 1) := by decide +kernel
theorem dJ6_bitCount_0f7a4_40 : decode cJ6_bitCount_0f7a4 40 = .ok (.istore_n 0, 1) := by decide +kernel
theorem dJ6_bitCount_0f7a4_41 : decode cJ6_bitCount_0f7a4 41 = .ok (.iload_n 0, 1) := by decide +kernel
theorem dJ6_bitCount_0f7a4_42 : decode cJ6_bitCount_0f7a4 42 = .ok (.iload_n 0, 1) := by decide +kernel
theorem dJ6_bitCount_0f7a4_43 : decode cJ6_bitCount_0f7a4 43 = .ok (.bipush 16, 2) := by decide +kernel
theorem dJ6_bitCount_0f7a4_45 : decode cJ6_bitCount_0f7a4 45 = .ok (.iushr, 1) := by decide +kernel
theorem dJ6_bitCount_0f7a4_46 : decode cJ6_bitCount_0f7a4 46 = .ok (.iadd, 1) := by decide +kernel
theorem dJ6_bitCount_0f7a4_47 : decode cJ6_bitCount_0f7a4 47 = .ok (.istore_n 0, 1) := by decide +kernel
theorem dJ6_bitCount_0f7a4_48 : decode cJ6_bitCount_0f7a4 48 = .ok (.iload_n 0, 1) := by decide +kernel
theorem dJ6_bitCount_0f7a4_49 : decode cJ6_bitCount_0f7a4 49 = .ok (.bipush 63, 2) := by decide +kernel
theorem dJ6_bitCount_0f7a4_51 : decode cJ6_bitCount_0f7a4 51 = .ok (.iand, 1) := by decide +kernel
theorem dJ6_bitCount_0f7a4_52 : decode cJ6_bitCount_0f7a4 52 = .ok (.ireturn, 1) := by decide +kernel
theorem dJ9_abs_0f7a4_0 : decode cJ9_abs_0f7a4 0 = .ok (.iload_n 0, 1) := by decide +kernel
theorem dJ9_abs_0f7a4_1 : decode cJ9_abs_0f7a4 1 = .ok (.ifCond .ge 8, 3) := by decide +kernel
theorem dJ9_abs_0f7a4_4 : decode cJ9_abs_0f7a4 4 = .ok (.iload_n 0, 1) := by decide +kernel
theorem dJ9_abs_0f7a4_5 : decode cJ9_abs_0f7a4 5 = .ok (.ineg, 1) := by decide +kernel
theorem dJ9_abs_0f7a4_6 : decode cJ9_abs_0f7a4 6 = .ok (.goto 4, 3) := by decide +kernel
theorem dJ9_abs_0f7a4_9 : decode cJ9_abs_0f7a4 9 = .ok (.iload_n 0, 1) := by decide +kernel
theorem dJ9_abs_0f7a4_10 : decode cJ9_abs_0f7a4 10 = .ok (.ireturn, 1) := by decide +kernel
theorem dJ9_max_7cf53_0 : decode cJ9_max_7cf53 0 = .ok (.iload_n 0, 1) := by decide +kernel
theorem dJ9_max_7cf53_1 : decode cJ9_max_7cf53 1 = .ok (.iload_n 1, 1) := by decide +kernel
theorem dJ9_max_7cf53_2 : decode cJ9_max_7cf53 2 = .ok (.if_icmp .lt 7, 3) := by decide +kernel
theorem dJ9_max_7cf53_5 : decode cJ9_max_7cf53 5 = .ok (.iload_n 0, 1) := by decide +kernel
theorem dJ9_max_7cf53_6 : decode cJ9_max_7cf53 6 = .ok (.goto 4, 3) := by decide +kernel
theorem dJ9_max_7cf53_9 : decode cJ9_max_7cf53 9 = .ok (.iload_n 1, 1) := by decide +kernel
theorem dJ9_max_7cf53_10 : decode cJ9_max_7cf53 10 = .ok (.ireturn, 1) := by decide +kernel
theorem dJ9_min_7cf53_0 : decode cJ9_min_7cf53 0 = .ok (.iload_n 0, 1) := by decide +kernel
theorem dJ9_min_7cf53_1 : decode cJ9_min_7cf53 1 = .ok (.iload_n 1, 1) := by decide +kernel
theorem dJ9_min_7cf53_2 : decode cJ9_min_7cf53 2 = .ok (.if_icmp .gt 7, 3) := by decide +kernel
theorem dJ9_min_7cf53_5 : decode cJ9_min_7cf53 5 = .ok (.iload_n 0, 1) := by decide +kernel
theorem dJ9_min_7cf53_6 : decode cJ9_min_7cf53 6 = .ok (.goto 4, 3) := by decide +kernel
theorem dJ9_min_7cf53_9 : decode cJ9_min_7cf53 9 = .ok (.iload_n 1, 1) := by decide +kernel
theorem dJ9_min_7cf53_10 : decode cJ9_min_7cf53 10 = .ok (.ireturn, 1) := by decide +kernel
theorem dJ7_fill_53178_0 : decode cJ7_fill_53178 0 = .ok (.iconst 0, 1) := by decide +kernel
theorem dJ7_fill_53178_1 : decode cJ7_fill_53178 1 = .ok (.istore_n 2, 1) := by decide +kernel
theorem dJ7_fill_53178_2 : decode cJ7_fill_53178 2 = .ok (.aload_n 0, 1) := by decide +kernel
theorem dJ7_fill_53178_3 : decode cJ7_fill_53178 3 = .ok (.arraylength, 1) := by decide +kernel
theorem dJ7_fill_53178_4 : decode cJ7_fill_53178 4 = .ok (.istore_n 3, 1) := by decide +kernel
theorem dJ7_fill_53178_5 : decode cJ7_fill_53178 5 = .ok (.iload_n 2, 1) := by decide +kernel
theorem dJ7_fill_53178_6 : decode cJ7_fill_53178 6 = .ok (.iload_n 3, 1) := by decide +kernel
theorem dJ7_fill_53178_7 : decode cJ7_fill_53178 7 = .ok (.if_icmp .ge 13, 3) := by decide +kernel
theorem dJ7_fill_53178_10 : decode cJ7_fill_53178 10 = .ok (.aload_n 0, 1) := by decide +kernel
theorem dJ7_fill_53178_11 : decode cJ7_fill_53178 11 = .ok (.iload_n 2, 1) := by decide +kernel
theorem dJ7_fill_53178_12 : decode cJ7_fill_53178 12 = .ok (.iload_n 1, 1) := by decide +kernel
theorem dJ7_fill_53178_13 : decode cJ7_fill_53178 13 = .ok (.iastore, 1) := by decide +kernel
theorem dJ7_fill_53178_14 : decode cJ7_fill_53178 14 = .ok (.iinc 2 1, 3) := by decide +kernel
theorem dJ7_fill_53178_17 : decode cJ7_fill_53178 17 = .ok (.goto (-12), 3) := by decide +kernel
theorem dJ7_fill_53178_20 : decode cJ7_fill_53178 20 = .ok (.return_, 1) := by decide +kernel
theorem dL_law_0 : decode cL_law 0 = .ok (.new 7, 3) := by decide +kernel
theorem dL_law_3 : decode cL_law 3 = .ok (.dup, 1) := by decide +kernel
theorem dL_law_4 : decode cL_law 4 = .ok (.invokespecial 9, 3) := by decide +kernel
theorem dL_law_7 : decode cL_law 7 = .ok (.astore_n 1, 1) := by decide +kernel
theorem dL_law_8 : decode cL_law 8 = .ok (.new 10, 3) := by decide +kernel
theorem dL_law_11 : decode cL_law 11 = .ok (.dup, 1) := by decide +kernel
theorem dL_law_12 : decode cL_law 12 = .ok (.invokespecial 12, 3) := by decide +kernel
theorem dL_law_15 : decode cL_law 15 = .ok (.astore_n 2, 1) := by decide +kernel
theorem dL_law_16 : decode cL_law 16 = .ok (.iconst 0, 1) := by decide +kernel
theorem dL_law_17 : decode cL_law 17 = .ok (.istore_n 3, 1) := by decide +kernel
theorem dL_law_18 : decode cL_law 18 = .ok (.iload_n 3, 1) := by decide +kernel
theorem dL_law_19 : decode cL_law 19 = .ok (.aload_n 0, 1) := by decide +kernel
theorem dL_law_20 : decode cL_law 20 = .ok (.arraylength, 1) := by decide +kernel
theorem dL_law_21 : decode cL_law 21 = .ok (.iconst 4, 1) := by decide +kernel
theorem dL_law_22 : decode cL_law 22 = .ok (.isub, 1) := by decide +kernel
theorem dL_law_23 : decode cL_law 23 = .ok (.if_icmp .gt 743, 3) := by decide +kernel
theorem dL_law_26 : decode cL_law 26 = .ok (.aload_n 0, 1) := by decide +kernel
theorem dL_law_27 : decode cL_law 27 = .ok (.iload_n 3, 1) := by decide +kernel
theorem dL_law_28 : decode cL_law 28 = .ok (.iaload, 1) := by decide +kernel
theorem dL_law_29 : decode cL_law 29 = .ok (.bipush 31, 2) := by decide +kernel
theorem dL_law_31 : decode cL_law 31 = .ok (.iand, 1) := by decide +kernel
theorem dL_law_32 : decode cL_law 32 = .ok (.tableswitch 728 0 21 #[104, 137, 196, 229, 262, 305, 338, 371, 384, 397, 422, 435, 448, 461, 474, 507, 540, 573, 606, 639, 682, 705], 104) := by decide +kernel
theorem dL_law_136 : decode cL_law 136 = .ok (.aload_n 1, 1) := by decide +kernel
theorem dL_law_137 : decode cL_law 137 = .ok (.aload_n 0, 1) := by decide +kernel
theorem dL_law_138 : decode cL_law 138 = .ok (.iload_n 3, 1) := by decide +kernel
theorem dL_law_139 : decode cL_law 139 = .ok (.iconst 1, 1) := by decide +kernel
theorem dL_law_140 : decode cL_law 140 = .ok (.iadd, 1) := by decide +kernel
theorem dL_law_141 : decode cL_law 141 = .ok (.iaload, 1) := by decide +kernel
theorem dL_law_142 : decode cL_law 142 = .ok (.aload_n 0, 1) := by decide +kernel
theorem dL_law_143 : decode cL_law 143 = .ok (.iload_n 3, 1) := by decide +kernel
theorem dL_law_144 : decode cL_law 144 = .ok (.iconst 2, 1) := by decide +kernel
theorem dL_law_145 : decode cL_law 145 = .ok (.iadd, 1) := by decide +kernel
theorem dL_law_146 : decode cL_law 146 = .ok (.iaload, 1) := by decide +kernel
theorem dL_law_147 : decode cL_law 147 = .ok (.invokevirtual 13, 3) := by decide +kernel
theorem dL_law_150 : decode cL_law 150 = .ok (.aload_n 2, 1) := by decide +kernel
theorem dL_law_151 : decode cL_law 151 = .ok (.aload_n 0, 1) := by decide +kernel
theorem dL_law_152 : decode cL_law 152 = .ok (.iload_n 3, 1) := by decide +kernel
theorem dL_law_153 : decode cL_law 153 = .ok (.iconst 1, 1) := by decide +kernel
theorem dL_law_154 : decode cL_law 154 = .ok (.iadd, 1) := by decide +kernel
theorem dL_law_155 : decode cL_law 155 = .ok (.iaload, 1) := by decide +kernel
theorem dL_law_156 : decode cL_law 156 = .ok (.aload_n 0, 1) := by decide +kernel
theorem dL_law_157 : decode cL_law 157 = .ok (.iload_n 3, 1) := by decide +kernel
theorem dL_law_158 : decode cL_law 158 = .ok (.iconst 2, 1) := by decide +kernel
theorem dL_law_159 : decode cL_law 159 = .ok (.iadd, 1) := by decide +kernel
theorem dL_law_160 : decode cL_law 160 = .ok (.iaload, 1) := by decide +kernel
theorem dL_law_161 : decode cL_law 161 = .ok (.invokevirtual 17, 3) := by decide +kernel
theorem dL_law_164 : decode cL_law 164 = .ok (.if_icmp .eq 596, 3) := by decide +kernel
theorem dL_law_167 : decode cL_law 167 = .ok (.iconst 0, 1) := by decide +kernel
theorem dL_law_168 : decode cL_law 168 = .ok (.ireturn, 1) := by decide +kernel
theorem dL_law_169 : decode cL_law 169 = .ok (.aload_n 1, 1) := by decide +kernel
theorem dL_law_170 : decode cL_law 170 = .ok (.aload_n 0, 1) := by decide +kernel
theorem dL_law_171 : decode cL_law 171 = .ok (.iload_n 3, 1) := by decide +kernel
theorem dL_law_172 : decode cL_law 172 = .ok (.iconst 1, 1) := by decide +kernel
theorem dL_law_173 : decode cL_law 173 = .ok (.iadd, 1) := by decide +kernel
theorem dL_law_174 : decode cL_law 174 = .ok (.iaload, 1) := by decide +kernel
theorem dL_law_175 : decode cL_law 175 = .ok (.aload_n 0, 1) := by decide +kernel
theorem dL_law_176 : decode cL_law 176 = .ok (.iload_n 3, 1) := by decide +kernel
theorem dL_law_177 : decode cL_law 177 = .ok (.iconst 2, 1) := by decide +kernel
theorem dL_law_178 : decode cL_law 178 = .ok (.iadd, 1) := by decide +kernel
theorem dL_law_179 : decode cL_law 179 = .ok (.iaload, 1) := by decide +kernel
theorem dL_law_180 : decode cL_law 180 = .ok (.aload_n 0, 1) := by decide +kernel
theorem dL_law_181 : decode cL_law 181 = .ok (.iload_n 3, 1) := by decide +kernel
theorem dL_law_182 : decode cL_law 182 = .ok (.iconst 3, 1) := by decide +kernel
theorem dL_law_183 : decode cL_law 183 = .ok (.iadd, 1) := by decide +kernel
theorem dL_law_184 : decode cL_law 184 = .ok (.iaload, 1) := by decide +kernel
theorem dL_law_185 : decode cL_law 185 = .ok (.ifCond .eq 7, 3) := by decide +kernel
theorem dL_law_188 : decode cL_law 188 = .ok (.iconst 1, 1) := by decide +kernel
theorem dL_law_189 : decode cL_law 189 = .ok (.goto 4, 3) := by decide +kernel
theorem dL_law_192 : decode cL_law 192 = .ok (.iconst 0, 1) := by decide +kernel
theorem dL_law_193 : decode cL_law 193 = .ok (.invokevirtual 18, 3) := by decide +kernel
theorem dL_law_196 : decode cL_law 196 = .ok (.aload_n 2, 1) := by decide +kernel
theorem dL_law_197 : decode cL_law 197 = .ok (.aload_n 0, 1) := by decide +kernel
theorem dL_law_198 : decode cL_law 198 = .ok (.iload_n 3, 1) := by decide +kernel
theorem dL_law_199 : decode cL_law 199 = .ok (.iconst 1, 1) := by decide +kernel
theorem dL_law_200 : decode cL_law 200 = .ok (.iadd, 1) := by decide +kernel
theorem dL_law_201 : decode cL_law 201 = .ok (.iaload, 1) := by decide +kernel
theorem dL_law_202 : decode cL_law 202 = .ok (.aload_n 0, 1) := by decide +kernel
theorem dL_law_203 : decode cL_law 203 = .ok (.iload_n 3, 1) := by decide +kernel
theorem dL_law_204 : decode cL_law 204 = .ok (.iconst 2, 1) := by decide +kernel
theorem dL_law_205 : decode cL_law 205 = .ok (.iadd, 1) := by decide +kernel
theorem dL_law_206 : decode cL_law 206 = .ok (.iaload, 1) := by decide +kernel
theorem dL_law_207 : decode cL_law 207 = .ok (.aload_n 0, 1) := by decide +kernel
theorem dL_law_208 : decode cL_law 208 = .ok (.iload_n 3, 1) := by decide +kernel
theorem dL_law_209 : decode cL_law 209 = .ok (.iconst 3, 1) := by decide +kernel
theorem dL_law_210 : decode cL_law 210 = .ok (.iadd, 1) := by decide +kernel
theorem dL_law_211 : decode cL_law 211 = .ok (.iaload, 1) := by decide +kernel
theorem dL_law_212 : decode cL_law 212 = .ok (.ifCond .eq 7, 3) := by decide +kernel
theorem dL_law_215 : decode cL_law 215 = .ok (.iconst 1, 1) := by decide +kernel
theorem dL_law_216 : decode cL_law 216 = .ok (.goto 4, 3) := by decide +kernel
theorem dL_law_219 : decode cL_law 219 = .ok (.iconst 0, 1) := by decide +kernel
theorem dL_law_220 : decode cL_law 220 = .ok (.invokevirtual 22, 3) := by decide +kernel
theorem dL_law_223 : decode cL_law 223 = .ok (.if_icmp .eq 537, 3) := by decide +kernel
theorem dL_law_226 : decode cL_law 226 = .ok (.iconst 0, 1) := by decide +kernel
theorem dL_law_227 : decode cL_law 227 = .ok (.ireturn, 1) := by decide +kernel
theorem dL_law_228 : decode cL_law 228 = .ok (.aload_n 1, 1) := by decide +kernel
theorem dL_law_229 : decode cL_law 229 = .ok (.aload_n 0, 1) := by decide +kernel
theorem dL_law_230 : decode cL_law 230 = .ok (.iload_n 3, 1) := by decide +kernel
theorem dL_law_231 : decode cL_law 231 = .ok (.iconst 1, 1) := by decide +kernel
theorem dL_law_232 : decode cL_law 232 = .ok (.iadd, 1) := by decide +kernel
theorem dL_law_233 : decode cL_law 233 = .ok (.iaload, 1) := by decide +kernel
theorem dL_law_234 : decode cL_law 234 = .ok (.aload_n 0, 1) := by decide +kernel
theorem dL_law_235 : decode cL_law 235 = .ok (.iload_n 3, 1) := by decide +kernel
theorem dL_law_236 : decode cL_law 236 = .ok (.iconst 2, 1) := by decide +kernel
theorem dL_law_237 : decode cL_law 237 = .ok (.iadd, 1) := by decide +kernel
theorem dL_law_238 : decode cL_law 238 = .ok (.iaload, 1) := by decide +kernel
theorem dL_law_239 : decode cL_law 239 = .ok (.invokevirtual 23, 3) := by decide +kernel
theorem dL_law_242 : decode cL_law 242 = .ok (.aload_n 2, 1) := by decide +kernel
theorem dL_law_243 : decode cL_law 243 = .ok (.aload_n 0, 1) := by decide +kernel
theorem dL_law_244 : decode cL_law 244 = .ok (.iload_n 3, 1) := by decide +kernel
theorem dL_law_245 : decode cL_law 245 = .ok (.iconst 1, 1) := by decide +kernel
theorem dL_law_246 : decode cL_law 246 = .ok (.iadd, 1) := by decide +kernel
theorem dL_law_247 : decode cL_law 247 = .ok (.iaload, 1) := by decide +kernel
theorem dL_law_248 : decode cL_law 248 = .ok (.aload_n 0, 1) := by decide +kernel
theorem dL_law_249 : decode cL_law 249 = .ok (.iload_n 3, 1) := by decide +kernel
theorem dL_law_250 : decode cL_law 250 = .ok (.iconst 2, 1) := by decide +kernel
theorem dL_law_251 : decode cL_law 251 = .ok (.iadd, 1) := by decide +kernel
theorem dL_law_252 : decode cL_law 252 = .ok (.iaload, 1) := by decide +kernel
theorem dL_law_253 : decode cL_law 253 = .ok (.invokevirtual 26, 3) := by decide +kernel
theorem dL_law_256 : decode cL_law 256 = .ok (.if_icmp .eq 504, 3) := by decide +kernel
theorem dL_law_259 : decode cL_law 259 = .ok (.iconst 0, 1) := by decide +kernel
theorem dL_law_260 : decode cL_law 260 = .ok (.ireturn, 1) := by decide +kernel
theorem dL_law_261 : decode cL_law 261 = .ok (.aload_n 1, 1) := by decide +kernel
theorem dL_law_262 : decode cL_law 262 = .ok (.aload_n 0, 1) := by decide +kernel
theorem dL_law_263 : decode cL_law 263 = .ok (.iload_n 3, 1) := by decide +kernel
theorem dL_law_264 : decode cL_law 264 = .ok (.iconst 1, 1) := by decide +kernel
theorem dL_law_265 : decode cL_law 265 = .ok (.iadd, 1) := by decide +kernel
theorem dL_law_266 : decode cL_law 266 = .ok (.iaload, 1) := by decide +kernel
theorem dL_law_267 : decode cL_law 267 = .ok (.aload_n 0, 1) := by decide +kernel
theorem dL_law_268 : decode cL_law 268 = .ok (.iload_n 3, 1) := by decide +kernel
theorem dL_law_269 : decode cL_law 269 = .ok (.iconst 2, 1) := by decide +kernel
theorem dL_law_270 : decode cL_law 270 = .ok (.iadd, 1) := by decide +kernel
theorem dL_law_271 : decode cL_law 271 = .ok (.iaload, 1) := by decide +kernel
theorem dL_law_272 : decode cL_law 272 = .ok (.invokevirtual 27, 3) := by decide +kernel
theorem dL_law_275 : decode cL_law 275 = .ok (.aload_n 2, 1) := by decide +kernel
theorem dL_law_276 : decode cL_law 276 = .ok (.aload_n 0, 1) := by decide +kernel
theorem dL_law_277 : decode cL_law 277 = .ok (.iload_n 3, 1) := by decide +kernel
theorem dL_law_278 : decode cL_law 278 = .ok (.iconst 1, 1) := by decide +kernel
theorem dL_law_279 : decode cL_law 279 = .ok (.iadd, 1) := by decide +kernel
theorem dL_law_280 : decode cL_law 280 = .ok (.iaload, 1) := by decide +kernel
theorem dL_law_281 : decode cL_law 281 = .ok (.aload_n 0, 1) := by decide +kernel
theorem dL_law_282 : decode cL_law 282 = .ok (.iload_n 3, 1) := by decide +kernel
theorem dL_law_283 : decode cL_law 283 = .ok (.iconst 2, 1) := by decide +kernel
theorem dL_law_284 : decode cL_law 284 = .ok (.iadd, 1) := by decide +kernel
theorem dL_law_285 : decode cL_law 285 = .ok (.iaload, 1) := by decide +kernel
theorem dL_law_286 : decode cL_law 286 = .ok (.invokevirtual 30, 3) := by decide +kernel
theorem dL_law_289 : decode cL_law 289 = .ok (.if_icmp .eq 471, 3) := by decide +kernel
theorem dL_law_292 : decode cL_law 292 = .ok (.iconst 0, 1) := by decide +kernel
theorem dL_law_293 : decode cL_law 293 = .ok (.ireturn, 1) := by decide +kernel
theorem dL_law_294 : decode cL_law 294 = .ok (.aload_n 1, 1) := by decide +kernel
theorem dL_law_295 : decode cL_law 295 = .ok (.aload_n 0, 1) := by decide +kernel
theorem dL_law_296 : decode cL_law 296 = .ok (.iload_n 3, 1) := by decide +kernel
theorem dL_law_297 : decode cL_law 297 = .ok (.iconst 1, 1) := by decide +kernel
theorem dL_law_298 : decode cL_law 298 = .ok (.iadd, 1) := by decide +kernel
theorem dL_law_299 : decode cL_law 299 = .ok (.iaload, 1) := by decide +kernel
theorem dL_law_300 : decode cL_law 300 = .ok (.aload_n 0, 1) := by decide +kernel
theorem dL_law_301 : decode cL_law 301 = .ok (.iload_n 3, 1) := by decide +kernel
theorem dL_law_302 : decode cL_law 302 = .ok (.iconst 2, 1) := by decide +kernel
theorem dL_law_303 : decode cL_law 303 = .ok (.iadd, 1) := by decide +kernel
theorem dL_law_304 : decode cL_law 304 = .ok (.iaload, 1) := by decide +kernel
theorem dL_law_305 : decode cL_law 305 = .ok (.aload_n 0, 1) := by decide +kernel
theorem dL_law_306 : decode cL_law 306 = .ok (.iload_n 3, 1) := by decide +kernel
theorem dL_law_307 : decode cL_law 307 = .ok (.iconst 3, 1) := by decide +kernel
theorem dL_law_308 : decode cL_law 308 = .ok (.iadd, 1) := by decide +kernel
theorem dL_law_309 : decode cL_law 309 = .ok (.iaload, 1) := by decide +kernel
theorem dL_law_310 : decode cL_law 310 = .ok (.invokevirtual 31, 3) := by decide +kernel
theorem dL_law_313 : decode cL_law 313 = .ok (.aload_n 2, 1) := by decide +kernel
theorem dL_law_314 : decode cL_law 314 = .ok (.aload_n 0, 1) := by decide +kernel
theorem dL_law_315 : decode cL_law 315 = .ok (.iload_n 3, 1) := by decide +kernel
theorem dL_law_316 : decode cL_law 316 = .ok (.iconst 1, 1) := by decide +kernel
theorem dL_law_317 : decode cL_law 317 = .ok (.iadd, 1) := by decide +kernel
theorem dL_law_318 : decode cL_law 318 = .ok (.iaload, 1) := by decide +kernel
theorem dL_law_319 : decode cL_law 319 = .ok (.aload_n 0, 1) := by decide +kernel
theorem dL_law_320 : decode cL_law 320 = .ok (.iload_n 3, 1) := by decide +kernel
theorem dL_law_321 : decode cL_law 321 = .ok (.iconst 2, 1) := by decide +kernel
theorem dL_law_322 : decode cL_law 322 = .ok (.iadd, 1) := by decide +kernel
theorem dL_law_323 : decode cL_law 323 = .ok (.iaload, 1) := by decide +kernel
theorem dL_law_324 : decode cL_law 324 = .ok (.aload_n 0, 1) := by decide +kernel
theorem dL_law_325 : decode cL_law 325 = .ok (.iload_n 3, 1) := by decide +kernel
theorem dL_law_326 : decode cL_law 326 = .ok (.iconst 3, 1) := by decide +kernel
theorem dL_law_327 : decode cL_law 327 = .ok (.iadd, 1) := by decide +kernel
theorem dL_law_328 : decode cL_law 328 = .ok (.iaload, 1) := by decide +kernel
theorem dL_law_329 : decode cL_law 329 = .ok (.invokevirtual 35, 3) := by decide +kernel
theorem dL_law_332 : decode cL_law 332 = .ok (.if_icmp .eq 428, 3) := by decide +kernel
theorem dL_law_335 : decode cL_law 335 = .ok (.iconst 0, 1) := by decide +kernel
theorem dL_law_336 : decode cL_law 336 = .ok (.ireturn, 1) := by decide +kernel
theorem dL_law_337 : decode cL_law 337 = .ok (.aload_n 1, 1) := by decide +kernel
theorem dL_law_338 : decode cL_law 338 = .ok (.aload_n 0, 1) := by decide +kernel
theorem dL_law_339 : decode cL_law 339 = .ok (.iload_n 3, 1) := by decide +kernel
theorem dL_law_340 : decode cL_law 340 = .ok (.iconst 1, 1) := by decide +kernel
theorem dL_law_341 : decode cL_law 341 = .ok (.iadd, 1) := by decide +kernel
theorem dL_law_342 : decode cL_law 342 = .ok (.iaload, 1) := by decide +kernel
theorem dL_law_343 : decode cL_law 343 = .ok (.aload_n 0, 1) := by decide +kernel
theorem dL_law_344 : decode cL_law 344 = .ok (.iload_n 3, 1) := by decide +kernel
theorem dL_law_345 : decode cL_law 345 = .ok (.iconst 2, 1) := by decide +kernel
theorem dL_law_346 : decode cL_law 346 = .ok (.iadd, 1) := by decide +kernel
theorem dL_law_347 : decode cL_law 347 = .ok (.iaload, 1) := by decide +kernel
theorem dL_law_348 : decode cL_law 348 = .ok (.invokevirtual 36, 3) := by decide +kernel
theorem dL_law_351 : decode cL_law 351 = .ok (.aload_n 2, 1) := by decide +kernel
theorem dL_law_352 : decode cL_law 352 = .ok (.aload_n 0, 1) := by decide +kernel
theorem dL_law_353 : decode cL_law 353 = .ok (.iload_n 3, 1) := by decide +kernel
theorem dL_law_354 : decode cL_law 354 = .ok (.iconst 1, 1) := by decide +kernel
theorem dL_law_355 : decode cL_law 355 = .ok (.iadd, 1) := by decide +kernel
theorem dL_law_356 : decode cL_law 356 = .ok (.iaload, 1) := by decide +kernel
theorem dL_law_357 : decode cL_law 357 = .ok (.aload_n 0, 1) := by decide +kernel
theorem dL_law_358 : decode cL_law 358 = .ok (.iload_n 3, 1) := by decide +kernel
theorem dL_law_359 : decode cL_law 359 = .ok (.iconst 2, 1) := by decide +kernel
theorem dL_law_360 : decode cL_law 360 = .ok (.iadd, 1) := by decide +kernel
theorem dL_law_361 : decode cL_law 361 = .ok (.iaload, 1) := by decide +kernel
theorem dL_law_362 : decode cL_law 362 = .ok (.invokevirtual 39, 3) := by decide +kernel
theorem dL_law_365 : decode cL_law 365 = .ok (.if_icmp .eq 395, 3) := by decide +kernel
theorem dL_law_368 : decode cL_law 368 = .ok (.iconst 0, 1) := by decide +kernel
theorem dL_law_369 : decode cL_law 369 = .ok (.ireturn, 1) := by decide +kernel
theorem dL_law_370 : decode cL_law 370 = .ok (.aload_n 1, 1) := by decide +kernel
theorem dL_law_371 : decode cL_law 371 = .ok (.aload_n 0, 1) := by decide +kernel
theorem dL_law_372 : decode cL_law 372 = .ok (.iload_n 3, 1) := by decide +kernel
theorem dL_law_373 : decode cL_law 373 = .ok (.iconst 1, 1) := by decide +kernel
theorem dL_law_374 : decode cL_law 374 = .ok (.iadd, 1) := by decide +kernel
theorem dL_law_375 : decode cL_law 375 = .ok (.iaload, 1) := by decide +kernel
theorem dL_law_376 : decode cL_law 376 = .ok (.aload_n 0, 1) := by decide +kernel
theorem dL_law_377 : decode cL_law 377 = .ok (.iload_n 3, 1) := by decide +kernel
theorem dL_law_378 : decode cL_law 378 = .ok (.iconst 2, 1) := by decide +kernel
theorem dL_law_379 : decode cL_law 379 = .ok (.iadd, 1) := by decide +kernel
theorem dL_law_380 : decode cL_law 380 = .ok (.iaload, 1) := by decide +kernel
theorem dL_law_381 : decode cL_law 381 = .ok (.invokevirtual 40, 3) := by decide +kernel
theorem dL_law_384 : decode cL_law 384 = .ok (.aload_n 2, 1) := by decide +kernel
theorem dL_law_385 : decode cL_law 385 = .ok (.aload_n 0, 1) := by decide +kernel
theorem dL_law_386 : decode cL_law 386 = .ok (.iload_n 3, 1) := by decide +kernel
theorem dL_law_387 : decode cL_law 387 = .ok (.iconst 1, 1) := by decide +kernel
theorem dL_law_388 : decode cL_law 388 = .ok (.iadd, 1) := by decide +kernel
theorem dL_law_389 : decode cL_law 389 = .ok (.iaload, 1) := by decide +kernel
theorem dL_law_390 : decode cL_law 390 = .ok (.aload_n 0, 1) := by decide +kernel
theorem dL_law_391 : decode cL_law 391 = .ok (.iload_n 3, 1) := by decide +kernel
theorem dL_law_392 : decode cL_law 392 = .ok (.iconst 2, 1) := by decide +kernel
theorem dL_law_393 : decode cL_law 393 = .ok (.iadd, 1) := by decide +kernel
theorem dL_law_394 : decode cL_law 394 = .ok (.iaload, 1) := by decide +kernel
theorem dL_law_395 : decode cL_law 395 = .ok (.invokevirtual 43, 3) := by decide +kernel
theorem dL_law_398 : decode cL_law 398 = .ok (.if_icmp .eq 362, 3) := by decide +kernel
theorem dL_law_401 : decode cL_law 401 = .ok (.iconst 0, 1) := by decide +kernel
theorem dL_law_402 : decode cL_law 402 = .ok (.ireturn, 1) := by decide +kernel
theorem dL_law_403 : decode cL_law 403 = .ok (.aload_n 1, 1) := by decide +kernel
theorem dL_law_404 : decode cL_law 404 = .ok (.invokevirtual 44, 3) := by decide +kernel
theorem dL_law_407 : decode cL_law 407 = .ok (.aload_n 2, 1) := by decide +kernel
theorem dL_law_408 : decode cL_law 408 = .ok (.invokevirtual 48, 3) := by decide +kernel
theorem dL_law_411 : decode cL_law 411 = .ok (.if_icmp .eq 349, 3) := by decide +kernel
theorem dL_law_414 : decode cL_law 414 = .ok (.iconst 0, 1) := by decide +kernel
theorem dL_law_415 : decode cL_law 415 = .ok (.ireturn, 1) := by decide +kernel
theorem dL_law_416 : decode cL_law 416 = .ok (.aload_n 1, 1) := by decide +kernel
theorem dL_law_417 : decode cL_law 417 = .ok (.invokevirtual 49, 3) := by decide +kernel
theorem dL_law_420 : decode cL_law 420 = .ok (.aload_n 2, 1) := by decide +kernel
theorem dL_law_421 : decode cL_law 421 = .ok (.invokevirtual 52, 3) := by decide +kernel
theorem dL_law_424 : decode cL_law 424 = .ok (.if_icmp .eq 336, 3) := by decide +kernel
theorem dL_law_427 : decode cL_law 427 = .ok (.iconst 0, 1) := by decide +kernel
theorem dL_law_428 : decode cL_law 428 = .ok (.ireturn, 1) := by decide +kernel
theorem dL_law_429 : decode cL_law 429 = .ok (.aload_n 1, 1) := by decide +kernel
theorem dL_law_430 : decode cL_law 430 = .ok (.aload_n 0, 1) := by decide +kernel
theorem dL_law_431 : decode cL_law 431 = .ok (.iload_n 3, 1) := by decide +kernel
theorem dL_law_432 : decode cL_law 432 = .ok (.iconst 1, 1) := by decide +kernel
theorem dL_law_433 : decode cL_law 433 = .ok (.iadd, 1) := by decide +kernel
theorem dL_law_434 : decode cL_law 434 = .ok (.iaload, 1) := by decide +kernel
theorem dL_law_435 : decode cL_law 435 = .ok (.i2c, 1) := by decide +kernel
theorem dL_law_436 : decode cL_law 436 = .ok (.invokevirtual 53, 3) := by decide +kernel
theorem dL_law_439 : decode cL_law 439 = .ok (.aload_n 2, 1) := by decide +kernel
theorem dL_law_440 : decode cL_law 440 = .ok (.aload_n 0, 1) := by decide +kernel
theorem dL_law_441 : decode cL_law 441 = .ok (.iload_n 3, 1) := by decide +kernel
theorem dL_law_442 : decode cL_law 442 = .ok (.iconst 1, 1) := by decide +kernel
theorem dL_law_443 : decode cL_law 443 = .ok (.iadd, 1) := by decide +kernel
theorem dL_law_444 : decode cL_law 444 = .ok (.iaload, 1) := by decide +kernel
theorem dL_law_445 : decode cL_law 445 = .ok (.i2c, 1) := by decide +kernel
theorem dL_law_446 : decode cL_law 446 = .ok (.invokevirtual 57, 3) := by decide +kernel
theorem dL_law_449 : decode cL_law 449 = .ok (.if_icmp .eq 311, 3) := by decide +kernel
theorem dL_law_452 : decode cL_law 452 = .ok (.iconst 0, 1) := by decide +kernel
theorem dL_law_453 : decode cL_law 453 = .ok (.ireturn, 1) := by decide +kernel
theorem dL_law_454 : decode cL_law 454 = .ok (.aload_n 1, 1) := by decide +kernel
theorem dL_law_455 : decode cL_law 455 = .ok (.invokevirtual 58, 3) := by decide +kernel
theorem dL_law_458 : decode cL_law 458 = .ok (.aload_n 2, 1) := by decide +kernel
theorem dL_law_459 : decode cL_law 459 = .ok (.invokevirtual 61, 3) := by decide +kernel
theorem dL_law_462 : decode cL_law 462 = .ok (.if_icmp .eq 298, 3) := by decide +kernel
theorem dL_law_465 : decode cL_law 465 = .ok (.iconst 0, 1) := by decide +kernel
theorem dL_law_466 : decode cL_law 466 = .ok (.ireturn, 1) := by decide +kernel
theorem dL_law_467 : decode cL_law 467 = .ok (.aload_n 1, 1) := by decide +kernel
theorem dL_law_468 : decode cL_law 468 = .ok (.invokevirtual 62, 3) := by decide +kernel
theorem dL_law_471 : decode cL_law 471 = .ok (.aload_n 2, 1) := by decide +kernel
theorem dL_law_472 : decode cL_law 472 = .ok (.invokevirtual 65, 3) := by decide +kernel
theorem dL_law_475 : decode cL_law 475 = .ok (.if_icmp .eq 285, 3) := by decide +kernel
theorem dL_law_478 : decode cL_law 478 = .ok (.iconst 0, 1) := by decide +kernel
theorem dL_law_479 : decode cL_law 479 = .ok (.ireturn, 1) := by decide +kernel
theorem dL_law_480 : decode cL_law 480 = .ok (.aload_n 1, 1) := by decide +kernel
theorem dL_law_481 : decode cL_law 481 = .ok (.invokevirtual 66, 3) := by decide +kernel
theorem dL_law_484 : decode cL_law 484 = .ok (.aload_n 2, 1) := by decide +kernel
theorem dL_law_485 : decode cL_law 485 = .ok (.invokevirtual 69, 3) := by decide +kernel
theorem dL_law_488 : decode cL_law 488 = .ok (.if_icmp .eq 272, 3) := by decide +kernel
theorem dL_law_491 : decode cL_law 491 = .ok (.iconst 0, 1) := by decide +kernel
theorem dL_law_492 : decode cL_law 492 = .ok (.ireturn, 1) := by decide +kernel
theorem dL_law_493 : decode cL_law 493 = .ok (.aload_n 1, 1) := by decide +kernel
theorem dL_law_494 : decode cL_law 494 = .ok (.invokevirtual 70, 3) := by decide +kernel
theorem dL_law_497 : decode cL_law 497 = .ok (.aload_n 2, 1) := by decide +kernel
theorem dL_law_498 : decode cL_law 498 = .ok (.invokevirtual 73, 3) := by decide +kernel
theorem dL_law_501 : decode cL_law 501 = .ok (.if_icmp .eq 259, 3) := by decide +kernel
theorem dL_law_504 : decode cL_law 504 = .ok (.iconst 0, 1) := by decide +kernel
theorem dL_law_505 : decode cL_law 505 = .ok (.ireturn, 1) := by decide +kernel
theorem dL_law_506 : decode cL_law 506 = .ok (.aload_n 1, 1) := by decide +kernel
theorem dL_law_507 : decode cL_law 507 = .ok (.aload_n 0, 1) := by decide +kernel
theorem dL_law_508 : decode cL_law 508 = .ok (.iload_n 3, 1) := by decide +kernel
theorem dL_law_509 : decode cL_law 509 = .ok (.iconst 1, 1) := by decide +kernel
theorem dL_law_510 : decode cL_law 510 = .ok (.iadd, 1) := by decide +kernel
theorem dL_law_511 : decode cL_law 511 = .ok (.iaload, 1) := by decide +kernel
theorem dL_law_512 : decode cL_law 512 = .ok (.aload_n 0, 1) := by decide +kernel
theorem dL_law_513 : decode cL_law 513 = .ok (.iload_n 3, 1) := by decide +kernel
theorem dL_law_514 : decode cL_law 514 = .ok (.iconst 2, 1) := by decide +kernel
theorem dL_law_515 : decode cL_law 515 = .ok (.iadd, 1) := by decide +kernel
theorem dL_law_516 : decode cL_law 516 = .ok (.iaload, 1) := by decide +kernel
theorem dL_law_517 : decode cL_law 517 = .ok (.invokevirtual 74, 3) := by decide +kernel
theorem dL_law_520 : decode cL_law 520 = .ok (.aload_n 2, 1) := by decide +kernel
theorem dL_law_521 : decode cL_law 521 = .ok (.aload_n 0, 1) := by decide +kernel
theorem dL_law_522 : decode cL_law 522 = .ok (.iload_n 3, 1) := by decide +kernel
theorem dL_law_523 : decode cL_law 523 = .ok (.iconst 1, 1) := by decide +kernel
theorem dL_law_524 : decode cL_law 524 = .ok (.iadd, 1) := by decide +kernel
theorem dL_law_525 : decode cL_law 525 = .ok (.iaload, 1) := by decide +kernel
theorem dL_law_526 : decode cL_law 526 = .ok (.aload_n 0, 1) := by decide +kernel
theorem dL_law_527 : decode cL_law 527 = .ok (.iload_n 3, 1) := by decide +kernel
theorem dL_law_528 : decode cL_law 528 = .ok (.iconst 2, 1) := by decide +kernel
theorem dL_law_529 : decode cL_law 529 = .ok (.iadd, 1) := by decide +kernel
theorem dL_law_530 : decode cL_law 530 = .ok (.iaload, 1) := by decide +kernel
theorem dL_law_531 : decode cL_law 531 = .ok (.invokevirtual 77, 3) := by decide +kernel
theorem dL_law_534 : decode cL_law 534 = .ok (.if_icmp .eq 226, 3) := by decide +kernel
theorem dL_law_537 : decode cL_law 537 = .ok (.iconst 0, 1) := by decide +kernel
theorem dL_law_538 : decode cL_law 538 = .ok (.ireturn, 1) := by decide +kernel
theorem dL_law_539 : decode cL_law 539 = .ok (.aload_n 1, 1) := by decide +kernel
theorem dL_law_540 : decode cL_law 540 = .ok (.aload_n 0, 1) := by decide +kernel
theorem dL_law_541 : decode cL_law 541 = .ok (.iload_n 3, 1) := by decide +kernel
theorem dL_law_542 : decode cL_law 542 = .ok (.iconst 1, 1) := by decide +kernel
theorem dL_law_543 : decode cL_law 543 = .ok (.iadd, 1) := by decide +kernel
theorem dL_law_544 : decode cL_law 544 = .ok (.iaload, 1) := by decide +kernel
theorem dL_law_545 : decode cL_law 545 = .ok (.aload_n 0, 1) := by decide +kernel
theorem dL_law_546 : decode cL_law 546 = .ok (.iload_n 3, 1) := by decide +kernel
theorem dL_law_547 : decode cL_law 547 = .ok (.iconst 2, 1) := by decide +kernel
theorem dL_law_548 : decode cL_law 548 = .ok (.iadd, 1) := by decide +kernel
theorem dL_law_549 : decode cL_law 549 = .ok (.iaload, 1) := by decide +kernel
theorem dL_law_550 : decode cL_law 550 = .ok (.invokevirtual 78, 3) := by decide +kernel
theorem dL_law_553 : decode cL_law 553 = .ok (.aload_n 2, 1) := by decide +kernel
theorem dL_law_554 : decode cL_law 554 = .ok (.aload_n 0, 1) := by decide +kernel
theorem dL_law_555 : decode cL_law 555 = .ok (.iload_n 3, 1) := by decide +kernel
theorem dL_law_556 : decode cL_law 556 = .ok (.iconst 1, 1) := by decide +kernel
theorem dL_law_557 : decode cL_law 557 = .ok (.iadd, 1) := by decide +kernel
theorem dL_law_558 : decode cL_law 558 = .ok (.iaload, 1) := by decide +kernel
theorem dL_law_559 : decode cL_law 559 = .ok (.aload_n 0, 1) := by decide +kernel
theorem dL_law_560 : decode cL_law 560 = .ok (.iload_n 3, 1) := by decide +kernel
theorem dL_law_561 : decode cL_law 561 = .ok (.iconst 2, 1) := by decide +kernel
theorem dL_law_562 : decode cL_law 562 = .ok (.iadd, 1) := by decide +kernel
theorem dL_law_563 : decode cL_law 563 = .ok (.iaload, 1) := by decide +kernel
theorem dL_law_564 : decode cL_law 564 = .ok (.invokevirtual 81, 3) := by decide +kernel
theorem dL_law_567 : decode cL_law 567 = .ok (.if_icmp .eq 193, 3) := by decide +kernel
theorem dL_law_570 : decode cL_law 570 = .ok (.iconst 0, 1) := by decide +kernel
theorem dL_law_571 : decode cL_law 571 = .ok (.ireturn, 1) := by decide +kernel
theorem dL_law_572 : decode cL_law 572 = .ok (.aload_n 1, 1) := by decide +kernel
theorem dL_law_573 : decode cL_law 573 = .ok (.aload_n 0, 1) := by decide +kernel
theorem dL_law_574 : decode cL_law 574 = .ok (.iload_n 3, 1) := by decide +kernel
theorem dL_law_575 : decode cL_law 575 = .ok (.iconst 1, 1) := by decide +kernel
theorem dL_law_576 : decode cL_law 576 = .ok (.iadd, 1) := by decide +kernel
theorem dL_law_577 : decode cL_law 577 = .ok (.iaload, 1) := by decide +kernel
theorem dL_law_578 : decode cL_law 578 = .ok (.aload_n 0, 1) := by decide +kernel
theorem dL_law_579 : decode cL_law 579 = .ok (.iload_n 3, 1) := by decide +kernel
theorem dL_law_580 : decode cL_law 580 = .ok (.iconst 2, 1) := by decide +kernel
theorem dL_law_581 : decode cL_law 581 = .ok (.iadd, 1) := by decide +kernel
theorem dL_law_582 : decode cL_law 582 = .ok (.iaload, 1) := by decide +kernel
theorem dL_law_583 : decode cL_law 583 = .ok (.invokevirtual 82, 3) := by decide +kernel
theorem dL_law_586 : decode cL_law 586 = .ok (.aload_n 2, 1) := by decide +kernel
theorem dL_law_587 : decode cL_law 587 = .ok (.aload_n 0, 1) := by decide +kernel
theorem dL_law_588 : decode cL_law 588 = .ok (.iload_n 3, 1) := by decide +kernel
theorem dL_law_589 : decode cL_law 589 = .ok (.iconst 1, 1) := by decide +kernel
theorem dL_law_590 : decode cL_law 590 = .ok (.iadd, 1) := by decide +kernel
theorem dL_law_591 : decode cL_law 591 = .ok (.iaload, 1) := by decide +kernel
theorem dL_law_592 : decode cL_law 592 = .ok (.aload_n 0, 1) := by decide +kernel
theorem dL_law_593 : decode cL_law 593 = .ok (.iload_n 3, 1) := by decide +kernel
theorem dL_law_594 : decode cL_law 594 = .ok (.iconst 2, 1) := by decide +kernel
theorem dL_law_595 : decode cL_law 595 = .ok (.iadd, 1) := by decide +kernel
theorem dL_law_596 : decode cL_law 596 = .ok (.iaload, 1) := by decide +kernel
theorem dL_law_597 : decode cL_law 597 = .ok (.invokevirtual 85, 3) := by decide +kernel
theorem dL_law_600 : decode cL_law 600 = .ok (.if_icmp .eq 160, 3) := by decide +kernel
theorem dL_law_603 : decode cL_law 603 = .ok (.iconst 0, 1) := by decide +kernel
theorem dL_law_604 : decode cL_law 604 = .ok (.ireturn, 1) := by decide +kernel
theorem dL_law_605 : decode cL_law 605 = .ok (.aload_n 1, 1) := by decide +kernel
theorem dL_law_606 : decode cL_law 606 = .ok (.aload_n 0, 1) := by decide +kernel
theorem dL_law_607 : decode cL_law 607 = .ok (.iload_n 3, 1) := by decide +kernel
theorem dL_law_608 : decode cL_law 608 = .ok (.iconst 1, 1) := by decide +kernel
theorem dL_law_609 : decode cL_law 609 = .ok (.iadd, 1) := by decide +kernel
theorem dL_law_610 : decode cL_law 610 = .ok (.iaload, 1) := by decide +kernel
theorem dL_law_611 : decode cL_law 611 = .ok (.aload_n 0, 1) := by decide +kernel
theorem dL_law_612 : decode cL_law 612 = .ok (.iload_n 3, 1) := by decide +kernel
theorem dL_law_613 : decode cL_law 613 = .ok (.iconst 2, 1) := by decide +kernel
theorem dL_law_614 : decode cL_law 614 = .ok (.iadd, 1) := by decide +kernel
theorem dL_law_615 : decode cL_law 615 = .ok (.iaload, 1) := by decide +kernel
theorem dL_law_616 : decode cL_law 616 = .ok (.invokevirtual 86, 3) := by decide +kernel
theorem dL_law_619 : decode cL_law 619 = .ok (.aload_n 2, 1) := by decide +kernel
theorem dL_law_620 : decode cL_law 620 = .ok (.aload_n 0, 1) := by decide +kernel
theorem dL_law_621 : decode cL_law 621 = .ok (.iload_n 3, 1) := by decide +kernel
theorem dL_law_622 : decode cL_law 622 = .ok (.iconst 1, 1) := by decide +kernel
theorem dL_law_623 : decode cL_law 623 = .ok (.iadd, 1) := by decide +kernel
theorem dL_law_624 : decode cL_law 624 = .ok (.iaload, 1) := by decide +kernel
theorem dL_law_625 : decode cL_law 625 = .ok (.aload_n 0, 1) := by decide +kernel
theorem dL_law_626 : decode cL_law 626 = .ok (.iload_n 3, 1) := by decide +kernel
theorem dL_law_627 : decode cL_law 627 = .ok (.iconst 2, 1) := by decide +kernel
theorem dL_law_628 : decode cL_law 628 = .ok (.iadd, 1) := by decide +kernel
theorem dL_law_629 : decode cL_law 629 = .ok (.iaload, 1) := by decide +kernel
theorem dL_law_630 : decode cL_law 630 = .ok (.invokevirtual 89, 3) := by decide +kernel
theorem dL_law_633 : decode cL_law 633 = .ok (.if_icmp .eq 127, 3) := by decide +kernel
theorem dL_law_636 : decode cL_law 636 = .ok (.iconst 0, 1) := by decide +kernel
theorem dL_law_637 : decode cL_law 637 = .ok (.ireturn, 1) := by decide +kernel
theorem dL_law_638 : decode cL_law 638 = .ok (.aload_n 1, 1) := by decide +kernel
theorem dL_law_639 : decode cL_law 639 = .ok (.aload_n 0, 1) := by decide +kernel
theorem dL_law_640 : decode cL_law 640 = .ok (.iload_n 3, 1) := by decide +kernel
theorem dL_law_641 : decode cL_law 641 = .ok (.iconst 1, 1) := by decide +kernel
theorem dL_law_642 : decode cL_law 642 = .ok (.iadd, 1) := by decide +kernel
theorem dL_law_643 : decode cL_law 643 = .ok (.iaload, 1) := by decide +kernel
theorem dL_law_644 : decode cL_law 644 = .ok (.aload_n 0, 1) := by decide +kernel
theorem dL_law_645 : decode cL_law 645 = .ok (.iload_n 3, 1) := by decide +kernel
theorem dL_law_646 : decode cL_law 646 = .ok (.iconst 2, 1) := by decide +kernel
theorem dL_law_647 : decode cL_law 647 = .ok (.iadd, 1) := by decide +kernel
theorem dL_law_648 : decode cL_law 648 = .ok (.iaload, 1) := by decide +kernel
theorem dL_law_649 : decode cL_law 649 = .ok (.invokevirtual 90, 3) := by decide +kernel
theorem dL_law_652 : decode cL_law 652 = .ok (.aload_n 2, 1) := by decide +kernel
theorem dL_law_653 : decode cL_law 653 = .ok (.aload_n 0, 1) := by decide +kernel
theorem dL_law_654 : decode cL_law 654 = .ok (.iload_n 3, 1) := by decide +kernel
theorem dL_law_655 : decode cL_law 655 = .ok (.iconst 1, 1) := by decide +kernel
theorem dL_law_656 : decode cL_law 656 = .ok (.iadd, 1) := by decide +kernel
theorem dL_law_657 : decode cL_law 657 = .ok (.iaload, 1) := by decide +kernel
theorem dL_law_658 : decode cL_law 658 = .ok (.aload_n 0, 1) := by decide +kernel
theorem dL_law_659 : decode cL_law 659 = .ok (.iload_n 3, 1) := by decide +kernel
theorem dL_law_660 : decode cL_law 660 = .ok (.iconst 2, 1) := by decide +kernel
theorem dL_law_661 : decode cL_law 661 = .ok (.iadd, 1) := by decide +kernel
theorem dL_law_662 : decode cL_law 662 = .ok (.iaload, 1) := by decide +kernel
theorem dL_law_663 : decode cL_law 663 = .ok (.invokevirtual 93, 3) := by decide +kernel
theorem dL_law_666 : decode cL_law 666 = .ok (.if_icmp .eq 94, 3) := by decide +kernel
theorem dL_law_669 : decode cL_law 669 = .ok (.iconst 0, 1) := by decide +kernel
theorem dL_law_670 : decode cL_law 670 = .ok (.ireturn, 1) := by decide +kernel
theorem dL_law_671 : decode cL_law 671 = .ok (.aload_n 1, 1) := by decide +kernel
theorem dL_law_672 : decode cL_law 672 = .ok (.aload_n 0, 1) := by decide +kernel
theorem dL_law_673 : decode cL_law 673 = .ok (.iload_n 3, 1) := by decide +kernel
theorem dL_law_674 : decode cL_law 674 = .ok (.iconst 1, 1) := by decide +kernel
theorem dL_law_675 : decode cL_law 675 = .ok (.iadd, 1) := by decide +kernel
theorem dL_law_676 : decode cL_law 676 = .ok (.iaload, 1) := by decide +kernel
theorem dL_law_677 : decode cL_law 677 = .ok (.aload_n 0, 1) := by decide +kernel
theorem dL_law_678 : decode cL_law 678 = .ok (.iload_n 3, 1) := by decide +kernel
theorem dL_law_679 : decode cL_law 679 = .ok (.iconst 2, 1) := by decide +kernel
theorem dL_law_680 : decode cL_law 680 = .ok (.iadd, 1) := by decide +kernel
theorem dL_law_681 : decode cL_law 681 = .ok (.iaload, 1) := by decide +kernel
theorem dL_law_682 : decode cL_law 682 = .ok (.aload_n 0, 1) := by decide +kernel
theorem dL_law_683 : decode cL_law 683 = .ok (.iload_n 3, 1) := by decide +kernel
theorem dL_law_684 : decode cL_law 684 = .ok (.iconst 3, 1) := by decide +kernel
theorem dL_law_685 : decode cL_law 685 = .ok (.iadd, 1) := by decide +kernel
theorem dL_law_686 : decode cL_law 686 = .ok (.iaload, 1) := by decide +kernel
theorem dL_law_687 : decode cL_law 687 = .ok (.invokevirtual 94, 3) := by decide +kernel
theorem dL_law_690 : decode cL_law 690 = .ok (.aload_n 2, 1) := by decide +kernel
theorem dL_law_691 : decode cL_law 691 = .ok (.aload_n 0, 1) := by decide +kernel
theorem dL_law_692 : decode cL_law 692 = .ok (.iload_n 3, 1) := by decide +kernel
theorem dL_law_693 : decode cL_law 693 = .ok (.iconst 1, 1) := by decide +kernel
theorem dL_law_694 : decode cL_law 694 = .ok (.iadd, 1) := by decide +kernel
theorem dL_law_695 : decode cL_law 695 = .ok (.iaload, 1) := by decide +kernel
theorem dL_law_696 : decode cL_law 696 = .ok (.aload_n 0, 1) := by decide +kernel
theorem dL_law_697 : decode cL_law 697 = .ok (.iload_n 3, 1) := by decide +kernel
theorem dL_law_698 : decode cL_law 698 = .ok (.iconst 2, 1) := by decide +kernel
theorem dL_law_699 : decode cL_law 699 = .ok (.iadd, 1) := by decide +kernel
theorem dL_law_700 : decode cL_law 700 = .ok (.iaload, 1) := by decide +kernel
theorem dL_law_701 : decode cL_law 701 = .ok (.aload_n 0, 1) := by decide +kernel
theorem dL_law_702 : decode cL_law 702 = .ok (.iload_n 3, 1) := by decide +kernel
theorem dL_law_703 : decode cL_law 703 = .ok (.iconst 3, 1) := by decide +kernel
theorem dL_law_704 : decode cL_law 704 = .ok (.iadd, 1) := by decide +kernel
theorem dL_law_705 : decode cL_law 705 = .ok (.iaload, 1) := by decide +kernel
theorem dL_law_706 : decode cL_law 706 = .ok (.invokevirtual 97, 3) := by decide +kernel
theorem dL_law_709 : decode cL_law 709 = .ok (.if_icmp .eq 51, 3) := by decide +kernel
theorem dL_law_712 : decode cL_law 712 = .ok (.iconst 0, 1) := by decide +kernel
theorem dL_law_713 : decode cL_law 713 = .ok (.ireturn, 1) := by decide +kernel
theorem dL_law_714 : decode cL_law 714 = .ok (.aload_n 1, 1) := by decide +kernel
theorem dL_law_715 : decode cL_law 715 = .ok (.aload_n 0, 1) := by decide +kernel
theorem dL_law_716 : decode cL_law 716 = .ok (.iload_n 3, 1) := by decide +kernel
theorem dL_law_717 : decode cL_law 717 = .ok (.iconst 1, 1) := by decide +kernel
theorem dL_law_718 : decode cL_law 718 = .ok (.iadd, 1) := by decide +kernel
theorem dL_law_719 : decode cL_law 719 = .ok (.iaload, 1) := by decide +kernel
theorem dL_law_720 : decode cL_law 720 = .ok (.invokevirtual 98, 3) := by decide +kernel
theorem dL_law_723 : decode cL_law 723 = .ok (.aload_n 2, 1) := by decide +kernel
theorem dL_law_724 : decode cL_law 724 = .ok (.aload_n 0, 1) := by decide +kernel
theorem dL_law_725 : decode cL_law 725 = .ok (.iload_n 3, 1) := by decide +kernel
theorem dL_law_726 : decode cL_law 726 = .ok (.iconst 1, 1) := by decide +kernel
theorem dL_law_727 : decode cL_law 727 = .ok (.iadd, 1) := by decide +kernel
theorem dL_law_728 : decode cL_law 728 = .ok (.iaload, 1) := by decide +kernel
theorem dL_law_729 : decode cL_law 729 = .ok (.invokevirtual 102, 3) := by decide +kernel
theorem dL_law_732 : decode cL_law 732 = .ok (.if_icmp .eq 28, 3) := by decide +kernel
theorem dL_law_735 : decode cL_law 735 = .ok (.iconst 0, 1) := by decide +kernel
theorem dL_law_736 : decode cL_law 736 = .ok (.ireturn, 1) := by decide +kernel
theorem dL_law_737 : decode cL_law 737 = .ok (.aload_n 1, 1) := by decide +kernel
theorem dL_law_738 : decode cL_law 738 = .ok (.aload_n 0, 1) := by decide +kernel
theorem dL_law_739 : decode cL_law 739 = .ok (.iload_n 3, 1) := by decide +kernel
theorem dL_law_740 : decode cL_law 740 = .ok (.iconst 1, 1) := by decide +kernel
theorem dL_law_741 : decode cL_law 741 = .ok (.iadd, 1) := by decide +kernel
theorem dL_law_742 : decode cL_law 742 = .ok (.iaload, 1) := by decide +kernel
theorem dL_law_743 : decode cL_law 743 = .ok (.invokevirtual 103, 3) := by decide +kernel
theorem dL_law_746 : decode cL_law 746 = .ok (.aload_n 2, 1) := by decide +kernel
theorem dL_law_747 : decode cL_law 747 = .ok (.aload_n 0, 1) := by decide +kernel
theorem dL_law_748 : decode cL_law 748 = .ok (.iload_n 3, 1) := by decide +kernel
theorem dL_law_749 : decode cL_law 749 = .ok (.iconst 1, 1) := by decide +kernel
theorem dL_law_750 : decode cL_law 750 = .ok (.iadd, 1) := by decide +kernel
theorem dL_law_751 : decode cL_law 751 = .ok (.iaload, 1) := by decide +kernel
theorem dL_law_752 : decode cL_law 752 = .ok (.invokevirtual 106, 3) := by decide +kernel
theorem dL_law_755 : decode cL_law 755 = .ok (.if_icmp .eq 5, 3) := by decide +kernel
theorem dL_law_758 : decode cL_law 758 = .ok (.iconst 0, 1) := by decide +kernel
theorem dL_law_759 : decode cL_law 759 = .ok (.ireturn, 1) := by decide +kernel
theorem dL_law_760 : decode cL_law 760 = .ok (.iinc 3 4, 3) := by decide +kernel
theorem dL_law_763 : decode cL_law 763 = .ok (.goto (-745), 3) := by decide +kernel
theorem dL_law_766 : decode cL_law 766 = .ok (.iconst 1, 1) := by decide +kernel
theorem dL_law_767 : decode cL_law 767 = .ok (.ireturn, 1) := by decide +kernel
end
section
theorem dX8_init_0 : decode cX8_init 0 = .ok (.aload_n 0, 1) := by decide +kernel
theorem dX8_init_1 : decode cX8_init 1 = .ok (.invokespecial 1, 3) := by decide +kernel
theorem dX8_init_4 : decode cX8_init 4 = .ok (.aload_n 0, 1) := by decide +kernel
theorem dX8_init_5 : decode cX8_init 5 = .ok (.sipush 289, 3) := by decide +kernel
theorem dX8_init_8 : decode cX8_init 8 = .ok (.newarray .int, 2) := by decide +kernel
theorem dX8_init_10 : decode cX8_init 10 = .ok (.putfield 7, 3) := by decide +kernel
theorem dX8_init_13 : decode cX8_init 13 = .ok (.aload_n 0, 1) := by decide +kernel
theorem dX8_init_14 : decode cX8_init 14 = .ok (.sipush 289, 3) := by decide +kernel
theorem dX8_init_17 : decode cX8_init 17 = .ok (.newarray .int, 2) := by decide +kernel
theorem dX8_init_19 : decode cX8_init 19 = .ok (.putfield 13, 3) := by decide +kernel
theorem dX8_init_22 : decode cX8_init 22 = .ok (.aload_n 0, 1) := by decide +kernel
theorem dX8_init_23 : decode cX8_init 23 = .ok (.sipush 1156, 3) := by decide +kernel
theorem dX8_init_26 : decode cX8_init 26 = .ok (.newarray .int, 2) := by decide +kernel
theorem dX8_init_28 : decode cX8_init 28 = .ok (.putfield 16, 3) := by decide +kernel
theorem dX8_init_31 : decode cX8_init 31 = .ok (.aload_n 0, 1) := by decide +kernel
theorem dX8_init_32 : decode cX8_init 32 = .ok (.sipush 289, 3) := by decide +kernel
theorem dX8_init_35 : decode cX8_init 35 = .ok (.newarray .int, 2) := by decide +kernel
theorem dX8_init_37 : decode cX8_init 37 = .ok (.putfield 19, 3) := by decide +kernel
theorem dX8_init_40 : decode cX8_init 40 = .ok (.aload_n 0, 1) := by decide +kernel
theorem dX8_init_41 : decode cX8_init 41 = .ok (.bipush 60, 2) := by decide +kernel
theorem dX8_init_43 : decode cX8_init 43 = .ok (.newarray .int, 2) := by decide +kernel
theorem dX8_init_45 : decode cX8_init 45 = .ok (.putfield 22, 3) := by decide +kernel
theorem dX8_init_48 : decode cX8_init 48 = .ok (.aload_n 0, 1) := by decide +kernel
theorem dX8_init_49 : decode cX8_init 49 = .ok (.bipush 63, 2) := by decide +kernel
theorem dX8_init_51 : decode cX8_init 51 = .ok (.newarray .int, 2) := by decide +kernel
theorem dX8_init_53 : decode cX8_init 53 = .ok (.putfield 25, 3) := by decide +kernel
theorem dX8_init_56 : decode cX8_init 56 = .ok (.aload_n 0, 1) := by decide +kernel
theorem dX8_init_57 : decode cX8_init 57 = .ok (.bipush 63, 2) := by decide +kernel
theorem dX8_init_59 : decode cX8_init 59 = .ok (.newarray .boolean, 2) := by decide +kernel
theorem dX8_init_61 : decode cX8_init 61 = .ok (.putfield 28, 3) := by decide +kernel
theorem dX8_init_64 : decode cX8_init 64 = .ok (.aload_n 0, 1) := by decide +kernel
theorem dX8_init_65 : decode cX8_init 65 = .ok (.bipush 63, 2) := by decide +kernel
theorem dX8_init_67 : decode cX8_init 67 = .ok (.newarray .int, 2) := by decide +kernel
theorem dX8_init_69 : decode cX8_init 69 = .ok (.putfield 32, 3) := by decide +kernel
theorem dX8_init_72 : decode cX8_init 72 = .ok (.aload_n 0, 1) := by decide +kernel
theorem dX8_init_73 : decode cX8_init 73 = .ok (.bipush 63, 2) := by decide +kernel
theorem dX8_init_75 : decode cX8_init 75 = .ok (.newarray .boolean, 2) := by decide +kernel
theorem dX8_init_77 : decode cX8_init 77 = .ok (.putfield 35, 3) := by decide +kernel
theorem dX8_init_80 : decode cX8_init 80 = .ok (.aload_n 0, 1) := by decide +kernel
theorem dX8_init_81 : decode cX8_init 81 = .ok (.bipush 16, 2) := by decide +kernel
theorem dX8_init_83 : decode cX8_init 83 = .ok (.newarray .boolean, 2) := by decide +kernel
theorem dX8_init_85 : decode cX8_init 85 = .ok (.putfield 38, 3) := by decide +kernel
theorem dX8_init_88 : decode cX8_init 88 = .ok (.aload_n 0, 1) := by decide +kernel
theorem dX8_init_89 : decode cX8_init 89 = .ok (.bipush 96, 2) := by decide +kernel
theorem dX8_init_91 : decode cX8_init 91 = .ok (.newarray .int, 2) := by decide +kernel
theorem dX8_init_93 : decode cX8_init 93 = .ok (.putfield 41, 3) := by decide +kernel
theorem dX8_init_96 : decode cX8_init 96 = .ok (.aload_n 0, 1) := by decide +kernel
theorem dX8_init_97 : decode cX8_init 97 = .ok (.iconst 0, 1) := by decide +kernel
theorem dX8_init_98 : decode cX8_init 98 = .ok (.putfield 44, 3) := by decide +kernel
theorem dX8_init_101 : decode cX8_init 101 = .ok (.aload_n 0, 1) := by decide +kernel
theorem dX8_init_102 : decode cX8_init 102 = .ok (.getfield 7, 3) := by decide +kernel
theorem dX8_init_105 : decode cX8_init 105 = .ok (.sipush 189, 3) := by decide +kernel
theorem dX8_init_108 : decode cX8_init 108 = .ok (.bipush 27, 2) := by decide +kernel
theorem dX8_init_110 : decode cX8_init 110 = .ok (.iastore, 1) := by decide +kernel
theorem dX8_init_111 : decode cX8_init 111 = .ok (.aload_n 0, 1) := by decide +kernel
theorem dX8_init_112 : decode cX8_init 112 = .ok (.getfield 7, 3) := by decide +kernel
theorem dX8_init_115 : decode cX8_init 115 = .ok (.sipush 190, 3) := by decide +kernel
theorem dX8_init_118 : decode cX8_init 118 = .ok (.bipush 35, 2) := by decide +kernel
theorem dX8_init_120 : decode cX8_init 120 = .ok (.iastore, 1) := by decide +kernel
theorem dX8_init_121 : decode cX8_init 121 = .ok (.return_, 1) := by decide +kernel
theorem dX8_in_0 : decode cX8_in 0 = .ok (.iload_n 0, 1) := by decide +kernel
theorem dX8_in_1 : decode cX8_in 1 = .ok (.iload_n 1, 1) := by decide +kernel
theorem dX8_in_2 : decode cX8_in 2 = .ok (.if_icmp .lt 12, 3) := by decide +kernel
theorem dX8_in_5 : decode cX8_in 5 = .ok (.iload_n 0, 1) := by decide +kernel
theorem dX8_in_6 : decode cX8_in 6 = .ok (.iload_n 2, 1) := by decide +kernel
theorem dX8_in_7 : decode cX8_in 7 = .ok (.if_icmp .gt 7, 3) := by decide +kernel
theorem dX8_in_10 : decode cX8_in 10 = .ok (.iconst 1, 1) := by decide +kernel
theorem dX8_in_11 : decode cX8_in 11 = .ok (.goto 4, 3) := by decide +kernel
theorem dX8_in_14 : decode cX8_in 14 = .ok (.iconst 0, 1) := by decide +kernel
theorem dX8_in_15 : decode cX8_in 15 = .ok (.ireturn, 1) := by decide +kernel
theorem dX8_isHex_0 : decode cX8_isHex 0 = .ok (.iload_n 0, 1) := by decide +kernel
theorem dX8_isHex_1 : decode cX8_isHex 1 = .ok (.iconst 0, 1) := by decide +kernel
theorem dX8_isHex_2 : decode cX8_isHex 2 = .ok (.bipush 62, 2) := by decide +kernel
theorem dX8_isHex_4 : decode cX8_isHex 4 = .ok (.invokestatic 48, 3) := by decide +kernel
theorem dX8_isHex_7 : decode cX8_isHex 7 = .ok (.ireturn, 1) := by decide +kernel
theorem dX8_of_0 : decode cX8_of 0 = .ok (.aload_n 0, 1) := by decide +kernel
theorem dX8_of_1 : decode cX8_of 1 = .ok (.getfield 7, 3) := by decide +kernel
theorem dX8_of_4 : decode cX8_of 4 = .ok (.sipush 193, 3) := by decide +kernel
theorem dX8_of_7 : decode cX8_of 7 = .ok (.bipush 6, 2) := by decide +kernel
theorem dX8_of_9 : decode cX8_of 9 = .ok (.iload_n 1, 1) := by decide +kernel
theorem dX8_of_10 : decode cX8_of 10 = .ok (.imul, 1) := by decide +kernel
theorem dX8_of_11 : decode cX8_of 11 = .ok (.iadd, 1) := by decide +kernel
theorem dX8_of_12 : decode cX8_of 12 = .ok (.iload_n 2, 1) := by decide +kernel
theorem dX8_of_13 : decode cX8_of 13 = .ok (.iadd, 1) := by decide +kernel
theorem dX8_of_14 : decode cX8_of 14 = .ok (.iaload, 1) := by decide +kernel
theorem dX8_of_15 : decode cX8_of 15 = .ok (.ireturn, 1) := by decide +kernel
theorem dX8_lay_0 : decode cX8_lay 0 = .ok (.aload_n 0, 1) := by decide +kernel
theorem dX8_lay_1 : decode cX8_lay 1 = .ok (.getfield 7, 3) := by decide +kernel
theorem dX8_lay_4 : decode cX8_lay 4 = .ok (.sipush 193, 3) := by decide +kernel
theorem dX8_lay_7 : decode cX8_lay 7 = .ok (.bipush 6, 2) := by decide +kernel
theorem dX8_lay_9 : decode cX8_lay 9 = .ok (.iload_n 1, 1) := by decide +kernel
theorem dX8_lay_10 : decode cX8_lay 10 = .ok (.imul, 1) := by decide +kernel
theorem dX8_lay_11 : decode cX8_lay 11 = .ok (.iadd, 1) := by decide +kernel
theorem dX8_lay_12 : decode cX8_lay 12 = .ok (.iload_n 2, 1) := by decide +kernel
theorem dX8_lay_13 : decode cX8_lay 13 = .ok (.iadd, 1) := by decide +kernel
theorem dX8_lay_14 : decode cX8_lay 14 = .ok (.iload_n 3, 1) := by decide +kernel
theorem dX8_lay_15 : decode cX8_lay 15 = .ok (.iastore, 1) := by decide +kernel
theorem dX8_lay_16 : decode cX8_lay 16 = .ok (.return_, 1) := by decide +kernel
theorem dX8_isUnit_0 : decode cX8_isUnit 0 = .ok (.iload_n 1, 1) := by decide +kernel
theorem dX8_isUnit_1 : decode cX8_isUnit 1 = .ok (.iconst 0, 1) := by decide +kernel
theorem dX8_isUnit_2 : decode cX8_isUnit 2 = .ok (.aload_n 0, 1) := by decide +kernel
theorem dX8_isUnit_3 : decode cX8_isUnit 3 = .ok (.getfield 7, 3) := by decide +kernel
theorem dX8_isUnit_6 : decode cX8_isUnit 6 = .ok (.sipush 192, 3) := by decide +kernel
theorem dX8_isUnit_9 : decode cX8_isUnit 9 = .ok (.iaload, 1) := by decide +kernel
theorem dX8_isUnit_10 : decode cX8_isUnit 10 = .ok (.iconst 1, 1) := by decide +kernel
theorem dX8_isUnit_11 : decode cX8_isUnit 11 = .ok (.isub, 1) := by decide +kernel
theorem dX8_isUnit_12 : decode cX8_isUnit 12 = .ok (.invokestatic 48, 3) := by decide +kernel
theorem dX8_isUnit_15 : decode cX8_isUnit 15 = .ok (.ifCond .eq 16, 3) := by decide +kernel
theorem dX8_isUnit_18 : decode cX8_isUnit 18 = .ok (.aload_n 0, 1) := by decide +kernel
theorem dX8_isUnit_19 : decode cX8_isUnit 19 = .ok (.iload_n 1, 1) := by decide +kernel
theorem dX8_isUnit_20 : decode cX8_isUnit 20 = .ok (.iconst 1, 1) := by decide +kernel
theorem dX8_isUnit_21 : decode cX8_isUnit 21 = .ok (.invokevirtual 52, 3) := by decide +kernel
theorem dX8_isUnit_24 : decode cX8_isUnit 24 = .ok (.ifCond .le 7, 3) := by decide +kernel
theorem dX8_isUnit_27 : decode cX8_isUnit 27 = .ok (.iconst 1, 1) := by decide +kernel
theorem dX8_isUnit_28 : decode cX8_isUnit 28 = .ok (.goto 4, 3) := by decide +kernel
theorem dX8_isUnit_31 : decode cX8_isUnit 31 = .ok (.iconst 0, 1) := by decide +kernel
theorem dX8_isUnit_32 : decode cX8_isUnit 32 = .ok (.ireturn, 1) := by decide +kernel
theorem dX8_records_0 : decode cX8_records 0 = .ok (.aload_n 0, 1) := by decide +kernel
theorem dX8_records_1 : decode cX8_records 1 = .ok (.getfield 56, 3) := by decide +kernel
theorem dX8_records_4 : decode cX8_records 4 = .ok (.iconst 4, 1) := by decide +kernel
theorem dX8_records_5 : decode cX8_records 5 = .ok (.if_icmp .ne 44, 3) := by decide +kernel
theorem dX8_records_8 : decode cX8_records 8 = .ok (.iconst 0, 1) := by decide +kernel
theorem dX8_records_9 : decode cX8_records 9 = .ok (.istore_n 1, 1) := by decide +kernel
theorem dX8_records_10 : decode cX8_records 10 = .ok (.iload_n 1, 1) := by decide +kernel
theorem dX8_records_11 : decode cX8_records 11 = .ok (.sipush 867, 3) := by decide +kernel
theorem dX8_records_14 : decode cX8_records 14 = .ok (.if_icmp .ge 25, 3) := by decide +kernel
theorem dX8_records_17 : decode cX8_records 17 = .ok (.aload_n 0, 1) := by decide +kernel
theorem dX8_records_18 : decode cX8_records 18 = .ok (.getfield 16, 3) := by decide +kernel
theorem dX8_records_21 : decode cX8_records 21 = .ok (.iload_n 1, 1) := by decide +kernel
theorem dX8_records_22 : decode cX8_records 22 = .ok (.aload_n 0, 1) := by decide +kernel
theorem dX8_records_23 : decode cX8_records 23 = .ok (.getfield 16, 3) := by decide +kernel
theorem dX8_records_26 : decode cX8_records 26 = .ok (.iload_n 1, 1) := by decide +kernel
theorem dX8_records_27 : decode cX8_records 27 = .ok (.sipush 289, 3) := by decide +kernel
theorem dX8_records_30 : decode cX8_records 30 = .ok (.iadd, 1) := by decide +kernel
theorem dX8_records_31 : decode cX8_records 31 = .ok (.iaload, 1) := by decide +kernel
theorem dX8_records_32 : decode cX8_records 32 = .ok (.iastore, 1) := by decide +kernel
theorem dX8_records_33 : decode cX8_records 33 = .ok (.iinc 1 1, 3) := by decide +kernel
theorem dX8_records_36 : decode cX8_records 36 = .ok (.goto (-26), 3) := by decide +kernel
theorem dX8_records_39 : decode cX8_records 39 = .ok (.aload_n 0, 1) := by decide +kernel
theorem dX8_records_40 : decode cX8_records 40 = .ok (.dup, 1) := by decide +kernel
theorem dX8_records_41 : decode cX8_records 41 = .ok (.getfield 56, 3) := by decide +kernel
theorem dX8_records_44 : decode cX8_records 44 = .ok (.iconst 1, 1) := by decide +kernel
theorem dX8_records_45 : decode cX8_records 45 = .ok (.isub, 1) := by decide +kernel
theorem dX8_records_46 : decode cX8_records 46 = .ok (.putfield 56, 3) := by decide +kernel
theorem dX8_records_49 : decode cX8_records 49 = .ok (.iconst 0, 1) := by decide +kernel
theorem dX8_records_50 : decode cX8_records 50 = .ok (.istore_n 1, 1) := by decide +kernel
theorem dX8_records_51 : decode cX8_records 51 = .ok (.iload_n 1, 1) := by decide +kernel
theorem dX8_records_52 : decode cX8_records 52 = .ok (.sipush 289, 3) := by decide +kernel
theorem dX8_records_55 : decode cX8_records 55 = .ok (.if_icmp .ge 30, 3) := by decide +kernel
theorem dX8_records_58 : decode cX8_records 58 = .ok (.aload_n 0, 1) := by decide +kernel
theorem dX8_records_59 : decode cX8_records 59 = .ok (.getfield 16, 3) := by decide +kernel
theorem dX8_records_62 : decode cX8_records 62 = .ok (.sipush 289, 3) := by decide +kernel
theorem dX8_records_65 : decode cX8_records 65 = .ok (.aload_n 0, 1) := by decide +kernel
theorem dX8_records_66 : decode cX8_records 66 = .ok (.getfield 56, 3) := by decide +kernel
theorem dX8_records_69 : decode cX8_records 69 = .ok (.imul, 1) := by decide +kernel
theorem dX8_records_70 : decode cX8_records 70 = .ok (.iload_n 1, 1) := by decide +kernel
theorem dX8_records_71 : decode cX8_records 71 = .ok (.iadd, 1) := by decide +kernel
theorem dX8_records_72 : decode cX8_records 72 = .ok (.aload_n 0, 1) := by decide +kernel
theorem dX8_records_73 : decode cX8_records 73 = .ok (.getfield 7, 3) := by decide +kernel
theorem dX8_records_76 : decode cX8_records 76 = .ok (.iload_n 1, 1) := by decide +kernel
theorem dX8_records_77 : decode cX8_records 77 = .ok (.iaload, 1) := by decide +kernel
theorem dX8_records_78 : decode cX8_records 78 = .ok (.iastore, 1) := by decide +kernel
theorem dX8_records_79 : decode cX8_records 79 = .ok (.iinc 1 1, 3) := by decide +kernel
theorem dX8_records_82 : decode cX8_records 82 = .ok (.goto (-31), 3) := by decide +kernel
theorem dX8_records_85 : decode cX8_records 85 = .ok (.aload_n 0, 1) := by decide +kernel
theorem dX8_records_86 : decode cX8_records 86 = .ok (.dup, 1) := by decide +kernel
theorem dX8_records_87 : decode cX8_records 87 = .ok (.getfield 56, 3) := by decide +kernel
theorem dX8_records_90 : decode cX8_records 90 = .ok (.iconst 1, 1) := by decide +kernel
theorem dX8_records_91 : decode cX8_records 91 = .ok (.iadd, 1) := by decide +kernel
theorem dX8_records_92 : decode cX8_records 92 = .ok (.putfield 56, 3) := by decide +kernel
theorem dX8_records_95 : decode cX8_records 95 = .ok (.return_, 1) := by decide +kernel
theorem dX8_putAside_0 : decode cX8_putAside 0 = .ok (.iconst 0, 1) := by decide +kernel
theorem dX8_putAside_1 : decode cX8_putAside 1 = .ok (.istore_n 1, 1) := by decide +kernel
theorem dX8_putAside_2 : decode cX8_putAside 2 = .ok (.iload_n 1, 1) := by decide +kernel
theorem dX8_putAside_3 : decode cX8_putAside 3 = .ok (.sipush 289, 3) := by decide +kernel
theorem dX8_putAside_6 : decode cX8_putAside 6 = .ok (.if_icmp .ge 21, 3) := by decide +kernel
theorem dX8_putAside_9 : decode cX8_putAside 9 = .ok (.aload_n 0, 1) := by decide +kernel
theorem dX8_putAside_10 : decode cX8_putAside 10 = .ok (.getfield 13, 3) := by decide +kernel
theorem dX8_putAside_13 : decode cX8_putAside 13 = .ok (.iload_n 1, 1) := by decide +kernel
theorem dX8_putAside_14 : decode cX8_putAside 14 = .ok (.aload_n 0, 1) := by decide +kernel
theorem dX8_putAside_15 : decode cX8_putAside 15 = .ok (.getfield 7, 3) := by decide +kernel
theorem dX8_putAside_18 : decode cX8_putAside 18 = .ok (.iload_n 1, 1) := by decide +kernel
theorem dX8_putAside_19 : decode cX8_putAside 19 = .ok (.iaload, 1) := by decide +kernel
theorem dX8_putAside_20 : decode cX8_putAside 20 = .ok (.iastore, 1) := by decide +kernel
theorem dX8_putAside_21 : decode cX8_putAside 21 = .ok (.iinc 1 1, 3) := by decide +kernel
theorem dX8_putAside_24 : decode cX8_putAside 24 = .ok (.goto (-22), 3) := by decide +kernel
theorem dX8_putAside_27 : decode cX8_putAside 27 = .ok (.return_, 1) := by decide +kernel
theorem dX8_takeBack_0 : decode cX8_takeBack 0 = .ok (.iconst 0, 1) := by decide +kernel
theorem dX8_takeBack_1 : decode cX8_takeBack 1 = .ok (.istore_n 1, 1) := by decide +kernel
theorem dX8_takeBack_2 : decode cX8_takeBack 2 = .ok (.iload_n 1, 1) := by decide +kernel
theorem dX8_takeBack_3 : decode cX8_takeBack 3 = .ok (.sipush 289, 3) := by decide +kernel
theorem dX8_takeBack_6 : decode cX8_takeBack 6 = .ok (.if_icmp .ge 21, 3) := by decide +kernel
theorem dX8_takeBack_9 : decode cX8_takeBack 9 = .ok (.aload_n 0, 1) := by decide +kernel
theorem dX8_takeBack_10 : decode cX8_takeBack 10 = .ok (.getfield 7, 3) := by decide +kernel
theorem dX8_takeBack_13 : decode cX8_takeBack 13 = .ok (.iload_n 1, 1) := by decide +kernel
theorem dX8_takeBack_14 : decode cX8_takeBack 14 = .ok (.aload_n 0, 1) := by decide +kernel
theorem dX8_takeBack_15 : decode cX8_takeBack 15 = .ok (.getfield 13, 3) := by decide +kernel
theorem dX8_takeBack_18 : decode cX8_takeBack 18 = .ok (.iload_n 1, 1) := by decide +kernel
theorem dX8_takeBack_19 : decode cX8_takeBack 19 = .ok (.iaload, 1) := by decide +kernel
theorem dX8_takeBack_20 : decode cX8_takeBack 20 = .ok (.iastore, 1) := by decide +kernel
theorem dX8_takeBack_21 : decode cX8_takeBack 21 = .ok (.iinc 1 1, 3) := by decide +kernel
theorem dX8_takeBack_24 : decode cX8_takeBack 24 = .ok (.goto (-22), 3) := by decide +kernel
theorem dX8_takeBack_27 : decode cX8_takeBack 27 = .ok (.return_, 1) := by decide +kernel
theorem dX8_next_0 : decode cX8_next 0 = .ok (.iload_n 0, 1) := by decide +kernel
theorem dX8_next_1 : decode cX8_next 1 = .ok (.bipush 9, 2) := by decide +kernel
theorem dX8_next_3 : decode cX8_next 3 = .ok (.idiv, 1) := by decide +kernel
theorem dX8_next_4 : decode cX8_next 4 = .ok (.istore_n 2, 1) := by decide +kernel
theorem dX8_next_5 : decode cX8_next 5 = .ok (.iload_n 0, 1) := by decide +kernel
theorem dX8_next_6 : decode cX8_next 6 = .ok (.bipush 9, 2) := by decide +kernel
theorem dX8_next_8 : decode cX8_next 8 = .ok (.irem, 1) := by decide +kernel
theorem dX8_next_9 : decode cX8_next 9 = .ok (.istore_n 3, 1) := by decide +kernel
theorem dX8_next_10 : decode cX8_next 10 = .ok (.iload_n 2, 1) := by decide +kernel
theorem dX8_next_11 : decode cX8_next 11 = .ok (.iconst 2, 1) := by decide +kernel
theorem dX8_next_12 : decode cX8_next 12 = .ok (.irem, 1) := by decide +kernel
theorem dX8_next_13 : decode cX8_next 13 = .ok (.istore 4, 2) := by decide +kernel
theorem dX8_next_15 : decode cX8_next 15 = .ok (.iload_n 1, 1) := by decide +kernel
theorem dX8_next_16 : decode cX8_next 16 = .ok (.tableswitch 85 0 4 #[36, 42, 53, 66, 72], 36) := by decide +kernel
theorem dX8_next_52 : decode cX8_next 52 = .ok (.iinc 3 1, 3) := by decide +kernel
theorem dX8_next_55 : decode cX8_next 55 = .ok (.goto 54, 3) := by decide +kernel
theorem dX8_next_58 : decode cX8_next 58 = .ok (.iinc 2 (-1), 3) := by decide +kernel
theorem dX8_next_61 : decode cX8_next 61 = .ok (.iload_n 3, 1) := by decide +kernel
theorem dX8_next_62 : decode cX8_next 62 = .ok (.iload 4, 2) := by decide +kernel
theorem dX8_next_64 : decode cX8_next 64 = .ok (.iadd, 1) := by decide +kernel
theorem dX8_next_65 : decode cX8_next 65 = .ok (.istore_n 3, 1) := by decide +kernel
theorem dX8_next_66 : decode cX8_next 66 = .ok (.goto 43, 3) := by decide +kernel
theorem dX8_next_69 : decode cX8_next 69 = .ok (.iinc 2 (-1), 3) := by decide +kernel
theorem dX8_next_72 : decode cX8_next 72 = .ok (.iload_n 3, 1) := by decide +kernel
theorem dX8_next_73 : decode cX8_next 73 = .ok (.iload 4, 2) := by decide +kernel
theorem dX8_next_75 : decode cX8_next 75 = .ok (.iconst 1, 1) := by decide +kernel
theorem dX8_next_76 : decode cX8_next 76 = .ok (.isub, 1) := by decide +kernel
theorem dX8_next_77 : decode cX8_next 77 = .ok (.iadd, 1) := by decide +kernel
theorem dX8_next_78 : decode cX8_next 78 = .ok (.istore_n 3, 1) := by decide +kernel
theorem dX8_next_79 : decode cX8_next 79 = .ok (.goto 30, 3) := by decide +kernel
theorem dX8_next_82 : decode cX8_next 82 = .ok (.iinc 3 (-1), 3) := by decide +kernel
theorem dX8_next_85 : decode cX8_next 85 = .ok (.goto 24, 3) := by decide +kernel
theorem dX8_next_88 : decode cX8_next 88 = .ok (.iinc 2 1, 3) := by decide +kernel
theorem dX8_next_91 : decode cX8_next 91 = .ok (.iload_n 3, 1) := by decide +kernel
theorem dX8_next_92 : decode cX8_next 92 = .ok (.iload 4, 2) := by decide +kernel
theorem dX8_next_94 : decode cX8_next 94 = .ok (.iconst 1, 1) := by decide +kernel
theorem dX8_next_95 : decode cX8_next 95 = .ok (.isub, 1) := by decide +kernel
theorem dX8_next_96 : decode cX8_next 96 = .ok (.iadd, 1) := by decide +kernel
theorem dX8_next_97 : decode cX8_next 97 = .ok (.istore_n 3, 1) := by decide +kernel
theorem dX8_next_98 : decode cX8_next 98 = .ok (.goto 11, 3) := by decide +kernel
theorem dX8_next_101 : decode cX8_next 101 = .ok (.iinc 2 1, 3) := by decide +kernel
theorem dX8_next_104 : decode cX8_next 104 = .ok (.iload_n 3, 1) := by decide +kernel
theorem dX8_next_105 : decode cX8_next 105 = .ok (.iload 4, 2) := by decide +kernel
theorem dX8_next_107 : decode cX8_next 107 = .ok (.iadd, 1) := by decide +kernel
theorem dX8_next_108 : decode cX8_next 108 = .ok (.istore_n 3, 1) := by decide +kernel
theorem dX8_next_109 : decode cX8_next 109 = .ok (.iload_n 2, 1) := by decide +kernel
theorem dX8_next_110 : decode cX8_next 110 = .ok (.iconst 0, 1) := by decide +kernel
theorem dX8_next_111 : decode cX8_next 111 = .ok (.bipush 6, 2) := by decide +kernel
theorem dX8_next_113 : decode cX8_next 113 = .ok (.invokestatic 48, 3) := by decide +kernel
theorem dX8_next_116 : decode cX8_next 116 = .ok (.ifCond .eq 22, 3) := by decide +kernel
theorem dX8_next_119 : decode cX8_next 119 = .ok (.iload_n 3, 1) := by decide +kernel
theorem dX8_next_120 : decode cX8_next 120 = .ok (.iconst 0, 1) := by decide +kernel
theorem dX8_next_121 : decode cX8_next 121 = .ok (.bipush 8, 2) := by decide +kernel
theorem dX8_next_123 : decode cX8_next 123 = .ok (.invokestatic 48, 3) := by decide +kernel
theorem dX8_next_126 : decode cX8_next 126 = .ok (.ifCond .eq 12, 3) := by decide +kernel
theorem dX8_next_129 : decode cX8_next 129 = .ok (.bipush 9, 2) := by decide +kernel
theorem dX8_next_131 : decode cX8_next 131 = .ok (.iload_n 2, 1) := by decide +kernel
theorem dX8_next_132 : decode cX8_next 132 = .ok (.imul, 1) := by decide +kernel
theorem dX8_next_133 : decode cX8_next 133 = .ok (.iload_n 3, 1) := by decide +kernel
theorem dX8_next_134 : decode cX8_next 134 = .ok (.iadd, 1) := by decide +kernel
theorem dX8_next_135 : decode cX8_next 135 = .ok (.goto 5, 3) := by decide +kernel
theorem dX8_next_138 : decode cX8_next 138 = .ok (.bipush (-5), 2) := by decide +kernel
theorem dX8_next_140 : decode cX8_next 140 = .ok (.ireturn, 1) := by decide +kernel
theorem dX8_directionTo_0 : decode cX8_directionTo 0 = .ok (.iconst 0, 1) := by decide +kernel
theorem dX8_directionTo_1 : decode cX8_directionTo 1 = .ok (.istore_n 2, 1) := by decide +kernel
theorem dX8_directionTo_2 : decode cX8_directionTo 2 = .ok (.iload_n 2, 1) := by decide +kernel
theorem dX8_directionTo_3 : decode cX8_directionTo 3 = .ok (.bipush 6, 2) := by decide +kernel
theorem dX8_directionTo_5 : decode cX8_directionTo 5 = .ok (.if_icmp .ge 20, 3) := by decide +kernel
theorem dX8_directionTo_8 : decode cX8_directionTo 8 = .ok (.iload_n 0, 1) := by decide +kernel
theorem dX8_directionTo_9 : decode cX8_directionTo 9 = .ok (.iload_n 2, 1) := by decide +kernel
theorem dX8_directionTo_10 : decode cX8_directionTo 10 = .ok (.invokestatic 59, 3) := by decide +kernel
theorem dX8_directionTo_13 : decode cX8_directionTo 13 = .ok (.iload_n 1, 1) := by decide +kernel
theorem dX8_directionTo_14 : decode cX8_directionTo 14 = .ok (.if_icmp .ne 5, 3) := by decide +kernel
theorem dX8_directionTo_17 : decode cX8_directionTo 17 = .ok (.iload_n 2, 1) := by decide +kernel
theorem dX8_directionTo_18 : decode cX8_directionTo 18 = .ok (.ireturn, 1) := by decide +kernel
theorem dX8_directionTo_19 : decode cX8_directionTo 19 = .ok (.iinc 2 1, 3) := by decide +kernel
theorem dX8_directionTo_22 : decode cX8_directionTo 22 = .ok (.goto (-20), 3) := by decide +kernel
theorem dX8_directionTo_25 : decode cX8_directionTo 25 = .ok (.bipush (-5), 2) := by decide +kernel
theorem dX8_directionTo_27 : decode cX8_directionTo 27 = .ok (.ireturn, 1) := by decide +kernel
theorem dX8_hasRiver_0 : decode cX8_hasRiver 0 = .ok (.aload_n 0, 1) := by decide +kernel
theorem dX8_hasRiver_1 : decode cX8_hasRiver 1 = .ok (.getfield 7, 3) := by decide +kernel
theorem dX8_hasRiver_4 : decode cX8_hasRiver 4 = .ok (.bipush 63, 2) := by decide +kernel
theorem dX8_hasRiver_6 : decode cX8_hasRiver 6 = .ok (.iload_n 1, 1) := by decide +kernel
theorem dX8_hasRiver_7 : decode cX8_hasRiver 7 = .ok (.iadd, 1) := by decide +kernel
theorem dX8_hasRiver_8 : decode cX8_hasRiver 8 = .ok (.iaload, 1) := by decide +kernel
theorem dX8_hasRiver_9 : decode cX8_hasRiver 9 = .ok (.iload_n 2, 1) := by decide +kernel
theorem dX8_hasRiver_10 : decode cX8_hasRiver 10 = .ok (.ishr, 1) := by decide +kernel
theorem dX8_hasRiver_11 : decode cX8_hasRiver 11 = .ok (.iconst 1, 1) := by decide +kernel
theorem dX8_hasRiver_12 : decode cX8_hasRiver 12 = .ok (.iand, 1) := by decide +kernel
theorem dX8_hasRiver_13 : decode cX8_hasRiver 13 = .ok (.iconst 1, 1) := by decide +kernel
theorem dX8_hasRiver_14 : decode cX8_hasRiver 14 = .ok (.if_icmp .ne 7, 3) := by decide +kernel
theorem dX8_hasRiver_17 : decode cX8_hasRiver 17 = .ok (.iconst 1, 1) := by decide +kernel
theorem dX8_hasRiver_18 : decode cX8_hasRiver 18 = .ok (.goto 4, 3) := by decide +kernel
theorem dX8_hasRiver_21 : decode cX8_hasRiver 21 = .ok (.iconst 0, 1) := by decide +kernel
theorem dX8_hasRiver_22 : decode cX8_hasRiver 22 = .ok (.ireturn, 1) := by decide +kernel
theorem dX8_unitOn_0 : decode cX8_unitOn 0 = .ok (.iconst 0, 1) := by decide +kernel
theorem dX8_unitOn_1 : decode cX8_unitOn 1 = .ok (.istore_n 2, 1) := by decide +kernel
theorem dX8_unitOn_2 : decode cX8_unitOn 2 = .ok (.iload_n 2, 1) := by decide +kernel
theorem dX8_unitOn_3 : decode cX8_unitOn 3 = .ok (.aload_n 0, 1) := by decide +kernel
theorem dX8_unitOn_4 : decode cX8_unitOn 4 = .ok (.getfield 7, 3) := by decide +kernel
theorem dX8_unitOn_7 : decode cX8_unitOn 7 = .ok (.sipush 192, 3) := by decide +kernel
theorem dX8_unitOn_10 : decode cX8_unitOn 10 = .ok (.iaload, 1) := by decide +kernel
theorem dX8_unitOn_11 : decode cX8_unitOn 11 = .ok (.if_icmp .ge 30, 3) := by decide +kernel
theorem dX8_unitOn_14 : decode cX8_unitOn 14 = .ok (.aload_n 0, 1) := by decide +kernel
theorem dX8_unitOn_15 : decode cX8_unitOn 15 = .ok (.iload_n 2, 1) := by decide +kernel
theorem dX8_unitOn_16 : decode cX8_unitOn 16 = .ok (.iconst 1, 1) := by decide +kernel
theorem dX8_unitOn_17 : decode cX8_unitOn 17 = .ok (.invokevirtual 52, 3) := by decide +kernel
theorem dX8_unitOn_20 : decode cX8_unitOn 20 = .ok (.ifCond .le 15, 3) := by decide +kernel
theorem dX8_unitOn_23 : decode cX8_unitOn 23 = .ok (.aload_n 0, 1) := by decide +kernel
theorem dX8_unitOn_24 : decode cX8_unitOn 24 = .ok (.iload_n 2, 1) := by decide +kernel
theorem dX8_unitOn_25 : decode cX8_unitOn 25 = .ok (.iconst 2, 1) := by decide +kernel
theorem dX8_unitOn_26 : decode cX8_unitOn 26 = .ok (.invokevirtual 52, 3) := by decide +kernel
theorem dX8_unitOn_29 : decode cX8_unitOn 29 = .ok (.iload_n 1, 1) := by decide +kernel
theorem dX8_unitOn_30 : decode cX8_unitOn 30 = .ok (.if_icmp .ne 5, 3) := by decide +kernel
theorem dX8_unitOn_33 : decode cX8_unitOn 33 = .ok (.iload_n 2, 1) := by decide +kernel
theorem dX8_unitOn_34 : decode cX8_unitOn 34 = .ok (.ireturn, 1) := by decide +kernel
theorem dX8_unitOn_35 : decode cX8_unitOn 35 = .ok (.iinc 2 1, 3) := by decide +kernel
theorem dX8_unitOn_38 : decode cX8_unitOn 38 = .ok (.goto (-36), 3) := by decide +kernel
theorem dX8_unitOn_41 : decode cX8_unitOn 41 = .ok (.bipush (-5), 2) := by decide +kernel
theorem dX8_unitOn_43 : decode cX8_unitOn 43 = .ok (.ireturn, 1) := by decide +kernel
theorem dX8_isOn_0 : decode cX8_isOn 0 = .ok (.aload_n 0, 1) := by decide +kernel
theorem dX8_isOn_1 : decode cX8_isOn 1 = .ok (.iload_n 1, 1) := by decide +kernel
theorem dX8_isOn_2 : decode cX8_isOn 2 = .ok (.invokevirtual 62, 3) := by decide +kernel
theorem dX8_isOn_5 : decode cX8_isOn 5 = .ok (.istore_n 3, 1) := by decide +kernel
theorem dX8_isOn_6 : decode cX8_isOn 6 = .ok (.iload_n 3, 1) := by decide +kernel
theorem dX8_isOn_7 : decode cX8_isOn 7 = .ok (.bipush (-5), 2) := by decide +kernel
theorem dX8_isOn_9 : decode cX8_isOn 9 = .ok (.if_icmp .eq 17, 3) := by decide +kernel
theorem dX8_isOn_12 : decode cX8_isOn 12 = .ok (.aload_n 0, 1) := by decide +kernel
theorem dX8_isOn_13 : decode cX8_isOn 13 = .ok (.iload_n 3, 1) := by decide +kernel
theorem dX8_isOn_14 : decode cX8_isOn 14 = .ok (.iconst 0, 1) := by decide +kernel
theorem dX8_isOn_15 : decode cX8_isOn 15 = .ok (.invokevirtual 52, 3) := by decide +kernel
theorem dX8_isOn_18 : decode cX8_isOn 18 = .ok (.iload_n 2, 1) := by decide +kernel
theorem dX8_isOn_19 : decode cX8_isOn 19 = .ok (.if_icmp .ne 7, 3) := by decide +kernel
theorem dX8_isOn_22 : decode cX8_isOn 22 = .ok (.iconst 1, 1) := by decide +kernel
theorem dX8_isOn_23 : decode cX8_isOn 23 = .ok (.goto 4, 3) := by decide +kernel
theorem dX8_isOn_26 : decode cX8_isOn 26 = .ok (.iconst 0, 1) := by decide +kernel
theorem dX8_isOn_27 : decode cX8_isOn 27 = .ok (.ireturn, 1) := by decide +kernel
theorem dX8_isInZone_0 : decode cX8_isInZone 0 = .ok (.iconst 0, 1) := by decide +kernel
theorem dX8_isInZone_1 : decode cX8_isInZone 1 = .ok (.istore_n 3, 1) := by decide +kernel
theorem dX8_isInZone_2 : decode cX8_isInZone 2 = .ok (.iconst 0, 1) := by decide +kernel
theorem dX8_isInZone_3 : decode cX8_isInZone 3 = .ok (.istore 4, 2) := by decide +kernel
theorem dX8_isInZone_5 : decode cX8_isInZone 5 = .ok (.iload 4, 2) := by decide +kernel
theorem dX8_isInZone_7 : decode cX8_isInZone 7 = .ok (.bipush 6, 2) := by decide +kernel
theorem dX8_isInZone_9 : decode cX8_isInZone 9 = .ok (.if_icmp .ge 44, 3) := by decide +kernel
theorem dX8_isInZone_12 : decode cX8_isInZone 12 = .ok (.iload_n 1, 1) := by decide +kernel
theorem dX8_isInZone_13 : decode cX8_isInZone 13 = .ok (.iload 4, 2) := by decide +kernel
theorem dX8_isInZone_15 : decode cX8_isInZone 15 = .ok (.invokestatic 59, 3) := by decide +kernel
theorem dX8_isInZone_18 : decode cX8_isInZone 18 = .ok (.istore 5, 2) := by decide +kernel
theorem dX8_isInZone_20 : decode cX8_isInZone 20 = .ok (.iload_n 3, 1) := by decide +kernel
theorem dX8_isInZone_21 : decode cX8_isInZone 21 = .ok (.ifCond .ne 20, 3) := by decide +kernel
theorem dX8_isInZone_24 : decode cX8_isInZone 24 = .ok (.iload 5, 2) := by decide +kernel
theorem dX8_isInZone_26 : decode cX8_isInZone 26 = .ok (.bipush (-5), 2) := by decide +kernel
theorem dX8_isInZone_28 : decode cX8_isInZone 28 = .ok (.if_icmp .eq 17, 3) := by decide +kernel
theorem dX8_isInZone_31 : decode cX8_isInZone 31 = .ok (.aload_n 0, 1) := by decide +kernel
theorem dX8_isInZone_32 : decode cX8_isInZone 32 = .ok (.iload 5, 2) := by decide +kernel
theorem dX8_isInZone_34 : decode cX8_isInZone 34 = .ok (.iload_n 2, 1) := by decide +kernel
theorem dX8_isInZone_35 : decode cX8_isInZone 35 = .ok (.invokevirtual 66, 3) := by decide +kernel
theorem dX8_isInZone_38 : decode cX8_isInZone 38 = .ok (.ifCond .eq 7, 3) := by decide +kernel
theorem dX8_isInZone_41 : decode cX8_isInZone 41 = .ok (.iconst 1, 1) := by decide +kernel
theorem dX8_isInZone_42 : decode cX8_isInZone 42 = .ok (.goto 4, 3) := by decide +kernel
theorem dX8_isInZone_45 : decode cX8_isInZone 45 = .ok (.iconst 0, 1) := by decide +kernel
theorem dX8_isInZone_46 : decode cX8_isInZone 46 = .ok (.istore_n 3, 1) := by decide +kernel
theorem dX8_isInZone_47 : decode cX8_isInZone 47 = .ok (.iinc 4 1, 3) := by decide +kernel
theorem dX8_isInZone_50 : decode cX8_isInZone 50 = .ok (.goto (-45), 3) := by decide +kernel
theorem dX8_isInZone_53 : decode cX8_isInZone 53 = .ok (.iload_n 3, 1) := by decide +kernel
theorem dX8_isInZone_54 : decode cX8_isInZone 54 = .ok (.ireturn, 1) := by decide +kernel
theorem dX8_laysZone_0 : decode cX8_laysZone 0 = .ok (.iconst 0, 1) := by decide +kernel
theorem dX8_laysZone_1 : decode cX8_laysZone 1 = .ok (.istore_n 2, 1) := by decide +kernel
theorem dX8_laysZone_2 : decode cX8_laysZone 2 = .ok (.iload_n 2, 1) := by decide +kernel
theorem dX8_laysZone_3 : decode cX8_laysZone 3 = .ok (.bipush 63, 2) := by decide +kernel
theorem dX8_laysZone_5 : decode cX8_laysZone 5 = .ok (.if_icmp .ge 21, 3) := by decide +kernel
theorem dX8_laysZone_8 : decode cX8_laysZone 8 = .ok (.aload_n 0, 1) := by decide +kernel
theorem dX8_laysZone_9 : decode cX8_laysZone 9 = .ok (.getfield 35, 3) := by decide +kernel
theorem dX8_laysZone_12 : decode cX8_laysZone 12 = .ok (.iload_n 2, 1) := by decide +kernel
theorem dX8_laysZone_13 : decode cX8_laysZone 13 = .ok (.aload_n 0, 1) := by decide +kernel
theorem dX8_laysZone_14 : decode cX8_laysZone 14 = .ok (.iload_n 2, 1) := by decide +kernel
theorem dX8_laysZone_15 : decode cX8_laysZone 15 = .ok (.iload_n 1, 1) := by decide +kernel
theorem dX8_laysZone_16 : decode cX8_laysZone 16 = .ok (.invokevirtual 70, 3) := by decide +kernel
theorem dX8_laysZone_19 : decode cX8_laysZone 19 = .ok (.bastore, 1) := by decide +kernel
theorem dX8_laysZone_20 : decode cX8_laysZone 20 = .ok (.iinc 2 1, 3) := by decide +kernel
theorem dX8_laysZone_23 : decode cX8_laysZone 23 = .ok (.goto (-21), 3) := by decide +kernel
theorem dX8_laysZone_26 : decode cX8_laysZone 26 = .ok (.return_, 1) := by decide +kernel
theorem dX8_laysDistances_0 : decode cX8_laysDistances 0 = .ok (.iconst 0, 1) := by decide +kernel
theorem dX8_laysDistances_1 : decode cX8_laysDistances 1 = .ok (.istore_n 2, 1) := by decide +kernel
theorem dX8_laysDistances_2 : decode cX8_laysDistances 2 = .ok (.iload_n 2, 1) := by decide +kernel
theorem dX8_laysDistances_3 : decode cX8_laysDistances 3 = .ok (.bipush 63, 2) := by decide +kernel
theorem dX8_laysDistances_5 : decode cX8_laysDistances 5 = .ok (.if_icmp .ge 27, 3) := by decide +kernel
theorem dX8_laysDistances_8 : decode cX8_laysDistances 8 = .ok (.aload_n 0, 1) := by decide +kernel
theorem dX8_laysDistances_9 : decode cX8_laysDistances 9 = .ok (.getfield 32, 3) := by decide +kernel
theorem dX8_laysDistances_12 : decode cX8_laysDistances 12 = .ok (.iload_n 2, 1) := by decide +kernel
theorem dX8_laysDistances_13 : decode cX8_laysDistances 13 = .ok (.iload_n 2, 1) := by decide +kernel
theorem dX8_laysDistances_14 : decode cX8_laysDistances 14 = .ok (.iload_n 1, 1) := by decide +kernel
theorem dX8_laysDistances_15 : decode cX8_laysDistances 15 = .ok (.if_icmp .ne 7, 3) := by decide +kernel
theorem dX8_laysDistances_18 : decode cX8_laysDistances 18 = .ok (.iconst 0, 1) := by decide +kernel
theorem dX8_laysDistances_19 : decode cX8_laysDistances 19 = .ok (.goto 6, 3) := by decide +kernel
theorem dX8_laysDistances_22 : decode cX8_laysDistances 22 = .ok (.sipush 1000, 3) := by decide +kernel
theorem dX8_laysDistances_25 : decode cX8_laysDistances 25 = .ok (.iastore, 1) := by decide +kernel
theorem dX8_laysDistances_26 : decode cX8_laysDistances 26 = .ok (.iinc 2 1, 3) := by decide +kernel
theorem dX8_laysDistances_29 : decode cX8_laysDistances 29 = .ok (.goto (-27), 3) := by decide +kernel
theorem dX8_laysDistances_32 : decode cX8_laysDistances 32 = .ok (.iconst 0, 1) := by decide +kernel
theorem dX8_laysDistances_33 : decode cX8_laysDistances 33 = .ok (.istore_n 2, 1) := by decide +kernel
theorem dX8_laysDistances_34 : decode cX8_laysDistances 34 = .ok (.iload_n 2, 1) := by decide +kernel
theorem dX8_laysDistances_35 : decode cX8_laysDistances 35 = .ok (.bipush 63, 2) := by decide +kernel
theorem dX8_laysDistances_37 : decode cX8_laysDistances 37 = .ok (.if_icmp .ge 87, 3) := by decide +kernel
theorem dX8_laysDistances_40 : decode cX8_laysDistances 40 = .ok (.iconst 0, 1) := by decide +kernel
theorem dX8_laysDistances_41 : decode cX8_laysDistances 41 = .ok (.istore_n 3, 1) := by decide +kernel
theorem dX8_laysDistances_42 : decode cX8_laysDistances 42 = .ok (.iload_n 3, 1) := by decide +kernel
theorem dX8_laysDistances_43 : decode cX8_laysDistances 43 = .ok (.bipush 63, 2) := by decide +kernel
theorem dX8_laysDistances_45 : decode cX8_laysDistances 45 = .ok (.if_icmp .ge 73, 3) := by decide +kernel
theorem dX8_laysDistances_48 : decode cX8_laysDistances 48 = .ok (.iconst 0, 1) := by decide +kernel
theorem dX8_laysDistances_49 : decode cX8_laysDistances 49 = .ok (.istore 4, 2) := by decide +kernel
theorem dX8_laysDistances_51 : decode cX8_laysDistances 51 = .ok (.iload 4, 2) := by decide +kernel
theorem dX8_laysDistances_53 : decode cX8_laysDistances 53 = .ok (.bipush 6, 2) := by decide +kernel
theorem dX8_laysDistances_55 : decode cX8_laysDistances 55 = .ok (.if_icmp .ge 57, 3) := by decide +kernel
theorem dX8_laysDistances_58 : decode cX8_laysDistances 58 = .ok (.aload_n 0, 1) := by decide +kernel
theorem dX8_laysDistances_59 : decode cX8_laysDistances 59 = .ok (.getfield 32, 3) := by decide +kernel
theorem dX8_laysDistances_62 : decode cX8_laysDistances 62 = .ok (.iload_n 3, 1) := by decide +kernel
theorem dX8_laysDistances_63 : decode cX8_laysDistances 63 = .ok (.iaload, 1) := by decide +kernel
theorem dX8_laysDistances_64 : decode cX8_laysDistances 64 = .ok (.iload_n 2, 1) := by decide +kernel
theorem dX8_laysDistances_65 : decode cX8_laysDistances 65 = .ok (.if_icmp .ne 47, 3) := by decide +kernel
theorem dX8_laysDistances_68 : decode cX8_laysDistances 68 = .ok (.iload_n 3, 1) := by decide +kernel
theorem dX8_laysDistances_69 : decode cX8_laysDistances 69 = .ok (.iload 4, 2) := by decide +kernel
theorem dX8_laysDistances_71 : decode cX8_laysDistances 71 = .ok (.invokestatic 59, 3) := by decide +kernel
theorem dX8_laysDistances_74 : decode cX8_laysDistances 74 = .ok (.istore 5, 2) := by decide +kernel
theorem dX8_laysDistances_76 : decode cX8_laysDistances 76 = .ok (.iload 5, 2) := by decide +kernel
theorem dX8_laysDistances_78 : decode cX8_laysDistances 78 = .ok (.bipush (-5), 2) := by decide +kernel
theorem dX8_laysDistances_80 : decode cX8_laysDistances 80 = .ok (.if_icmp .eq 26, 3) := by decide +kernel
theorem dX8_laysDistances_83 : decode cX8_laysDistances 83 = .ok (.aload_n 0, 1) := by decide +kernel
theorem dX8_laysDistances_84 : decode cX8_laysDistances 84 = .ok (.getfield 32, 3) := by decide +kernel
theorem dX8_laysDistances_87 : decode cX8_laysDistances 87 = .ok (.iload 5, 2) := by decide +kernel
theorem dX8_laysDistances_89 : decode cX8_laysDistances 89 = .ok (.iaload, 1) := by decide +kernel
theorem dX8_laysDistances_90 : decode cX8_laysDistances 90 = .ok (.sipush 1000, 3) := by decide +kernel
theorem dX8_laysDistances_93 : decode cX8_laysDistances 93 = .ok (.if_icmp .ne 13, 3) := by decide +kernel
theorem dX8_laysDistances_96 : decode cX8_laysDistances 96 = .ok (.aload_n 0, 1) := by decide +kernel
theorem dX8_laysDistances_97 : decode cX8_laysDistances 97 = .ok (.getfield 32, 3) := by decide +kernel
theorem dX8_laysDistances_100 : decode cX8_laysDistances 100 = .ok (.iload 5, 2) := by decide +kernel
theorem dX8_laysDistances_102 : decode cX8_laysDistances 102 = .ok (.iload_n 2, 1) := by decide +kernel
theorem dX8_laysDistances_103 : decode cX8_laysDistances 103 = .ok (.iconst 1, 1) := by decide +kernel
theorem dX8_laysDistances_104 : decode cX8_laysDistances 104 = .ok (.iadd, 1) := by decide +kernel
theorem dX8_laysDistances_105 : decode cX8_laysDistances 105 = .ok (.iastore, 1) := by decide +kernel
theorem dX8_laysDistances_106 : decode cX8_laysDistances 106 = .ok (.iinc 4 1, 3) := by decide +kernel
theorem dX8_laysDistances_109 : decode cX8_laysDistances 109 = .ok (.goto (-58), 3) := by decide +kernel
theorem dX8_laysDistances_112 : decode cX8_laysDistances 112 = .ok (.iinc 3 1, 3) := by decide +kernel
theorem dX8_laysDistances_115 : decode cX8_laysDistances 115 = .ok (.goto (-73), 3) := by decide +kernel
theorem dX8_laysDistances_118 : decode cX8_laysDistances 118 = .ok (.iinc 2 1, 3) := by decide +kernel
theorem dX8_laysDistances_121 : decode cX8_laysDistances 121 = .ok (.goto (-87), 3) := by decide +kernel
theorem dX8_laysDistances_124 : decode cX8_laysDistances 124 = .ok (.return_, 1) := by decide +kernel
theorem dX8_stands_0 : decode cX8_stands 0 = .ok (.aload_n 0, 1) := by decide +kernel
theorem dX8_stands_1 : decode cX8_stands 1 = .ok (.iload_n 1, 1) := by decide +kernel
theorem dX8_stands_2 : decode cX8_stands 2 = .ok (.iconst 2, 1) := by decide +kernel
theorem dX8_stands_3 : decode cX8_stands 3 = .ok (.iload_n 2, 1) := by decide +kernel
theorem dX8_stands_4 : decode cX8_stands 4 = .ok (.invokevirtual 73, 3) := by decide +kernel
theorem dX8_stands_7 : decode cX8_stands 7 = .ok (.aload_n 0, 1) := by decide +kernel
theorem dX8_stands_8 : decode cX8_stands 8 = .ok (.getfield 7, 3) := by decide +kernel
theorem dX8_stands_11 : decode cX8_stands 11 = .ok (.bipush 126, 2) := by decide +kernel
theorem dX8_stands_13 : decode cX8_stands 13 = .ok (.iload_n 2, 1) := by decide +kernel
theorem dX8_stands_14 : decode cX8_stands 14 = .ok (.iadd, 1) := by decide +kernel
theorem dX8_stands_15 : decode cX8_stands 15 = .ok (.aload_n 0, 1) := by decide +kernel
theorem dX8_stands_16 : decode cX8_stands 16 = .ok (.getfield 7, 3) := by decide +kernel
theorem dX8_stands_19 : decode cX8_stands 19 = .ok (.bipush 126, 2) := by decide +kernel
theorem dX8_stands_21 : decode cX8_stands 21 = .ok (.iload_n 2, 1) := by decide +kernel
theorem dX8_stands_22 : decode cX8_stands 22 = .ok (.iadd, 1) := by decide +kernel
theorem dX8_stands_23 : decode cX8_stands 23 = .ok (.iaload, 1) := by decide +kernel
theorem dX8_stands_24 : decode cX8_stands 24 = .ok (.ifCond .ne 7, 3) := by decide +kernel
theorem dX8_stands_27 : decode cX8_stands 27 = .ok (.iconst 0, 1) := by decide +kernel
theorem dX8_stands_28 : decode cX8_stands 28 = .ok (.goto 11, 3) := by decide +kernel
theorem dX8_stands_31 : decode cX8_stands 31 = .ok (.aload_n 0, 1) := by decide +kernel
theorem dX8_stands_32 : decode cX8_stands 32 = .ok (.iload_n 1, 1) := by decide +kernel
theorem dX8_stands_33 : decode cX8_stands 33 = .ok (.iconst 0, 1) := by decide +kernel
theorem dX8_stands_34 : decode cX8_stands 34 = .ok (.invokevirtual 52, 3) := by decide +kernel
theorem dX8_stands_37 : decode cX8_stands 37 = .ok (.iconst 1, 1) := by decide +kernel
theorem dX8_stands_38 : decode cX8_stands 38 = .ok (.iadd, 1) := by decide +kernel
theorem dX8_stands_39 : decode cX8_stands 39 = .ok (.iastore, 1) := by decide +kernel
theorem dX8_stands_40 : decode cX8_stands 40 = .ok (.return_, 1) := by decide +kernel
theorem dX8_entering_0 : decode cX8_entering 0 = .ok (.aload_n 0, 1) := by decide +kernel
theorem dX8_entering_1 : decode cX8_entering 1 = .ok (.getfield 7, 3) := by decide +kernel
theorem dX8_entering_4 : decode cX8_entering 4 = .ok (.iconst 0, 1) := by decide +kernel
theorem dX8_entering_5 : decode cX8_entering 5 = .ok (.iload_n 3, 1) := by decide +kernel
theorem dX8_entering_6 : decode cX8_entering 6 = .ok (.iadd, 1) := by decide +kernel
theorem dX8_entering_7 : decode cX8_entering 7 = .ok (.iaload, 1) := by decide +kernel
theorem dX8_entering_8 : decode cX8_entering 8 = .ok (.ifCond .ne 7, 3) := by decide +kernel
theorem dX8_entering_11 : decode cX8_entering 11 = .ok (.iconst 1, 1) := by decide +kernel
theorem dX8_entering_12 : decode cX8_entering 12 = .ok (.goto 4, 3) := by decide +kernel
theorem dX8_entering_15 : decode cX8_entering 15 = .ok (.iconst 2, 1) := by decide +kernel
theorem dX8_entering_16 : decode cX8_entering 16 = .ok (.aload_n 0, 1) := by decide +kernel
theorem dX8_entering_17 : decode cX8_entering 17 = .ok (.iload_n 1, 1) := by decide +kernel
theorem dX8_entering_18 : decode cX8_entering 18 = .ok (.iload_n 2, 1) := by decide +kernel
theorem dX8_entering_19 : decode cX8_entering 19 = .ok (.invokevirtual 77, 3) := by decide +kernel
theorem dX8_entering_22 : decode cX8_entering 22 = .ok (.ifCond .eq 7, 3) := by decide +kernel
theorem dX8_entering_25 : decode cX8_entering 25 = .ok (.iconst 1, 1) := by decide +kernel
theorem dX8_entering_26 : decode cX8_entering 26 = .ok (.goto 4, 3) := by decide +kernel
theorem dX8_entering_29 : decode cX8_entering 29 = .ok (.iconst 0, 1) := by decide +kernel
theorem dX8_entering_30 : decode cX8_entering 30 = .ok (.iadd, 1) := by decide +kernel
theorem dX8_entering_31 : decode cX8_entering 31 = .ok (.ireturn, 1) := by decide +kernel
theorem dX8_laysWays_0 : decode cX8_laysWays 0 = .ok (.iconst 1, 1) := by decide +kernel
theorem dX8_laysWays_1 : decode cX8_laysWays 1 = .ok (.aload_n 0, 1) := by decide +kernel
theorem dX8_laysWays_2 : decode cX8_laysWays 2 = .ok (.iload_n 1, 1) := by decide +kernel
theorem dX8_laysWays_3 : decode cX8_laysWays 3 = .ok (.iconst 0, 1) := by decide +kernel
theorem dX8_laysWays_4 : decode cX8_laysWays 4 = .ok (.invokevirtual 52, 3) := by decide +kernel
theorem dX8_laysWays_7 : decode cX8_laysWays 7 = .ok (.isub, 1) := by decide +kernel
theorem dX8_laysWays_8 : decode cX8_laysWays 8 = .ok (.istore_n 2, 1) := by decide +kernel
theorem dX8_laysWays_9 : decode cX8_laysWays 9 = .ok (.aload_n 0, 1) := by decide +kernel
theorem dX8_laysWays_10 : decode cX8_laysWays 10 = .ok (.iload_n 1, 1) := by decide +kernel
theorem dX8_laysWays_11 : decode cX8_laysWays 11 = .ok (.iconst 2, 1) := by decide +kernel
theorem dX8_laysWays_12 : decode cX8_laysWays 12 = .ok (.invokevirtual 52, 3) := by decide +kernel
theorem dX8_laysWays_15 : decode cX8_laysWays 15 = .ok (.istore_n 3, 1) := by decide +kernel
theorem dX8_laysWays_16 : decode cX8_laysWays 16 = .ok (.aload_n 0, 1) := by decide +kernel
theorem dX8_laysWays_17 : decode cX8_laysWays 17 = .ok (.iload_n 2, 1) := by decide +kernel
theorem dX8_laysWays_18 : decode cX8_laysWays 18 = .ok (.invokevirtual 80, 3) := by decide +kernel
theorem dX8_laysWays_21 : decode cX8_laysWays 21 = .ok (.iconst 0, 1) := by decide +kernel
theorem dX8_laysWays_22 : decode cX8_laysWays 22 = .ok (.istore 4, 2) := by decide +kernel
theorem dX8_laysWays_24 : decode cX8_laysWays 24 = .ok (.iload 4, 2) := by decide +kernel
theorem dX8_laysWays_26 : decode cX8_laysWays 26 = .ok (.bipush 63, 2) := by decide +kernel
theorem dX8_laysWays_28 : decode cX8_laysWays 28 = .ok (.if_icmp .ge 37, 3) := by decide +kernel
theorem dX8_laysWays_31 : decode cX8_laysWays 31 = .ok (.aload_n 0, 1) := by decide +kernel
theorem dX8_laysWays_32 : decode cX8_laysWays 32 = .ok (.getfield 25, 3) := by decide +kernel
theorem dX8_laysWays_35 : decode cX8_laysWays 35 = .ok (.iload 4, 2) := by decide +kernel
theorem dX8_laysWays_37 : decode cX8_laysWays 37 = .ok (.iload 4, 2) := by decide +kernel
theorem dX8_laysWays_39 : decode cX8_laysWays 39 = .ok (.iload_n 3, 1) := by decide +kernel
theorem dX8_laysWays_40 : decode cX8_laysWays 40 = .ok (.if_icmp .ne 7, 3) := by decide +kernel
theorem dX8_laysWays_43 : decode cX8_laysWays 43 = .ok (.iconst 0, 1) := by decide +kernel
theorem dX8_laysWays_44 : decode cX8_laysWays 44 = .ok (.goto 6, 3) := by decide +kernel
theorem dX8_laysWays_47 : decode cX8_laysWays 47 = .ok (.sipush 1000, 3) := by decide +kernel
theorem dX8_laysWays_50 : decode cX8_laysWays 50 = .ok (.iastore, 1) := by decide +kernel
theorem dX8_laysWays_51 : decode cX8_laysWays 51 = .ok (.aload_n 0, 1) := by decide +kernel
theorem dX8_laysWays_52 : decode cX8_laysWays 52 = .ok (.getfield 28, 3) := by decide +kernel
theorem dX8_laysWays_55 : decode cX8_laysWays 55 = .ok (.iload 4, 2) := by decide +kernel
theorem dX8_laysWays_57 : decode cX8_laysWays 57 = .ok (.iconst 0, 1) := by decide +kernel
theorem dX8_laysWays_58 : decode cX8_laysWays 58 = .ok (.bastore, 1) := by decide +kernel
theorem dX8_laysWays_59 : decode cX8_laysWays 59 = .ok (.iinc 4 1, 3) := by decide +kernel
theorem dX8_laysWays_62 : decode cX8_laysWays 62 = .ok (.goto (-38), 3) := by decide +kernel
theorem dX8_laysWays_65 : decode cX8_laysWays 65 = .ok (.iload_n 3, 1) := by decide +kernel
theorem dX8_laysWays_66 : decode cX8_laysWays 66 = .ok (.istore 4, 2) := by decide +kernel
theorem dX8_laysWays_68 : decode cX8_laysWays 68 = .ok (.iload 4, 2) := by decide +kernel
theorem dX8_laysWays_70 : decode cX8_laysWays 70 = .ok (.bipush (-5), 2) := by decide +kernel
theorem dX8_laysWays_72 : decode cX8_laysWays 72 = .ok (.if_icmp .eq 129, 3) := by decide +kernel
theorem dX8_laysWays_75 : decode cX8_laysWays 75 = .ok (.aload_n 0, 1) := by decide +kernel
theorem dX8_laysWays_76 : decode cX8_laysWays 76 = .ok (.getfield 28, 3) := by decide +kernel
theorem dX8_laysWays_79 : decode cX8_laysWays 79 = .ok (.iload 4, 2) := by decide +kernel
theorem dX8_laysWays_81 : decode cX8_laysWays 81 = .ok (.iconst 1, 1) := by decide +kernel
theorem dX8_laysWays_82 : decode cX8_laysWays 82 = .ok (.bastore, 1) := by decide +kernel
theorem dX8_laysWays_83 : decode cX8_laysWays 83 = .ok (.iconst 0, 1) := by decide +kernel
theorem dX8_laysWays_84 : decode cX8_laysWays 84 = .ok (.istore 5, 2) := by decide +kernel
theorem dX8_laysWays_86 : decode cX8_laysWays 86 = .ok (.iload 5, 2) := by decide +kernel
theorem dX8_laysWays_88 : decode cX8_laysWays 88 = .ok (.bipush 6, 2) := by decide +kernel
theorem dX8_laysWays_90 : decode cX8_laysWays 90 = .ok (.if_icmp .ge 102, 3) := by decide +kernel
theorem dX8_laysWays_93 : decode cX8_laysWays 93 = .ok (.iload 4, 2) := by decide +kernel
theorem dX8_laysWays_95 : decode cX8_laysWays 95 = .ok (.iload_n 3, 1) := by decide +kernel
theorem dX8_laysWays_96 : decode cX8_laysWays 96 = .ok (.if_icmp .eq 13, 3) := by decide +kernel
theorem dX8_laysWays_99 : decode cX8_laysWays 99 = .ok (.aload_n 0, 1) := by decide +kernel
theorem dX8_laysWays_100 : decode cX8_laysWays 100 = .ok (.getfield 35, 3) := by decide +kernel
theorem dX8_laysWays_103 : decode cX8_laysWays 103 = .ok (.iload 4, 2) := by decide +kernel
theorem dX8_laysWays_105 : decode cX8_laysWays 105 = .ok (.baload, 1) := by decide +kernel
theorem dX8_laysWays_106 : decode cX8_laysWays 106 = .ok (.ifCond .ne 86, 3) := by decide +kernel
theorem dX8_laysWays_109 : decode cX8_laysWays 109 = .ok (.iload 4, 2) := by decide +kernel
theorem dX8_laysWays_111 : decode cX8_laysWays 111 = .ok (.iload 5, 2) := by decide +kernel
theorem dX8_laysWays_113 : decode cX8_laysWays 113 = .ok (.invokestatic 59, 3) := by decide +kernel
theorem dX8_laysWays_116 : decode cX8_laysWays 116 = .ok (.istore 6, 2) := by decide +kernel
theorem dX8_laysWays_118 : decode cX8_laysWays 118 = .ok (.iload 6, 2) := by decide +kernel
theorem dX8_laysWays_120 : decode cX8_laysWays 120 = .ok (.bipush (-5), 2) := by decide +kernel
theorem dX8_laysWays_122 : decode cX8_laysWays 122 = .ok (.if_icmp .eq 64, 3) := by decide +kernel
theorem dX8_laysWays_125 : decode cX8_laysWays 125 = .ok (.aload_n 0, 1) := by decide +kernel
theorem dX8_laysWays_126 : decode cX8_laysWays 126 = .ok (.iload 6, 2) := by decide +kernel
theorem dX8_laysWays_128 : decode cX8_laysWays 128 = .ok (.iload_n 2, 1) := by decide +kernel
theorem dX8_laysWays_129 : decode cX8_laysWays 129 = .ok (.invokevirtual 66, 3) := by decide +kernel
theorem dX8_laysWays_132 : decode cX8_laysWays 132 = .ok (.ifCond .ne 54, 3) := by decide +kernel
theorem dX8_laysWays_135 : decode cX8_laysWays 135 = .ok (.aload_n 0, 1) := by decide +kernel
theorem dX8_laysWays_136 : decode cX8_laysWays 136 = .ok (.getfield 25, 3) := by decide +kernel
theorem dX8_laysWays_139 : decode cX8_laysWays 139 = .ok (.iload 4, 2) := by decide +kernel
theorem dX8_laysWays_141 : decode cX8_laysWays 141 = .ok (.iaload, 1) := by decide +kernel
theorem dX8_laysWays_142 : decode cX8_laysWays 142 = .ok (.aload_n 0, 1) := by decide +kernel
theorem dX8_laysWays_143 : decode cX8_laysWays 143 = .ok (.iload 4, 2) := by decide +kernel
theorem dX8_laysWays_145 : decode cX8_laysWays 145 = .ok (.iload 5, 2) := by decide +kernel
theorem dX8_laysWays_147 : decode cX8_laysWays 147 = .ok (.iload 6, 2) := by decide +kernel
theorem dX8_laysWays_149 : decode cX8_laysWays 149 = .ok (.invokevirtual 84, 3) := by decide +kernel
theorem dX8_laysWays_152 : decode cX8_laysWays 152 = .ok (.iadd, 1) := by decide +kernel
theorem dX8_laysWays_153 : decode cX8_laysWays 153 = .ok (.istore 7, 2) := by decide +kernel
theorem dX8_laysWays_155 : decode cX8_laysWays 155 = .ok (.aload_n 0, 1) := by decide +kernel
theorem dX8_laysWays_156 : decode cX8_laysWays 156 = .ok (.getfield 25, 3) := by decide +kernel
theorem dX8_laysWays_159 : decode cX8_laysWays 159 = .ok (.iload 6, 2) := by decide +kernel
theorem dX8_laysWays_161 : decode cX8_laysWays 161 = .ok (.iload 7, 2) := by decide +kernel
theorem dX8_laysWays_163 : decode cX8_laysWays 163 = .ok (.aload_n 0, 1) := by decide +kernel
theorem dX8_laysWays_164 : decode cX8_laysWays 164 = .ok (.getfield 25, 3) := by decide +kernel
theorem dX8_laysWays_167 : decode cX8_laysWays 167 = .ok (.iload 6, 2) := by decide +kernel
theorem dX8_laysWays_169 : decode cX8_laysWays 169 = .ok (.iaload, 1) := by decide +kernel
theorem dX8_laysWays_170 : decode cX8_laysWays 170 = .ok (.if_icmp .ge 8, 3) := by decide +kernel
theorem dX8_laysWays_173 : decode cX8_laysWays 173 = .ok (.iload 7, 2) := by decide +kernel
theorem dX8_laysWays_175 : decode cX8_laysWays 175 = .ok (.goto 10, 3) := by decide +kernel
theorem dX8_laysWays_178 : decode cX8_laysWays 178 = .ok (.aload_n 0, 1) := by decide +kernel
theorem dX8_laysWays_179 : decode cX8_laysWays 179 = .ok (.getfield 25, 3) := by decide +kernel
theorem dX8_laysWays_182 : decode cX8_laysWays 182 = .ok (.iload 6, 2) := by decide +kernel
theorem dX8_laysWays_184 : decode cX8_laysWays 184 = .ok (.iaload, 1) := by decide +kernel
theorem dX8_laysWays_185 : decode cX8_laysWays 185 = .ok (.iastore, 1) := by decide +kernel
theorem dX8_laysWays_186 : decode cX8_laysWays 186 = .ok (.iinc 5 1, 3) := by decide +kernel
theorem dX8_laysWays_189 : decode cX8_laysWays 189 = .ok (.goto (-103), 3) := by decide +kernel
theorem dX8_laysWays_192 : decode cX8_laysWays 192 = .ok (.aload_n 0, 1) := by decide +kernel
theorem dX8_laysWays_193 : decode cX8_laysWays 193 = .ok (.invokevirtual 88, 3) := by decide +kernel
theorem dX8_laysWays_196 : decode cX8_laysWays 196 = .ok (.istore 4, 2) := by decide +kernel
theorem dX8_laysWays_198 : decode cX8_laysWays 198 = .ok (.goto (-130), 3) := by decide +kernel
theorem dX8_laysWays_201 : decode cX8_laysWays 201 = .ok (.return_, 1) := by decide +kernel
theorem dX8_cheapest_0 : decode cX8_cheapest 0 = .ok (.bipush (-5), 2) := by decide +kernel
theorem dX8_cheapest_2 : decode cX8_cheapest 2 = .ok (.istore_n 1, 1) := by decide +kernel
theorem dX8_cheapest_3 : decode cX8_cheapest 3 = .ok (.iconst 0, 1) := by decide +kernel
theorem dX8_cheapest_4 : decode cX8_cheapest 4 = .ok (.istore_n 2, 1) := by decide +kernel
theorem dX8_cheapest_5 : decode cX8_cheapest 5 = .ok (.iload_n 2, 1) := by decide +kernel
theorem dX8_cheapest_6 : decode cX8_cheapest 6 = .ok (.bipush 63, 2) := by decide +kernel
theorem dX8_cheapest_8 : decode cX8_cheapest 8 = .ok (.if_icmp .ge 57, 3) := by decide +kernel
theorem dX8_cheapest_11 : decode cX8_cheapest 11 = .ok (.aload_n 0, 1) := by decide +kernel
theorem dX8_cheapest_12 : decode cX8_cheapest 12 = .ok (.getfield 28, 3) := by decide +kernel
theorem dX8_cheapest_15 : decode cX8_cheapest 15 = .ok (.iload_n 2, 1) := by decide +kernel
theorem dX8_cheapest_16 : decode cX8_cheapest 16 = .ok (.baload, 1) := by decide +kernel
theorem dX8_cheapest_17 : decode cX8_cheapest 17 = .ok (.ifCond .ne 40, 3) := by decide +kernel
theorem dX8_cheapest_20 : decode cX8_cheapest 20 = .ok (.aload_n 0, 1) := by decide +kernel
theorem dX8_cheapest_21 : decode cX8_cheapest 21 = .ok (.getfield 25, 3) := by decide +kernel
theorem dX8_cheapest_24 : decode cX8_cheapest 24 = .ok (.iload_n 2, 1) := by decide +kernel
theorem dX8_cheapest_25 : decode cX8_cheapest 25 = .ok (.iaload, 1) := by decide +kernel
theorem dX8_cheapest_26 : decode cX8_cheapest 26 = .ok (.sipush 1000, 3) := by decide +kernel
theorem dX8_cheapest_29 : decode cX8_cheapest 29 = .ok (.if_icmp .ge 28, 3) := by decide +kernel
theorem dX8_cheapest_32 : decode cX8_cheapest 32 = .ok (.iload_n 1, 1) := by decide +kernel
theorem dX8_cheapest_33 : decode cX8_cheapest 33 = .ok (.bipush (-5), 2) := by decide +kernel
theorem dX8_cheapest_35 : decode cX8_cheapest 35 = .ok (.if_icmp .eq 18, 3) := by decide +kernel
theorem dX8_cheapest_38 : decode cX8_cheapest 38 = .ok (.aload_n 0, 1) := by decide +kernel
theorem dX8_cheapest_39 : decode cX8_cheapest 39 = .ok (.getfield 25, 3) := by decide +kernel
theorem dX8_cheapest_42 : decode cX8_cheapest 42 = .ok (.iload_n 2, 1) := by decide +kernel
theorem dX8_cheapest_43 : decode cX8_cheapest 43 = .ok (.iaload, 1) := by decide +kernel
theorem dX8_cheapest_44 : decode cX8_cheapest 44 = .ok (.aload_n 0, 1) := by decide +kernel
theorem dX8_cheapest_45 : decode cX8_cheapest 45 = .ok (.getfield 25, 3) := by decide +kernel
theorem dX8_cheapest_48 : decode cX8_cheapest 48 = .ok (.iload_n 1, 1) := by decide +kernel
theorem dX8_cheapest_49 : decode cX8_cheapest 49 = .ok (.iaload, 1) := by decide +kernel
theorem dX8_cheapest_50 : decode cX8_cheapest 50 = .ok (.if_icmp .ge 7, 3) := by decide +kernel
theorem dX8_cheapest_53 : decode cX8_cheapest 53 = .ok (.iload_n 2, 1) := by decide +kernel
theorem dX8_cheapest_54 : decode cX8_cheapest 54 = .ok (.goto 4, 3) := by decide +kernel
theorem dX8_cheapest_57 : decode cX8_cheapest 57 = .ok (.iload_n 1, 1) := by decide +kernel
theorem dX8_cheapest_58 : decode cX8_cheapest 58 = .ok (.istore_n 1, 1) := by decide +kernel
theorem dX8_cheapest_59 : decode cX8_cheapest 59 = .ok (.iinc 2 1, 3) := by decide +kernel
theorem dX8_cheapest_62 : decode cX8_cheapest 62 = .ok (.goto (-57), 3) := by decide +kernel
theorem dX8_cheapest_65 : decode cX8_cheapest 65 = .ok (.iload_n 1, 1) := by decide +kernel
theorem dX8_cheapest_66 : decode cX8_cheapest 66 = .ok (.ireturn, 1) := by decide +kernel
theorem dX8_canReach_0 : decode cX8_canReach 0 = .ok (.aload_n 0, 1) := by decide +kernel
theorem dX8_canReach_1 : decode cX8_canReach 1 = .ok (.getfield 25, 3) := by decide +kernel
theorem dX8_canReach_4 : decode cX8_canReach 4 = .ok (.iload_n 2, 1) := by decide +kernel
theorem dX8_canReach_5 : decode cX8_canReach 5 = .ok (.iaload, 1) := by decide +kernel
theorem dX8_canReach_6 : decode cX8_canReach 6 = .ok (.aload_n 0, 1) := by decide +kernel
theorem dX8_canReach_7 : decode cX8_canReach 7 = .ok (.iload_n 1, 1) := by decide +kernel
theorem dX8_canReach_8 : decode cX8_canReach 8 = .ok (.iconst 3, 1) := by decide +kernel
theorem dX8_canReach_9 : decode cX8_canReach 9 = .ok (.invokevirtual 52, 3) := by decide +kernel
theorem dX8_canReach_12 : decode cX8_canReach 12 = .ok (.if_icmp .gt 17, 3) := by decide +kernel
theorem dX8_canReach_15 : decode cX8_canReach 15 = .ok (.aload_n 0, 1) := by decide +kernel
theorem dX8_canReach_16 : decode cX8_canReach 16 = .ok (.iload_n 2, 1) := by decide +kernel
theorem dX8_canReach_17 : decode cX8_canReach 17 = .ok (.invokevirtual 62, 3) := by decide +kernel
theorem dX8_canReach_20 : decode cX8_canReach 20 = .ok (.bipush (-5), 2) := by decide +kernel
theorem dX8_canReach_22 : decode cX8_canReach 22 = .ok (.if_icmp .ne 7, 3) := by decide +kernel
theorem dX8_canReach_25 : decode cX8_canReach 25 = .ok (.iconst 1, 1) := by decide +kernel
theorem dX8_canReach_26 : decode cX8_canReach 26 = .ok (.goto 4, 3) := by decide +kernel
theorem dX8_canReach_29 : decode cX8_canReach 29 = .ok (.iconst 0, 1) := by decide +kernel
theorem dX8_canReach_30 : decode cX8_canReach 30 = .ok (.ireturn, 1) := by decide +kernel
theorem dX8_isSource_0 : decode cX8_isSource 0 = .ok (.aload_n 0, 1) := by decide +kernel
theorem dX8_isSource_1 : decode cX8_isSource 1 = .ok (.getfield 7, 3) := by decide +kernel
theorem dX8_isSource_4 : decode cX8_isSource 4 = .ok (.sipush 189, 3) := by decide +kernel
theorem dX8_isSource_7 : decode cX8_isSource 7 = .ok (.iload_n 2, 1) := by decide +kernel
theorem dX8_isSource_8 : decode cX8_isSource 8 = .ok (.iadd, 1) := by decide +kernel
theorem dX8_isSource_9 : decode cX8_isSource 9 = .ok (.iaload, 1) := by decide +kernel
theorem dX8_isSource_10 : decode cX8_isSource 10 = .ok (.iload_n 1, 1) := by decide +kernel
theorem dX8_isSource_11 : decode cX8_isSource 11 = .ok (.if_icmp .eq 18, 3) := by decide +kernel
theorem dX8_isSource_14 : decode cX8_isSource 14 = .ok (.aload_n 0, 1) := by decide +kernel
theorem dX8_isSource_15 : decode cX8_isSource 15 = .ok (.getfield 7, 3) := by decide +kernel
theorem dX8_isSource_18 : decode cX8_isSource 18 = .ok (.bipush 126, 2) := by decide +kernel
theorem dX8_isSource_20 : decode cX8_isSource 20 = .ok (.iload_n 1, 1) := by decide +kernel
theorem dX8_isSource_21 : decode cX8_isSource 21 = .ok (.iadd, 1) := by decide +kernel
theorem dX8_isSource_22 : decode cX8_isSource 22 = .ok (.iaload, 1) := by decide +kernel
theorem dX8_isSource_23 : decode cX8_isSource 23 = .ok (.iload_n 2, 1) := by decide +kernel
theorem dX8_isSource_24 : decode cX8_isSource 24 = .ok (.iconst 1, 1) := by decide +kernel
theorem dX8_isSource_25 : decode cX8_isSource 25 = .ok (.iadd, 1) := by decide +kernel
theorem dX8_isSource_26 : decode cX8_isSource 26 = .ok (.if_icmp .ne 7, 3) := by decide +kernel
theorem dX8_isSource_29 : decode cX8_isSource 29 = .ok (.iconst 1, 1) := by decide +kernel
theorem dX8_isSource_30 : decode cX8_isSource 30 = .ok (.goto 4, 3) := by decide +kernel
theorem dX8_isSource_33 : decode cX8_isSource 33 = .ok (.iconst 0, 1) := by decide +kernel
theorem dX8_isSource_34 : decode cX8_isSource 34 = .ok (.ireturn, 1) := by decide +kernel
theorem dX8_isFree_0 : decode cX8_isFree 0 = .ok (.aload_n 0, 1) := by decide +kernel
theorem dX8_isFree_1 : decode cX8_isFree 1 = .ok (.iload_n 1, 1) := by decide +kernel
theorem dX8_isFree_2 : decode cX8_isFree 2 = .ok (.iconst 1, 1) := by decide +kernel
theorem dX8_isFree_3 : decode cX8_isFree 3 = .ok (.iload_n 2, 1) := by decide +kernel
theorem dX8_isFree_4 : decode cX8_isFree 4 = .ok (.isub, 1) := by decide +kernel
theorem dX8_isFree_5 : decode cX8_isFree 5 = .ok (.invokevirtual 66, 3) := by decide +kernel
theorem dX8_isFree_8 : decode cX8_isFree 8 = .ok (.ifCond .ne 25, 3) := by decide +kernel
theorem dX8_isFree_11 : decode cX8_isFree 11 = .ok (.aload_n 0, 1) := by decide +kernel
theorem dX8_isFree_12 : decode cX8_isFree 12 = .ok (.getfield 35, 3) := by decide +kernel
theorem dX8_isFree_15 : decode cX8_isFree 15 = .ok (.iload_n 1, 1) := by decide +kernel
theorem dX8_isFree_16 : decode cX8_isFree 16 = .ok (.baload, 1) := by decide +kernel
theorem dX8_isFree_17 : decode cX8_isFree 17 = .ok (.ifCond .eq 12, 3) := by decide +kernel
theorem dX8_isFree_20 : decode cX8_isFree 20 = .ok (.aload_n 0, 1) := by decide +kernel
theorem dX8_isFree_21 : decode cX8_isFree 21 = .ok (.iload_n 1, 1) := by decide +kernel
theorem dX8_isFree_22 : decode cX8_isFree 22 = .ok (.iload_n 2, 1) := by decide +kernel
theorem dX8_isFree_23 : decode cX8_isFree 23 = .ok (.invokevirtual 66, 3) := by decide +kernel
theorem dX8_isFree_26 : decode cX8_isFree 26 = .ok (.ifCond .eq 7, 3) := by decide +kernel
theorem dX8_isFree_29 : decode cX8_isFree 29 = .ok (.iconst 1, 1) := by decide +kernel
theorem dX8_isFree_30 : decode cX8_isFree 30 = .ok (.goto 4, 3) := by decide +kernel
theorem dX8_isFree_33 : decode cX8_isFree 33 = .ok (.iconst 0, 1) := by decide +kernel
theorem dX8_isFree_34 : decode cX8_isFree 34 = .ok (.ireturn, 1) := by decide +kernel
theorem dX8_toSource_0 : decode cX8_toSource 0 = .ok (.aload_n 0, 1) := by decide +kernel
theorem dX8_toSource_1 : decode cX8_toSource 1 = .ok (.iload_n 1, 1) := by decide +kernel
theorem dX8_toSource_2 : decode cX8_toSource 2 = .ok (.iconst 0, 1) := by decide +kernel
theorem dX8_toSource_3 : decode cX8_toSource 3 = .ok (.invokevirtual 52, 3) := by decide +kernel
theorem dX8_toSource_6 : decode cX8_toSource 6 = .ok (.istore_n 2, 1) := by decide +kernel
theorem dX8_toSource_7 : decode cX8_toSource 7 = .ok (.aload_n 0, 1) := by decide +kernel
theorem dX8_toSource_8 : decode cX8_toSource 8 = .ok (.iconst 1, 1) := by decide +kernel
theorem dX8_toSource_9 : decode cX8_toSource 9 = .ok (.iload_n 2, 1) := by decide +kernel
theorem dX8_toSource_10 : decode cX8_toSource 10 = .ok (.isub, 1) := by decide +kernel
theorem dX8_toSource_11 : decode cX8_toSource 11 = .ok (.invokevirtual 80, 3) := by decide +kernel
theorem dX8_toSource_14 : decode cX8_toSource 14 = .ok (.iconst 0, 1) := by decide +kernel
theorem dX8_toSource_15 : decode cX8_toSource 15 = .ok (.istore_n 3, 1) := by decide +kernel
theorem dX8_toSource_16 : decode cX8_toSource 16 = .ok (.iload_n 3, 1) := by decide +kernel
theorem dX8_toSource_17 : decode cX8_toSource 17 = .ok (.bipush 63, 2) := by decide +kernel
theorem dX8_toSource_19 : decode cX8_toSource 19 = .ok (.if_icmp .ge 32, 3) := by decide +kernel
theorem dX8_toSource_22 : decode cX8_toSource 22 = .ok (.aload_n 0, 1) := by decide +kernel
theorem dX8_toSource_23 : decode cX8_toSource 23 = .ok (.getfield 32, 3) := by decide +kernel
theorem dX8_toSource_26 : decode cX8_toSource 26 = .ok (.iload_n 3, 1) := by decide +kernel
theorem dX8_toSource_27 : decode cX8_toSource 27 = .ok (.iload_n 3, 1) := by decide +kernel
theorem dX8_toSource_28 : decode cX8_toSource 28 = .ok (.aload_n 0, 1) := by decide +kernel
theorem dX8_toSource_29 : decode cX8_toSource 29 = .ok (.iload_n 1, 1) := by decide +kernel
theorem dX8_toSource_30 : decode cX8_toSource 30 = .ok (.iconst 2, 1) := by decide +kernel
theorem dX8_toSource_31 : decode cX8_toSource 31 = .ok (.invokevirtual 52, 3) := by decide +kernel
theorem dX8_toSource_34 : decode cX8_toSource 34 = .ok (.if_icmp .ne 7, 3) := by decide +kernel
theorem dX8_toSource_37 : decode cX8_toSource 37 = .ok (.iconst 0, 1) := by decide +kernel
theorem dX8_toSource_38 : decode cX8_toSource 38 = .ok (.goto 6, 3) := by decide +kernel
theorem dX8_toSource_41 : decode cX8_toSource 41 = .ok (.sipush 1000, 3) := by decide +kernel
theorem dX8_toSource_44 : decode cX8_toSource 44 = .ok (.iastore, 1) := by decide +kernel
theorem dX8_toSource_45 : decode cX8_toSource 45 = .ok (.iinc 3 1, 3) := by decide +kernel
theorem dX8_toSource_48 : decode cX8_toSource 48 = .ok (.goto (-32), 3) := by decide +kernel
theorem dX8_toSource_51 : decode cX8_toSource 51 = .ok (.iconst 0, 1) := by decide +kernel
theorem dX8_toSource_52 : decode cX8_toSource 52 = .ok (.istore_n 3, 1) := by decide +kernel
theorem dX8_toSource_53 : decode cX8_toSource 53 = .ok (.iload_n 3, 1) := by decide +kernel
theorem dX8_toSource_54 : decode cX8_toSource 54 = .ok (.bipush 7, 2) := by decide +kernel
theorem dX8_toSource_56 : decode cX8_toSource 56 = .ok (.if_icmp .ge 140, 3) := by decide +kernel
theorem dX8_toSource_59 : decode cX8_toSource 59 = .ok (.iconst 0, 1) := by decide +kernel
theorem dX8_toSource_60 : decode cX8_toSource 60 = .ok (.istore 4, 2) := by decide +kernel
theorem dX8_toSource_62 : decode cX8_toSource 62 = .ok (.iload 4, 2) := by decide +kernel
theorem dX8_toSource_64 : decode cX8_toSource 64 = .ok (.bipush 63, 2) := by decide +kernel
theorem dX8_toSource_66 : decode cX8_toSource 66 = .ok (.if_icmp .ge 32, 3) := by decide +kernel
theorem dX8_toSource_69 : decode cX8_toSource 69 = .ok (.aload_n 0, 1) := by decide +kernel
theorem dX8_toSource_70 : decode cX8_toSource 70 = .ok (.getfield 32, 3) := by decide +kernel
theorem dX8_toSource_73 : decode cX8_toSource 73 = .ok (.iload 4, 2) := by decide +kernel
theorem dX8_toSource_75 : decode cX8_toSource 75 = .ok (.iaload, 1) := by decide +kernel
theorem dX8_toSource_76 : decode cX8_toSource 76 = .ok (.iload_n 3, 1) := by decide +kernel
theorem dX8_toSource_77 : decode cX8_toSource 77 = .ok (.if_icmp .ne 15, 3) := by decide +kernel
theorem dX8_toSource_80 : decode cX8_toSource 80 = .ok (.aload_n 0, 1) := by decide +kernel
theorem dX8_toSource_81 : decode cX8_toSource 81 = .ok (.iload 4, 2) := by decide +kernel
theorem dX8_toSource_83 : decode cX8_toSource 83 = .ok (.iload_n 2, 1) := by decide +kernel
theorem dX8_toSource_84 : decode cX8_toSource 84 = .ok (.invokevirtual 92, 3) := by decide +kernel
theorem dX8_toSource_87 : decode cX8_toSource 87 = .ok (.ifCond .eq 5, 3) := by decide +kernel
theorem dX8_toSource_90 : decode cX8_toSource 90 = .ok (.iload_n 3, 1) := by decide +kernel
theorem dX8_toSource_91 : decode cX8_toSource 91 = .ok (.ireturn, 1) := by decide +kernel
theorem dX8_toSource_92 : decode cX8_toSource 92 = .ok (.iinc 4 1, 3) := by decide +kernel
theorem dX8_toSource_95 : decode cX8_toSource 95 = .ok (.goto (-33), 3) := by decide +kernel
theorem dX8_toSource_98 : decode cX8_toSource 98 = .ok (.iconst 0, 1) := by decide +kernel
theorem dX8_toSource_99 : decode cX8_toSource 99 = .ok (.istore 4, 2) := by decide +kernel
theorem dX8_toSource_101 : decode cX8_toSource 101 = .ok (.iload 4, 2) := by decide +kernel
theorem dX8_toSource_103 : decode cX8_toSource 103 = .ok (.bipush 63, 2) := by decide +kernel
theorem dX8_toSource_105 : decode cX8_toSource 105 = .ok (.if_icmp .ge 85, 3) := by decide +kernel
theorem dX8_toSource_108 : decode cX8_toSource 108 = .ok (.iconst 0, 1) := by decide +kernel
theorem dX8_toSource_109 : decode cX8_toSource 109 = .ok (.istore 5, 2) := by decide +kernel
theorem dX8_toSource_111 : decode cX8_toSource 111 = .ok (.iload 5, 2) := by decide +kernel
theorem dX8_toSource_113 : decode cX8_toSource 113 = .ok (.bipush 6, 2) := by decide +kernel
theorem dX8_toSource_115 : decode cX8_toSource 115 = .ok (.if_icmp .ge 69, 3) := by decide +kernel
theorem dX8_toSource_118 : decode cX8_toSource 118 = .ok (.aload_n 0, 1) := by decide +kernel
theorem dX8_toSource_119 : decode cX8_toSource 119 = .ok (.getfield 32, 3) := by decide +kernel
theorem dX8_toSource_122 : decode cX8_toSource 122 = .ok (.iload 4, 2) := by decide +kernel
theorem dX8_toSource_124 : decode cX8_toSource 124 = .ok (.iaload, 1) := by decide +kernel
theorem dX8_toSource_125 : decode cX8_toSource 125 = .ok (.iload_n 3, 1) := by decide +kernel
theorem dX8_toSource_126 : decode cX8_toSource 126 = .ok (.if_icmp .ne 58, 3) := by decide +kernel
theorem dX8_toSource_129 : decode cX8_toSource 129 = .ok (.iload 4, 2) := by decide +kernel
theorem dX8_toSource_131 : decode cX8_toSource 131 = .ok (.iload 5, 2) := by decide +kernel
theorem dX8_toSource_133 : decode cX8_toSource 133 = .ok (.invokestatic 59, 3) := by decide +kernel
theorem dX8_toSource_136 : decode cX8_toSource 136 = .ok (.istore 6, 2) := by decide +kernel
theorem dX8_toSource_138 : decode cX8_toSource 138 = .ok (.iload 6, 2) := by decide +kernel
theorem dX8_toSource_140 : decode cX8_toSource 140 = .ok (.bipush (-5), 2) := by decide +kernel
theorem dX8_toSource_142 : decode cX8_toSource 142 = .ok (.if_icmp .eq 36, 3) := by decide +kernel
theorem dX8_toSource_145 : decode cX8_toSource 145 = .ok (.aload_n 0, 1) := by decide +kernel
theorem dX8_toSource_146 : decode cX8_toSource 146 = .ok (.getfield 32, 3) := by decide +kernel
theorem dX8_toSource_149 : decode cX8_toSource 149 = .ok (.iload 6, 2) := by decide +kernel
theorem dX8_toSource_151 : decode cX8_toSource 151 = .ok (.iaload, 1) := by decide +kernel
theorem dX8_toSource_152 : decode cX8_toSource 152 = .ok (.sipush 1000, 3) := by decide +kernel
theorem dX8_toSource_155 : decode cX8_toSource 155 = .ok (.if_icmp .ne 23, 3) := by decide +kernel
theorem dX8_toSource_158 : decode cX8_toSource 158 = .ok (.aload_n 0, 1) := by decide +kernel
theorem dX8_toSource_159 : decode cX8_toSource 159 = .ok (.iload 6, 2) := by decide +kernel
theorem dX8_toSource_161 : decode cX8_toSource 161 = .ok (.iload_n 2, 1) := by decide +kernel
theorem dX8_toSource_162 : decode cX8_toSource 162 = .ok (.invokevirtual 95, 3) := by decide +kernel
theorem dX8_toSource_165 : decode cX8_toSource 165 = .ok (.ifCond .eq 13, 3) := by decide +kernel
theorem dX8_toSource_168 : decode cX8_toSource 168 = .ok (.aload_n 0, 1) := by decide +kernel
theorem dX8_toSource_169 : decode cX8_toSource 169 = .ok (.getfield 32, 3) := by decide +kernel
theorem dX8_toSource_172 : decode cX8_toSource 172 = .ok (.iload 6, 2) := by decide +kernel
theorem dX8_toSource_174 : decode cX8_toSource 174 = .ok (.iload_n 3, 1) := by decide +kernel
theorem dX8_toSource_175 : decode cX8_toSource 175 = .ok (.iconst 1, 1) := by decide +kernel
theorem dX8_toSource_176 : decode cX8_toSource 176 = .ok (.iadd, 1) := by decide +kernel
theorem dX8_toSource_177 : decode cX8_toSource 177 = .ok (.iastore, 1) := by decide +kernel
theorem dX8_toSource_178 : decode cX8_toSource 178 = .ok (.iinc 5 1, 3) := by decide +kernel
theorem dX8_toSource_181 : decode cX8_toSource 181 = .ok (.goto (-70), 3) := by decide +kernel
theorem dX8_toSource_184 : decode cX8_toSource 184 = .ok (.iinc 4 1, 3) := by decide +kernel
theorem dX8_toSource_187 : decode cX8_toSource 187 = .ok (.goto (-86), 3) := by decide +kernel
theorem dX8_toSource_190 : decode cX8_toSource 190 = .ok (.iinc 3 1, 3) := by decide +kernel
theorem dX8_toSource_193 : decode cX8_toSource 193 = .ok (.goto (-140), 3) := by decide +kernel
theorem dX8_toSource_196 : decode cX8_toSource 196 = .ok (.bipush (-5), 2) := by decide +kernel
theorem dX8_toSource_198 : decode cX8_toSource 198 = .ok (.ireturn, 1) := by decide +kernel
theorem dX8_isSupplied_0 : decode cX8_isSupplied 0 = .ok (.aload_n 0, 1) := by decide +kernel
theorem dX8_isSupplied_1 : decode cX8_isSupplied 1 = .ok (.iload_n 1, 1) := by decide +kernel
theorem dX8_isSupplied_2 : decode cX8_isSupplied 2 = .ok (.invokevirtual 98, 3) := by decide +kernel
theorem dX8_isSupplied_5 : decode cX8_isSupplied 5 = .ok (.bipush (-5), 2) := by decide +kernel
theorem dX8_isSupplied_7 : decode cX8_isSupplied 7 = .ok (.if_icmp .eq 7, 3) := by decide +kernel
theorem dX8_isSupplied_10 : decode cX8_isSupplied 10 = .ok (.iconst 1, 1) := by decide +kernel
theorem dX8_isSupplied_11 : decode cX8_isSupplied 11 = .ok (.goto 4, 3) := by decide +kernel
theorem dX8_isSupplied_14 : decode cX8_isSupplied 14 = .ok (.iconst 0, 1) := by decide +kernel
theorem dX8_isSupplied_15 : decode cX8_isSupplied 15 = .ok (.ireturn, 1) := by decide +kernel
theorem dX8_sees_0 : decode cX8_sees 0 = .ok (.aload_n 0, 1) := by decide +kernel
theorem dX8_sees_1 : decode cX8_sees 1 = .ok (.iload_n 2, 1) := by decide +kernel
theorem dX8_sees_2 : decode cX8_sees 2 = .ok (.invokevirtual 101, 3) := by decide +kernel
theorem dX8_sees_5 : decode cX8_sees 5 = .ok (.aload_n 0, 1) := by decide +kernel
theorem dX8_sees_6 : decode cX8_sees 6 = .ok (.getfield 7, 3) := by decide +kernel
theorem dX8_sees_9 : decode cX8_sees 9 = .ok (.iconst 0, 1) := by decide +kernel
theorem dX8_sees_10 : decode cX8_sees 10 = .ok (.iload_n 2, 1) := by decide +kernel
theorem dX8_sees_11 : decode cX8_sees 11 = .ok (.iadd, 1) := by decide +kernel
theorem dX8_sees_12 : decode cX8_sees 12 = .ok (.iaload, 1) := by decide +kernel
theorem dX8_sees_13 : decode cX8_sees 13 = .ok (.iconst 1, 1) := by decide +kernel
theorem dX8_sees_14 : decode cX8_sees 14 = .ok (.if_icmp .ne 7, 3) := by decide +kernel
theorem dX8_sees_17 : decode cX8_sees 17 = .ok (.iconst 1, 1) := by decide +kernel
theorem dX8_sees_18 : decode cX8_sees 18 = .ok (.goto 4, 3) := by decide +kernel
theorem dX8_sees_21 : decode cX8_sees 21 = .ok (.iconst 2, 1) := by decide +kernel
theorem dX8_sees_22 : decode cX8_sees 22 = .ok (.istore_n 3, 1) := by decide +kernel
theorem dX8_sees_23 : decode cX8_sees 23 = .ok (.iconst 0, 1) := by decide +kernel
theorem dX8_sees_24 : decode cX8_sees 24 = .ok (.istore 4, 2) := by decide +kernel
theorem dX8_sees_26 : decode cX8_sees 26 = .ok (.iconst 0, 1) := by decide +kernel
theorem dX8_sees_27 : decode cX8_sees 27 = .ok (.istore 5, 2) := by decide +kernel
theorem dX8_sees_29 : decode cX8_sees 29 = .ok (.iload 5, 2) := by decide +kernel
theorem dX8_sees_31 : decode cX8_sees 31 = .ok (.aload_n 0, 1) := by decide +kernel
theorem dX8_sees_32 : decode cX8_sees 32 = .ok (.getfield 7, 3) := by decide +kernel
theorem dX8_sees_35 : decode cX8_sees 35 = .ok (.sipush 192, 3) := by decide +kernel
theorem dX8_sees_38 : decode cX8_sees 38 = .ok (.iaload, 1) := by decide +kernel
theorem dX8_sees_39 : decode cX8_sees 39 = .ok (.if_icmp .ge 58, 3) := by decide +kernel
theorem dX8_sees_42 : decode cX8_sees 42 = .ok (.iload 4, 2) := by decide +kernel
theorem dX8_sees_44 : decode cX8_sees 44 = .ok (.ifCond .ne 40, 3) := by decide +kernel
theorem dX8_sees_47 : decode cX8_sees 47 = .ok (.aload_n 0, 1) := by decide +kernel
theorem dX8_sees_48 : decode cX8_sees 48 = .ok (.iload 5, 2) := by decide +kernel
theorem dX8_sees_50 : decode cX8_sees 50 = .ok (.iconst 1, 1) := by decide +kernel
theorem dX8_sees_51 : decode cX8_sees 51 = .ok (.invokevirtual 52, 3) := by decide +kernel
theorem dX8_sees_54 : decode cX8_sees 54 = .ok (.ifCond .le 34, 3) := by decide +kernel
theorem dX8_sees_57 : decode cX8_sees 57 = .ok (.aload_n 0, 1) := by decide +kernel
theorem dX8_sees_58 : decode cX8_sees 58 = .ok (.iload 5, 2) := by decide +kernel
theorem dX8_sees_60 : decode cX8_sees 60 = .ok (.iconst 0, 1) := by decide +kernel
theorem dX8_sees_61 : decode cX8_sees 61 = .ok (.invokevirtual 52, 3) := by decide +kernel
theorem dX8_sees_64 : decode cX8_sees 64 = .ok (.iload_n 1, 1) := by decide +kernel
theorem dX8_sees_65 : decode cX8_sees 65 = .ok (.if_icmp .ne 23, 3) := by decide +kernel
theorem dX8_sees_68 : decode cX8_sees 68 = .ok (.aload_n 0, 1) := by decide +kernel
theorem dX8_sees_69 : decode cX8_sees 69 = .ok (.getfield 32, 3) := by decide +kernel
theorem dX8_sees_72 : decode cX8_sees 72 = .ok (.aload_n 0, 1) := by decide +kernel
theorem dX8_sees_73 : decode cX8_sees 73 = .ok (.iload 5, 2) := by decide +kernel
theorem dX8_sees_75 : decode cX8_sees 75 = .ok (.iconst 2, 1) := by decide +kernel
theorem dX8_sees_76 : decode cX8_sees 76 = .ok (.invokevirtual 52, 3) := by decide +kernel
theorem dX8_sees_79 : decode cX8_sees 79 = .ok (.iaload, 1) := by decide +kernel
theorem dX8_sees_80 : decode cX8_sees 80 = .ok (.iload_n 3, 1) := by decide +kernel
theorem dX8_sees_81 : decode cX8_sees 81 = .ok (.if_icmp .gt 7, 3) := by decide +kernel
theorem dX8_sees_84 : decode cX8_sees 84 = .ok (.iconst 1, 1) := by decide +kernel
theorem dX8_sees_85 : decode cX8_sees 85 = .ok (.goto 4, 3) := by decide +kernel
theorem dX8_sees_88 : decode cX8_sees 88 = .ok (.iconst 0, 1) := by decide +kernel
theorem dX8_sees_89 : decode cX8_sees 89 = .ok (.istore 4, 2) := by decide +kernel
theorem dX8_sees_91 : decode cX8_sees 91 = .ok (.iinc 5 1, 3) := by decide +kernel
theorem dX8_sees_94 : decode cX8_sees 94 = .ok (.goto (-65), 3) := by decide +kernel
theorem dX8_sees_97 : decode cX8_sees 97 = .ok (.iconst 0, 1) := by decide +kernel
theorem dX8_sees_98 : decode cX8_sees 98 = .ok (.istore 5, 2) := by decide +kernel
theorem dX8_sees_100 : decode cX8_sees 100 = .ok (.iload 5, 2) := by decide +kernel
theorem dX8_sees_102 : decode cX8_sees 102 = .ok (.bipush 63, 2) := by decide +kernel
theorem dX8_sees_104 : decode cX8_sees 104 = .ok (.if_icmp .ge 48, 3) := by decide +kernel
theorem dX8_sees_107 : decode cX8_sees 107 = .ok (.iload 4, 2) := by decide +kernel
theorem dX8_sees_109 : decode cX8_sees 109 = .ok (.ifCond .ne 30, 3) := by decide +kernel
theorem dX8_sees_112 : decode cX8_sees 112 = .ok (.aload_n 0, 1) := by decide +kernel
theorem dX8_sees_113 : decode cX8_sees 113 = .ok (.getfield 7, 3) := by decide +kernel
theorem dX8_sees_116 : decode cX8_sees 116 = .ok (.bipush 126, 2) := by decide +kernel
theorem dX8_sees_118 : decode cX8_sees 118 = .ok (.iload 5, 2) := by decide +kernel
theorem dX8_sees_120 : decode cX8_sees 120 = .ok (.iadd, 1) := by decide +kernel
theorem dX8_sees_121 : decode cX8_sees 121 = .ok (.iaload, 1) := by decide +kernel
theorem dX8_sees_122 : decode cX8_sees 122 = .ok (.iload_n 1, 1) := by decide +kernel
theorem dX8_sees_123 : decode cX8_sees 123 = .ok (.iconst 1, 1) := by decide +kernel
theorem dX8_sees_124 : decode cX8_sees 124 = .ok (.iadd, 1) := by decide +kernel
theorem dX8_sees_125 : decode cX8_sees 125 = .ok (.if_icmp .ne 18, 3) := by decide +kernel
theorem dX8_sees_128 : decode cX8_sees 128 = .ok (.aload_n 0, 1) := by decide +kernel
theorem dX8_sees_129 : decode cX8_sees 129 = .ok (.getfield 32, 3) := by decide +kernel
theorem dX8_sees_132 : decode cX8_sees 132 = .ok (.iload 5, 2) := by decide +kernel
theorem dX8_sees_134 : decode cX8_sees 134 = .ok (.iaload, 1) := by decide +kernel
theorem dX8_sees_135 : decode cX8_sees 135 = .ok (.iconst 1, 1) := by decide +kernel
theorem dX8_sees_136 : decode cX8_sees 136 = .ok (.if_icmp .gt 7, 3) := by decide +kernel
theorem dX8_sees_139 : decode cX8_sees 139 = .ok (.iconst 1, 1) := by decide +kernel
theorem dX8_sees_140 : decode cX8_sees 140 = .ok (.goto 4, 3) := by decide +kernel
theorem dX8_sees_143 : decode cX8_sees 143 = .ok (.iconst 0, 1) := by decide +kernel
theorem dX8_sees_144 : decode cX8_sees 144 = .ok (.istore 4, 2) := by decide +kernel
theorem dX8_sees_146 : decode cX8_sees 146 = .ok (.iinc 5 1, 3) := by decide +kernel
theorem dX8_sees_149 : decode cX8_sees 149 = .ok (.goto (-49), 3) := by decide +kernel
theorem dX8_sees_152 : decode cX8_sees 152 = .ok (.iload 4, 2) := by decide +kernel
theorem dX8_sees_154 : decode cX8_sees 154 = .ok (.ireturn, 1) := by decide +kernel
theorem dX8_power_0 : decode cX8_power 0 = .ok (.iconst 2, 1) := by decide +kernel
theorem dX8_power_1 : decode cX8_power 1 = .ok (.aload_n 0, 1) := by decide +kernel
theorem dX8_power_2 : decode cX8_power 2 = .ok (.iload_n 1, 1) := by decide +kernel
theorem dX8_power_3 : decode cX8_power 3 = .ok (.iconst 1, 1) := by decide +kernel
theorem dX8_power_4 : decode cX8_power 4 = .ok (.invokevirtual 52, 3) := by decide +kernel
theorem dX8_power_7 : decode cX8_power 7 = .ok (.imul, 1) := by decide +kernel
theorem dX8_power_8 : decode cX8_power 8 = .ok (.istore_n 3, 1) := by decide +kernel
theorem dX8_power_9 : decode cX8_power 9 = .ok (.aload_n 0, 1) := by decide +kernel
theorem dX8_power_10 : decode cX8_power 10 = .ok (.iload_n 1, 1) := by decide +kernel
theorem dX8_power_11 : decode cX8_power 11 = .ok (.invokevirtual 104, 3) := by decide +kernel
theorem dX8_power_14 : decode cX8_power 14 = .ok (.ifCond .eq 7, 3) := by decide +kernel
theorem dX8_power_17 : decode cX8_power 17 = .ok (.iload_n 3, 1) := by decide +kernel
theorem dX8_power_18 : decode cX8_power 18 = .ok (.goto 6, 3) := by decide +kernel
theorem dX8_power_21 : decode cX8_power 21 = .ok (.iload_n 3, 1) := by decide +kernel
theorem dX8_power_22 : decode cX8_power 22 = .ok (.iconst 2, 1) := by decide +kernel
theorem dX8_power_23 : decode cX8_power 23 = .ok (.idiv, 1) := by decide +kernel
theorem dX8_power_24 : decode cX8_power 24 = .ok (.istore_n 3, 1) := by decide +kernel
theorem dX8_power_25 : decode cX8_power 25 = .ok (.aload_n 0, 1) := by decide +kernel
theorem dX8_power_26 : decode cX8_power 26 = .ok (.aload_n 0, 1) := by decide +kernel
theorem dX8_power_27 : decode cX8_power 27 = .ok (.iload_n 1, 1) := by decide +kernel
theorem dX8_power_28 : decode cX8_power 28 = .ok (.iconst 2, 1) := by decide +kernel
theorem dX8_power_29 : decode cX8_power 29 = .ok (.invokevirtual 52, 3) := by decide +kernel
theorem dX8_power_32 : decode cX8_power 32 = .ok (.aload_n 0, 1) := by decide +kernel
theorem dX8_power_33 : decode cX8_power 33 = .ok (.iload_n 1, 1) := by decide +kernel
theorem dX8_power_34 : decode cX8_power 34 = .ok (.iconst 2, 1) := by decide +kernel
theorem dX8_power_35 : decode cX8_power 35 = .ok (.invokevirtual 52, 3) := by decide +kernel
theorem dX8_power_38 : decode cX8_power 38 = .ok (.iload_n 2, 1) := by decide +kernel
theorem dX8_power_39 : decode cX8_power 39 = .ok (.invokestatic 108, 3) := by decide +kernel
theorem dX8_power_42 : decode cX8_power 42 = .ok (.invokevirtual 77, 3) := by decide +kernel
theorem dX8_power_45 : decode cX8_power 45 = .ok (.ifCond .eq 9, 3) := by decide +kernel
theorem dX8_power_48 : decode cX8_power 48 = .ok (.iload_n 3, 1) := by decide +kernel
theorem dX8_power_49 : decode cX8_power 49 = .ok (.iconst 2, 1) := by decide +kernel
theorem dX8_power_50 : decode cX8_power 50 = .ok (.idiv, 1) := by decide +kernel
theorem dX8_power_51 : decode cX8_power 51 = .ok (.goto 4, 3) := by decide +kernel
theorem dX8_power_54 : decode cX8_power 54 = .ok (.iload_n 3, 1) := by decide +kernel
theorem dX8_power_55 : decode cX8_power 55 = .ok (.ireturn, 1) := by decide +kernel
theorem dX8_defence_0 : decode cX8_defence 0 = .ok (.aload_n 0, 1) := by decide +kernel
theorem dX8_defence_1 : decode cX8_defence 1 = .ok (.iload_n 1, 1) := by decide +kernel
theorem dX8_defence_2 : decode cX8_defence 2 = .ok (.iconst 2, 1) := by decide +kernel
theorem dX8_defence_3 : decode cX8_defence 3 = .ok (.invokevirtual 52, 3) := by decide +kernel
theorem dX8_defence_6 : decode cX8_defence 6 = .ok (.istore_n 2, 1) := by decide +kernel
theorem dX8_defence_7 : decode cX8_defence 7 = .ok (.iconst 2, 1) := by decide +kernel
theorem dX8_defence_8 : decode cX8_defence 8 = .ok (.aload_n 0, 1) := by decide +kernel
theorem dX8_defence_9 : decode cX8_defence 9 = .ok (.iload_n 1, 1) := by decide +kernel
theorem dX8_defence_10 : decode cX8_defence 10 = .ok (.iconst 1, 1) := by decide +kernel
theorem dX8_defence_11 : decode cX8_defence 11 = .ok (.invokevirtual 52, 3) := by decide +kernel
theorem dX8_defence_14 : decode cX8_defence 14 = .ok (.imul, 1) := by decide +kernel
theorem dX8_defence_15 : decode cX8_defence 15 = .ok (.istore_n 3, 1) := by decide +kernel
theorem dX8_defence_16 : decode cX8_defence 16 = .ok (.aload_n 0, 1) := by decide +kernel
theorem dX8_defence_17 : decode cX8_defence 17 = .ok (.getfield 7, 3) := by decide +kernel
theorem dX8_defence_20 : decode cX8_defence 20 = .ok (.bipush 126, 2) := by decide +kernel
theorem dX8_defence_22 : decode cX8_defence 22 = .ok (.iload_n 2, 1) := by decide +kernel
theorem dX8_defence_23 : decode cX8_defence 23 = .ok (.iadd, 1) := by decide +kernel
theorem dX8_defence_24 : decode cX8_defence 24 = .ok (.iaload, 1) := by decide +kernel
theorem dX8_defence_25 : decode cX8_defence 25 = .ok (.ifCond .le 9, 3) := by decide +kernel
theorem dX8_defence_28 : decode cX8_defence 28 = .ok (.iconst 2, 1) := by decide +kernel
theorem dX8_defence_29 : decode cX8_defence 29 = .ok (.iload_n 3, 1) := by decide +kernel
theorem dX8_defence_30 : decode cX8_defence 30 = .ok (.imul, 1) := by decide +kernel
theorem dX8_defence_31 : decode cX8_defence 31 = .ok (.goto 4, 3) := by decide +kernel
theorem dX8_defence_34 : decode cX8_defence 34 = .ok (.iload_n 3, 1) := by decide +kernel
theorem dX8_defence_35 : decode cX8_defence 35 = .ok (.istore_n 3, 1) := by decide +kernel
theorem dX8_defence_36 : decode cX8_defence 36 = .ok (.iload_n 3, 1) := by decide +kernel
theorem dX8_defence_37 : decode cX8_defence 37 = .ok (.aload_n 0, 1) := by decide +kernel
theorem dX8_defence_38 : decode cX8_defence 38 = .ok (.getfield 7, 3) := by decide +kernel
theorem dX8_defence_41 : decode cX8_defence 41 = .ok (.iconst 0, 1) := by decide +kernel
theorem dX8_defence_42 : decode cX8_defence 42 = .ok (.iload_n 2, 1) := by decide +kernel
theorem dX8_defence_43 : decode cX8_defence 43 = .ok (.iadd, 1) := by decide +kernel
theorem dX8_defence_44 : decode cX8_defence 44 = .ok (.iaload, 1) := by decide +kernel
theorem dX8_defence_45 : decode cX8_defence 45 = .ok (.ifCond .le 7, 3) := by decide +kernel
theorem dX8_defence_48 : decode cX8_defence 48 = .ok (.iconst 2, 1) := by decide +kernel
theorem dX8_defence_49 : decode cX8_defence 49 = .ok (.goto 4, 3) := by decide +kernel
theorem dX8_defence_52 : decode cX8_defence 52 = .ok (.iconst 0, 1) := by decide +kernel
theorem dX8_defence_53 : decode cX8_defence 53 = .ok (.iadd, 1) := by decide +kernel
theorem dX8_defence_54 : decode cX8_defence 54 = .ok (.istore_n 3, 1) := by decide +kernel
theorem dX8_defence_55 : decode cX8_defence 55 = .ok (.aload_n 0, 1) := by decide +kernel
theorem dX8_defence_56 : decode cX8_defence 56 = .ok (.iload_n 1, 1) := by decide +kernel
theorem dX8_defence_57 : decode cX8_defence 57 = .ok (.invokevirtual 104, 3) := by decide +kernel
theorem dX8_defence_60 : decode cX8_defence 60 = .ok (.ifCond .eq 7, 3) := by decide +kernel
theorem dX8_defence_63 : decode cX8_defence 63 = .ok (.iload_n 3, 1) := by decide +kernel
theorem dX8_defence_64 : decode cX8_defence 64 = .ok (.goto 6, 3) := by decide +kernel
theorem dX8_defence_67 : decode cX8_defence 67 = .ok (.iload_n 3, 1) := by decide +kernel
theorem dX8_defence_68 : decode cX8_defence 68 = .ok (.iconst 2, 1) := by decide +kernel
theorem dX8_defence_69 : decode cX8_defence 69 = .ok (.idiv, 1) := by decide +kernel
theorem dX8_defence_70 : decode cX8_defence 70 = .ok (.ireturn, 1) := by decide +kernel
theorem dX8_weakened_0 : decode cX8_weakened 0 = .ok (.aload_n 0, 1) := by decide +kernel
theorem dX8_weakened_1 : decode cX8_weakened 1 = .ok (.iload_n 1, 1) := by decide +kernel
theorem dX8_weakened_2 : decode cX8_weakened 2 = .ok (.iconst 1, 1) := by decide +kernel
theorem dX8_weakened_3 : decode cX8_weakened 3 = .ok (.invokevirtual 52, 3) := by decide +kernel
theorem dX8_weakened_6 : decode cX8_weakened 6 = .ok (.iconst 1, 1) := by decide +kernel
theorem dX8_weakened_7 : decode cX8_weakened 7 = .ok (.isub, 1) := by decide +kernel
theorem dX8_weakened_8 : decode cX8_weakened 8 = .ok (.iload_n 2, 1) := by decide +kernel
theorem dX8_weakened_9 : decode cX8_weakened 9 = .ok (.iconst 4, 1) := by decide +kernel
theorem dX8_weakened_10 : decode cX8_weakened 10 = .ok (.idiv, 1) := by decide +kernel
theorem dX8_weakened_11 : decode cX8_weakened 11 = .ok (.isub, 1) := by decide +kernel
theorem dX8_weakened_12 : decode cX8_weakened 12 = .ok (.istore_n 3, 1) := by decide +kernel
theorem dX8_weakened_13 : decode cX8_weakened 13 = .ok (.iload_n 3, 1) := by decide +kernel
theorem dX8_weakened_14 : decode cX8_weakened 14 = .ok (.ifCond .ge 7, 3) := by decide +kernel
theorem dX8_weakened_17 : decode cX8_weakened 17 = .ok (.iconst 0, 1) := by decide +kernel
theorem dX8_weakened_18 : decode cX8_weakened 18 = .ok (.goto 4, 3) := by decide +kernel
theorem dX8_weakened_21 : decode cX8_weakened 21 = .ok (.iload_n 3, 1) := by decide +kernel
theorem dX8_weakened_22 : decode cX8_weakened 22 = .ok (.ireturn, 1) := by decide +kernel
theorem dX8_canFight_0 : decode cX8_canFight 0 = .ok (.aload_n 0, 1) := by decide +kernel
theorem dX8_canFight_1 : decode cX8_canFight 1 = .ok (.iload_n 2, 1) := by decide +kernel
theorem dX8_canFight_2 : decode cX8_canFight 2 = .ok (.iconst 1, 1) := by decide +kernel
theorem dX8_canFight_3 : decode cX8_canFight 3 = .ok (.aload_n 0, 1) := by decide +kernel
theorem dX8_canFight_4 : decode cX8_canFight 4 = .ok (.iload_n 1, 1) := by decide +kernel
theorem dX8_canFight_5 : decode cX8_canFight 5 = .ok (.iconst 0, 1) := by decide +kernel
theorem dX8_canFight_6 : decode cX8_canFight 6 = .ok (.invokevirtual 52, 3) := by decide +kernel
theorem dX8_canFight_9 : decode cX8_canFight 9 = .ok (.isub, 1) := by decide +kernel
theorem dX8_canFight_10 : decode cX8_canFight 10 = .ok (.invokevirtual 66, 3) := by decide +kernel
theorem dX8_canFight_13 : decode cX8_canFight 13 = .ok (.ifCond .eq 22, 3) := by decide +kernel
theorem dX8_canFight_16 : decode cX8_canFight 16 = .ok (.aload_n 0, 1) := by decide +kernel
theorem dX8_canFight_17 : decode cX8_canFight 17 = .ok (.iload_n 1, 1) := by decide +kernel
theorem dX8_canFight_18 : decode cX8_canFight 18 = .ok (.iconst 2, 1) := by decide +kernel
theorem dX8_canFight_19 : decode cX8_canFight 19 = .ok (.invokevirtual 52, 3) := by decide +kernel
theorem dX8_canFight_22 : decode cX8_canFight 22 = .ok (.iload_n 2, 1) := by decide +kernel
theorem dX8_canFight_23 : decode cX8_canFight 23 = .ok (.invokestatic 108, 3) := by decide +kernel
theorem dX8_canFight_26 : decode cX8_canFight 26 = .ok (.bipush (-5), 2) := by decide +kernel
theorem dX8_canFight_28 : decode cX8_canFight 28 = .ok (.if_icmp .eq 7, 3) := by decide +kernel
theorem dX8_canFight_31 : decode cX8_canFight 31 = .ok (.iconst 1, 1) := by decide +kernel
theorem dX8_canFight_32 : decode cX8_canFight 32 = .ok (.goto 4, 3) := by decide +kernel
theorem dX8_canFight_35 : decode cX8_canFight 35 = .ok (.iconst 0, 1) := by decide +kernel
theorem dX8_canFight_36 : decode cX8_canFight 36 = .ok (.ireturn, 1) := by decide +kernel
theorem dX8_fights_0 : decode cX8_fights 0 = .ok (.aload_n 0, 1) := by decide +kernel
theorem dX8_fights_1 : decode cX8_fights 1 = .ok (.iload_n 2, 1) := by decide +kernel
theorem dX8_fights_2 : decode cX8_fights 2 = .ok (.invokevirtual 62, 3) := by decide +kernel
theorem dX8_fights_5 : decode cX8_fights 5 = .ok (.istore_n 3, 1) := by decide +kernel
theorem dX8_fights_6 : decode cX8_fights 6 = .ok (.aload_n 0, 1) := by decide +kernel
theorem dX8_fights_7 : decode cX8_fights 7 = .ok (.iload_n 1, 1) := by decide +kernel
theorem dX8_fights_8 : decode cX8_fights 8 = .ok (.iload_n 2, 1) := by decide +kernel
theorem dX8_fights_9 : decode cX8_fights 9 = .ok (.invokevirtual 111, 3) := by decide +kernel
theorem dX8_fights_12 : decode cX8_fights 12 = .ok (.istore 4, 2) := by decide +kernel
theorem dX8_fights_14 : decode cX8_fights 14 = .ok (.aload_n 0, 1) := by decide +kernel
theorem dX8_fights_15 : decode cX8_fights 15 = .ok (.iload_n 3, 1) := by decide +kernel
theorem dX8_fights_16 : decode cX8_fights 16 = .ok (.invokevirtual 114, 3) := by decide +kernel
theorem dX8_fights_19 : decode cX8_fights 19 = .ok (.istore 5, 2) := by decide +kernel
theorem dX8_fights_21 : decode cX8_fights 21 = .ok (.aload_n 0, 1) := by decide +kernel
theorem dX8_fights_22 : decode cX8_fights 22 = .ok (.iload_n 1, 1) := by decide +kernel
theorem dX8_fights_23 : decode cX8_fights 23 = .ok (.iconst 4, 1) := by decide +kernel
theorem dX8_fights_24 : decode cX8_fights 24 = .ok (.iconst 0, 1) := by decide +kernel
theorem dX8_fights_25 : decode cX8_fights 25 = .ok (.invokevirtual 73, 3) := by decide +kernel
theorem dX8_fights_28 : decode cX8_fights 28 = .ok (.iload 4, 2) := by decide +kernel
theorem dX8_fights_30 : decode cX8_fights 30 = .ok (.iload 5, 2) := by decide +kernel
theorem dX8_fights_32 : decode cX8_fights 32 = .ok (.if_icmp .le 37, 3) := by decide +kernel
theorem dX8_fights_35 : decode cX8_fights 35 = .ok (.aload_n 0, 1) := by decide +kernel
theorem dX8_fights_36 : decode cX8_fights 36 = .ok (.iload_n 3, 1) := by decide +kernel
theorem dX8_fights_37 : decode cX8_fights 37 = .ok (.iconst 1, 1) := by decide +kernel
theorem dX8_fights_38 : decode cX8_fights 38 = .ok (.aload_n 0, 1) := by decide +kernel
theorem dX8_fights_39 : decode cX8_fights 39 = .ok (.iload_n 3, 1) := by decide +kernel
theorem dX8_fights_40 : decode cX8_fights 40 = .ok (.iload 4, 2) := by decide +kernel
theorem dX8_fights_42 : decode cX8_fights 42 = .ok (.iload 5, 2) := by decide +kernel
theorem dX8_fights_44 : decode cX8_fights 44 = .ok (.isub, 1) := by decide +kernel
theorem dX8_fights_45 : decode cX8_fights 45 = .ok (.invokevirtual 117, 3) := by decide +kernel
theorem dX8_fights_48 : decode cX8_fights 48 = .ok (.invokevirtual 73, 3) := by decide +kernel
theorem dX8_fights_51 : decode cX8_fights 51 = .ok (.aload_n 0, 1) := by decide +kernel
theorem dX8_fights_52 : decode cX8_fights 52 = .ok (.iload_n 3, 1) := by decide +kernel
theorem dX8_fights_53 : decode cX8_fights 53 = .ok (.iconst 1, 1) := by decide +kernel
theorem dX8_fights_54 : decode cX8_fights 54 = .ok (.invokevirtual 52, 3) := by decide +kernel
theorem dX8_fights_57 : decode cX8_fights 57 = .ok (.ifCond .ne 28, 3) := by decide +kernel
theorem dX8_fights_60 : decode cX8_fights 60 = .ok (.aload_n 0, 1) := by decide +kernel
theorem dX8_fights_61 : decode cX8_fights 61 = .ok (.iload_n 1, 1) := by decide +kernel
theorem dX8_fights_62 : decode cX8_fights 62 = .ok (.iload_n 2, 1) := by decide +kernel
theorem dX8_fights_63 : decode cX8_fights 63 = .ok (.invokevirtual 120, 3) := by decide +kernel
theorem dX8_fights_66 : decode cX8_fights 66 = .ok (.goto 19, 3) := by decide +kernel
theorem dX8_fights_69 : decode cX8_fights 69 = .ok (.aload_n 0, 1) := by decide +kernel
theorem dX8_fights_70 : decode cX8_fights 70 = .ok (.iload_n 1, 1) := by decide +kernel
theorem dX8_fights_71 : decode cX8_fights 71 = .ok (.iconst 1, 1) := by decide +kernel
theorem dX8_fights_72 : decode cX8_fights 72 = .ok (.aload_n 0, 1) := by decide +kernel
theorem dX8_fights_73 : decode cX8_fights 73 = .ok (.iload_n 1, 1) := by decide +kernel
theorem dX8_fights_74 : decode cX8_fights 74 = .ok (.iload 5, 2) := by decide +kernel
theorem dX8_fights_76 : decode cX8_fights 76 = .ok (.iload 4, 2) := by decide +kernel
theorem dX8_fights_78 : decode cX8_fights 78 = .ok (.isub, 1) := by decide +kernel
theorem dX8_fights_79 : decode cX8_fights 79 = .ok (.invokevirtual 117, 3) := by decide +kernel
theorem dX8_fights_82 : decode cX8_fights 82 = .ok (.invokevirtual 73, 3) := by decide +kernel
theorem dX8_fights_85 : decode cX8_fights 85 = .ok (.aload_n 0, 1) := by decide +kernel
theorem dX8_fights_86 : decode cX8_fights 86 = .ok (.iload_n 3, 1) := by decide +kernel
theorem dX8_fights_87 : decode cX8_fights 87 = .ok (.iconst 1, 1) := by decide +kernel
theorem dX8_fights_88 : decode cX8_fights 88 = .ok (.invokevirtual 52, 3) := by decide +kernel
theorem dX8_fights_91 : decode cX8_fights 91 = .ok (.ireturn, 1) := by decide +kernel
theorem dX8_ground_0 : decode cX8_ground 0 = .ok (.aload_n 0, 1) := by decide +kernel
theorem dX8_ground_1 : decode cX8_ground 1 = .ok (.iconst 0, 1) := by decide +kernel
theorem dX8_ground_2 : decode cX8_ground 2 = .ok (.putfield 44, 3) := by decide +kernel
theorem dX8_ground_5 : decode cX8_ground 5 = .ok (.iload_n 1, 1) := by decide +kernel
theorem dX8_ground_6 : decode cX8_ground 6 = .ok (.invokestatic 124, 3) := by decide +kernel
theorem dX8_ground_9 : decode cX8_ground 9 = .ok (.ifCond .ne 5, 3) := by decide +kernel
theorem dX8_ground_12 : decode cX8_ground 12 = .ok (.iconst (-1), 1) := by decide +kernel
theorem dX8_ground_13 : decode cX8_ground 13 = .ok (.ireturn, 1) := by decide +kernel
theorem dX8_ground_14 : decode cX8_ground 14 = .ok (.iload_n 2, 1) := by decide +kernel
theorem dX8_ground_15 : decode cX8_ground 15 = .ok (.iconst 0, 1) := by decide +kernel
theorem dX8_ground_16 : decode cX8_ground 16 = .ok (.iconst 2, 1) := by decide +kernel
theorem dX8_ground_17 : decode cX8_ground 17 = .ok (.invokestatic 48, 3) := by decide +kernel
theorem dX8_ground_20 : decode cX8_ground 20 = .ok (.ifCond .ne 6, 3) := by decide +kernel
theorem dX8_ground_23 : decode cX8_ground 23 = .ok (.bipush (-2), 2) := by decide +kernel
theorem dX8_ground_25 : decode cX8_ground 25 = .ok (.ireturn, 1) := by decide +kernel
theorem dX8_ground_26 : decode cX8_ground 26 = .ok (.aload_n 0, 1) := by decide +kernel
theorem dX8_ground_27 : decode cX8_ground 27 = .ok (.getfield 7, 3) := by decide +kernel
theorem dX8_ground_30 : decode cX8_ground 30 = .ok (.iconst 0, 1) := by decide +kernel
theorem dX8_ground_31 : decode cX8_ground 31 = .ok (.iload_n 1, 1) := by decide +kernel
theorem dX8_ground_32 : decode cX8_ground 32 = .ok (.iadd, 1) := by decide +kernel
theorem dX8_ground_33 : decode cX8_ground 33 = .ok (.iaload, 1) := by decide +kernel
theorem dX8_ground_34 : decode cX8_ground 34 = .ok (.istore_n 3, 1) := by decide +kernel
theorem dX8_ground_35 : decode cX8_ground 35 = .ok (.iload_n 3, 1) := by decide +kernel
theorem dX8_ground_36 : decode cX8_ground 36 = .ok (.iload_n 2, 1) := by decide +kernel
theorem dX8_ground_37 : decode cX8_ground 37 = .ok (.if_icmp .ne 6, 3) := by decide +kernel
theorem dX8_ground_40 : decode cX8_ground 40 = .ok (.bipush (-5), 2) := by decide +kernel
theorem dX8_ground_42 : decode cX8_ground 42 = .ok (.ireturn, 1) := by decide +kernel
theorem dX8_ground_43 : decode cX8_ground 43 = .ok (.aload_n 0, 1) := by decide +kernel
theorem dX8_ground_44 : decode cX8_ground 44 = .ok (.invokevirtual 127, 3) := by decide +kernel
theorem dX8_ground_47 : decode cX8_ground 47 = .ok (.aload_n 0, 1) := by decide +kernel
theorem dX8_ground_48 : decode cX8_ground 48 = .ok (.getfield 7, 3) := by decide +kernel
theorem dX8_ground_51 : decode cX8_ground 51 = .ok (.iconst 0, 1) := by decide +kernel
theorem dX8_ground_52 : decode cX8_ground 52 = .ok (.iload_n 1, 1) := by decide +kernel
theorem dX8_ground_53 : decode cX8_ground 53 = .ok (.iadd, 1) := by decide +kernel
theorem dX8_ground_54 : decode cX8_ground 54 = .ok (.iload_n 2, 1) := by decide +kernel
theorem dX8_ground_55 : decode cX8_ground 55 = .ok (.iastore, 1) := by decide +kernel
theorem dX8_ground_56 : decode cX8_ground 56 = .ok (.iload_n 3, 1) := by decide +kernel
theorem dX8_ground_57 : decode cX8_ground 57 = .ok (.ireturn, 1) := by decide +kernel
theorem dX8_rivers_0 : decode cX8_rivers 0 = .ok (.iconst 0, 1) := by decide +kernel
theorem dX8_rivers_1 : decode cX8_rivers 1 = .ok (.istore_n 1, 1) := by decide +kernel
theorem dX8_rivers_2 : decode cX8_rivers 2 = .ok (.iconst 0, 1) := by decide +kernel
theorem dX8_rivers_3 : decode cX8_rivers 3 = .ok (.istore_n 2, 1) := by decide +kernel
theorem dX8_rivers_4 : decode cX8_rivers 4 = .ok (.iload_n 2, 1) := by decide +kernel
theorem dX8_rivers_5 : decode cX8_rivers 5 = .ok (.bipush 63, 2) := by decide +kernel
theorem dX8_rivers_7 : decode cX8_rivers 7 = .ok (.if_icmp .ge 39, 3) := by decide +kernel
theorem dX8_rivers_10 : decode cX8_rivers 10 = .ok (.iconst 0, 1) := by decide +kernel
theorem dX8_rivers_11 : decode cX8_rivers 11 = .ok (.istore_n 3, 1) := by decide +kernel
theorem dX8_rivers_12 : decode cX8_rivers 12 = .ok (.iload_n 3, 1) := by decide +kernel
theorem dX8_rivers_13 : decode cX8_rivers 13 = .ok (.iconst 3, 1) := by decide +kernel
theorem dX8_rivers_14 : decode cX8_rivers 14 = .ok (.if_icmp .ge 26, 3) := by decide +kernel
theorem dX8_rivers_17 : decode cX8_rivers 17 = .ok (.iload_n 1, 1) := by decide +kernel
theorem dX8_rivers_18 : decode cX8_rivers 18 = .ok (.aload_n 0, 1) := by decide +kernel
theorem dX8_rivers_19 : decode cX8_rivers 19 = .ok (.iload_n 2, 1) := by decide +kernel
theorem dX8_rivers_20 : decode cX8_rivers 20 = .ok (.iload_n 3, 1) := by decide +kernel
theorem dX8_rivers_21 : decode cX8_rivers 21 = .ok (.invokevirtual 77, 3) := by decide +kernel
theorem dX8_rivers_24 : decode cX8_rivers 24 = .ok (.ifCond .eq 7, 3) := by decide +kernel
theorem dX8_rivers_27 : decode cX8_rivers 27 = .ok (.iconst 1, 1) := by decide +kernel
theorem dX8_rivers_28 : decode cX8_rivers 28 = .ok (.goto 4, 3) := by decide +kernel
theorem dX8_rivers_31 : decode cX8_rivers 31 = .ok (.iconst 0, 1) := by decide +kernel
theorem dX8_rivers_32 : decode cX8_rivers 32 = .ok (.iadd, 1) := by decide +kernel
theorem dX8_rivers_33 : decode cX8_rivers 33 = .ok (.istore_n 1, 1) := by decide +kernel
theorem dX8_rivers_34 : decode cX8_rivers 34 = .ok (.iinc 3 1, 3) := by decide +kernel
theorem dX8_rivers_37 : decode cX8_rivers 37 = .ok (.goto (-25), 3) := by decide +kernel
theorem dX8_rivers_40 : decode cX8_rivers 40 = .ok (.iinc 2 1, 3) := by decide +kernel
theorem dX8_rivers_43 : decode cX8_rivers 43 = .ok (.goto (-39), 3) := by decide +kernel
theorem dX8_rivers_46 : decode cX8_rivers 46 = .ok (.iload_n 1, 1) := by decide +kernel
theorem dX8_rivers_47 : decode cX8_rivers 47 = .ok (.ireturn, 1) := by decide +kernel
theorem dX8_river_0 : decode cX8_river 0 = .ok (.aload_n 0, 1) := by decide +kernel
theorem dX8_river_1 : decode cX8_river 1 = .ok (.iconst 0, 1) := by decide +kernel
theorem dX8_river_2 : decode cX8_river 2 = .ok (.putfield 44, 3) := by decide +kernel
theorem dX8_river_5 : decode cX8_river 5 = .ok (.iload_n 1, 1) := by decide +kernel
theorem dX8_river_6 : decode cX8_river 6 = .ok (.invokestatic 124, 3) := by decide +kernel
theorem dX8_river_9 : decode cX8_river 9 = .ok (.ifCond .ne 5, 3) := by decide +kernel
theorem dX8_river_12 : decode cX8_river 12 = .ok (.iconst (-1), 1) := by decide +kernel
theorem dX8_river_13 : decode cX8_river 13 = .ok (.ireturn, 1) := by decide +kernel
theorem dX8_river_14 : decode cX8_river 14 = .ok (.iload_n 2, 1) := by decide +kernel
theorem dX8_river_15 : decode cX8_river 15 = .ok (.iconst 0, 1) := by decide +kernel
theorem dX8_river_16 : decode cX8_river 16 = .ok (.iconst 5, 1) := by decide +kernel
theorem dX8_river_17 : decode cX8_river 17 = .ok (.invokestatic 48, 3) := by decide +kernel
theorem dX8_river_20 : decode cX8_river 20 = .ok (.ifCond .ne 6, 3) := by decide +kernel
theorem dX8_river_23 : decode cX8_river 23 = .ok (.bipush (-2), 2) := by decide +kernel
theorem dX8_river_25 : decode cX8_river 25 = .ok (.ireturn, 1) := by decide +kernel
theorem dX8_river_26 : decode cX8_river 26 = .ok (.iload_n 1, 1) := by decide +kernel
theorem dX8_river_27 : decode cX8_river 27 = .ok (.iload_n 2, 1) := by decide +kernel
theorem dX8_river_28 : decode cX8_river 28 = .ok (.invokestatic 59, 3) := by decide +kernel
theorem dX8_river_31 : decode cX8_river 31 = .ok (.istore 4, 2) := by decide +kernel
theorem dX8_river_33 : decode cX8_river 33 = .ok (.iload 4, 2) := by decide +kernel
theorem dX8_river_35 : decode cX8_river 35 = .ok (.bipush (-5), 2) := by decide +kernel
theorem dX8_river_37 : decode cX8_river 37 = .ok (.if_icmp .ne 6, 3) := by decide +kernel
theorem dX8_river_40 : decode cX8_river 40 = .ok (.bipush (-4), 2) := by decide +kernel
theorem dX8_river_42 : decode cX8_river 42 = .ok (.ireturn, 1) := by decide +kernel
theorem dX8_river_43 : decode cX8_river 43 = .ok (.aload_n 0, 1) := by decide +kernel
theorem dX8_river_44 : decode cX8_river 44 = .ok (.iload_n 1, 1) := by decide +kernel
theorem dX8_river_45 : decode cX8_river 45 = .ok (.iload_n 2, 1) := by decide +kernel
theorem dX8_river_46 : decode cX8_river 46 = .ok (.invokevirtual 77, 3) := by decide +kernel
theorem dX8_river_49 : decode cX8_river 49 = .ok (.iload_n 3, 1) := by decide +kernel
theorem dX8_river_50 : decode cX8_river 50 = .ok (.if_icmp .ne 6, 3) := by decide +kernel
theorem dX8_river_53 : decode cX8_river 53 = .ok (.bipush (-5), 2) := by decide +kernel
theorem dX8_river_55 : decode cX8_river 55 = .ok (.ireturn, 1) := by decide +kernel
theorem dX8_river_56 : decode cX8_river 56 = .ok (.aload_n 0, 1) := by decide +kernel
theorem dX8_river_57 : decode cX8_river 57 = .ok (.invokevirtual 127, 3) := by decide +kernel
theorem dX8_river_60 : decode cX8_river 60 = .ok (.aload_n 0, 1) := by decide +kernel
theorem dX8_river_61 : decode cX8_river 61 = .ok (.getfield 7, 3) := by decide +kernel
theorem dX8_river_64 : decode cX8_river 64 = .ok (.bipush 63, 2) := by decide +kernel
theorem dX8_river_66 : decode cX8_river 66 = .ok (.iload_n 1, 1) := by decide +kernel
theorem dX8_river_67 : decode cX8_river 67 = .ok (.iadd, 1) := by decide +kernel
theorem dX8_river_68 : decode cX8_river 68 = .ok (.dup2, 1) := by decide +kernel
theorem dX8_river_69 : decode cX8_river 69 = .ok (.iaload, 1) := by decide +kernel
theorem dX8_river_70 : decode cX8_river 70 = .ok (.iconst 1, 1) := by decide +kernel
theorem dX8_river_71 : decode cX8_river 71 = .ok (.iload_n 2, 1) := by decide +kernel
theorem dX8_river_72 : decode cX8_river 72 = .ok (.ishl, 1) := by decide +kernel
theorem dX8_river_73 : decode cX8_river 73 = .ok (.ixor, 1) := by decide +kernel
theorem dX8_river_74 : decode cX8_river 74 = .ok (.iastore, 1) := by decide +kernel
theorem dX8_river_75 : decode cX8_river 75 = .ok (.aload_n 0, 1) := by decide +kernel
theorem dX8_river_76 : decode cX8_river 76 = .ok (.getfield 7, 3) := by decide +kernel
theorem dX8_river_79 : decode cX8_river 79 = .ok (.bipush 63, 2) := by decide +kernel
theorem dX8_river_81 : decode cX8_river 81 = .ok (.iload 4, 2) := by decide +kernel
theorem dX8_river_83 : decode cX8_river 83 = .ok (.iadd, 1) := by decide +kernel
theorem dX8_river_84 : decode cX8_river 84 = .ok (.dup2, 1) := by decide +kernel
theorem dX8_river_85 : decode cX8_river 85 = .ok (.iaload, 1) := by decide +kernel
theorem dX8_river_86 : decode cX8_river 86 = .ok (.iconst 1, 1) := by decide +kernel
theorem dX8_river_87 : decode cX8_river 87 = .ok (.iload_n 2, 1) := by decide +kernel
theorem dX8_river_88 : decode cX8_river 88 = .ok (.iconst 3, 1) := by decide +kernel
theorem dX8_river_89 : decode cX8_river 89 = .ok (.iadd, 1) := by decide +kernel
theorem dX8_river_90 : decode cX8_river 90 = .ok (.bipush 6, 2) := by decide +kernel
theorem dX8_river_92 : decode cX8_river 92 = .ok (.irem, 1) := by decide +kernel
theorem dX8_river_93 : decode cX8_river 93 = .ok (.ishl, 1) := by decide +kernel
theorem dX8_river_94 : decode cX8_river 94 = .ok (.ixor, 1) := by decide +kernel
theorem dX8_river_95 : decode cX8_river 95 = .ok (.iastore, 1) := by decide +kernel
theorem dX8_river_96 : decode cX8_river 96 = .ok (.aload_n 0, 1) := by decide +kernel
theorem dX8_river_97 : decode cX8_river 97 = .ok (.invokevirtual 130, 3) := by decide +kernel
theorem dX8_river_100 : decode cX8_river 100 = .ok (.ireturn, 1) := by decide +kernel
theorem dX8_forts_0 : decode cX8_forts 0 = .ok (.iconst 0, 1) := by decide +kernel
theorem dX8_forts_1 : decode cX8_forts 1 = .ok (.istore_n 2, 1) := by decide +kernel
theorem dX8_forts_2 : decode cX8_forts 2 = .ok (.iconst 0, 1) := by decide +kernel
theorem dX8_forts_3 : decode cX8_forts 3 = .ok (.istore_n 3, 1) := by decide +kernel
theorem dX8_forts_4 : decode cX8_forts 4 = .ok (.iload_n 3, 1) := by decide +kernel
theorem dX8_forts_5 : decode cX8_forts 5 = .ok (.bipush 63, 2) := by decide +kernel
theorem dX8_forts_7 : decode cX8_forts 7 = .ok (.if_icmp .ge 32, 3) := by decide +kernel
theorem dX8_forts_10 : decode cX8_forts 10 = .ok (.iload_n 2, 1) := by decide +kernel
theorem dX8_forts_11 : decode cX8_forts 11 = .ok (.aload_n 0, 1) := by decide +kernel
theorem dX8_forts_12 : decode cX8_forts 12 = .ok (.getfield 7, 3) := by decide +kernel
theorem dX8_forts_15 : decode cX8_forts 15 = .ok (.bipush 126, 2) := by decide +kernel
theorem dX8_forts_17 : decode cX8_forts 17 = .ok (.iload_n 3, 1) := by decide +kernel
theorem dX8_forts_18 : decode cX8_forts 18 = .ok (.iadd, 1) := by decide +kernel
theorem dX8_forts_19 : decode cX8_forts 19 = .ok (.iaload, 1) := by decide +kernel
theorem dX8_forts_20 : decode cX8_forts 20 = .ok (.iload_n 1, 1) := by decide +kernel
theorem dX8_forts_21 : decode cX8_forts 21 = .ok (.iconst 1, 1) := by decide +kernel
theorem dX8_forts_22 : decode cX8_forts 22 = .ok (.iadd, 1) := by decide +kernel
theorem dX8_forts_23 : decode cX8_forts 23 = .ok (.if_icmp .ne 7, 3) := by decide +kernel
theorem dX8_forts_26 : decode cX8_forts 26 = .ok (.iconst 1, 1) := by decide +kernel
theorem dX8_forts_27 : decode cX8_forts 27 = .ok (.goto 4, 3) := by decide +kernel
theorem dX8_forts_30 : decode cX8_forts 30 = .ok (.iconst 0, 1) := by decide +kernel
theorem dX8_forts_31 : decode cX8_forts 31 = .ok (.iadd, 1) := by decide +kernel
theorem dX8_forts_32 : decode cX8_forts 32 = .ok (.istore_n 2, 1) := by decide +kernel
theorem dX8_forts_33 : decode cX8_forts 33 = .ok (.iinc 3 1, 3) := by decide +kernel
theorem dX8_forts_36 : decode cX8_forts 36 = .ok (.goto (-32), 3) := by decide +kernel
theorem dX8_forts_39 : decode cX8_forts 39 = .ok (.iload_n 2, 1) := by decide +kernel
theorem dX8_forts_40 : decode cX8_forts 40 = .ok (.ireturn, 1) := by decide +kernel
theorem dX8_fort_0 : decode cX8_fort 0 = .ok (.aload_n 0, 1) := by decide +kernel
theorem dX8_fort_1 : decode cX8_fort 1 = .ok (.iconst 0, 1) := by decide +kernel
theorem dX8_fort_2 : decode cX8_fort 2 = .ok (.putfield 44, 3) := by decide +kernel
theorem dX8_fort_5 : decode cX8_fort 5 = .ok (.iload_n 1, 1) := by decide +kernel
theorem dX8_fort_6 : decode cX8_fort 6 = .ok (.invokestatic 124, 3) := by decide +kernel
theorem dX8_fort_9 : decode cX8_fort 9 = .ok (.ifCond .ne 5, 3) := by decide +kernel
theorem dX8_fort_12 : decode cX8_fort 12 = .ok (.iconst (-1), 1) := by decide +kernel
theorem dX8_fort_13 : decode cX8_fort 13 = .ok (.ireturn, 1) := by decide +kernel
theorem dX8_fort_14 : decode cX8_fort 14 = .ok (.iload_n 2, 1) := by decide +kernel
theorem dX8_fort_15 : decode cX8_fort 15 = .ok (.iconst 0, 1) := by decide +kernel
theorem dX8_fort_16 : decode cX8_fort 16 = .ok (.iconst 2, 1) := by decide +kernel
theorem dX8_fort_17 : decode cX8_fort 17 = .ok (.invokestatic 48, 3) := by decide +kernel
theorem dX8_fort_20 : decode cX8_fort 20 = .ok (.ifCond .ne 6, 3) := by decide +kernel
theorem dX8_fort_23 : decode cX8_fort 23 = .ok (.bipush (-2), 2) := by decide +kernel
theorem dX8_fort_25 : decode cX8_fort 25 = .ok (.ireturn, 1) := by decide +kernel
theorem dX8_fort_26 : decode cX8_fort 26 = .ok (.aload_n 0, 1) := by decide +kernel
theorem dX8_fort_27 : decode cX8_fort 27 = .ok (.getfield 7, 3) := by decide +kernel
theorem dX8_fort_30 : decode cX8_fort 30 = .ok (.bipush 126, 2) := by decide +kernel
theorem dX8_fort_32 : decode cX8_fort 32 = .ok (.iload_n 1, 1) := by decide +kernel
theorem dX8_fort_33 : decode cX8_fort 33 = .ok (.iadd, 1) := by decide +kernel
theorem dX8_fort_34 : decode cX8_fort 34 = .ok (.iaload, 1) := by decide +kernel
theorem dX8_fort_35 : decode cX8_fort 35 = .ok (.ifCond .ne 7, 3) := by decide +kernel
theorem dX8_fort_38 : decode cX8_fort 38 = .ok (.iconst 1, 1) := by decide +kernel
theorem dX8_fort_39 : decode cX8_fort 39 = .ok (.goto 4, 3) := by decide +kernel
theorem dX8_fort_42 : decode cX8_fort 42 = .ok (.iconst 0, 1) := by decide +kernel
theorem dX8_fort_43 : decode cX8_fort 43 = .ok (.iload_n 2, 1) := by decide +kernel
theorem dX8_fort_44 : decode cX8_fort 44 = .ok (.iconst 2, 1) := by decide +kernel
theorem dX8_fort_45 : decode cX8_fort 45 = .ok (.if_icmp .ne 7, 3) := by decide +kernel
theorem dX8_fort_48 : decode cX8_fort 48 = .ok (.iconst 1, 1) := by decide +kernel
theorem dX8_fort_49 : decode cX8_fort 49 = .ok (.goto 4, 3) := by decide +kernel
theorem dX8_fort_52 : decode cX8_fort 52 = .ok (.iconst 0, 1) := by decide +kernel
theorem dX8_fort_53 : decode cX8_fort 53 = .ok (.if_icmp .ne 6, 3) := by decide +kernel
theorem dX8_fort_56 : decode cX8_fort 56 = .ok (.bipush (-5), 2) := by decide +kernel
theorem dX8_fort_58 : decode cX8_fort 58 = .ok (.ireturn, 1) := by decide +kernel
theorem dX8_fort_59 : decode cX8_fort 59 = .ok (.aload_n 0, 1) := by decide +kernel
theorem dX8_fort_60 : decode cX8_fort 60 = .ok (.invokevirtual 127, 3) := by decide +kernel
theorem dX8_fort_63 : decode cX8_fort 63 = .ok (.aload_n 0, 1) := by decide +kernel
theorem dX8_fort_64 : decode cX8_fort 64 = .ok (.iload_n 1, 1) := by decide +kernel
theorem dX8_fort_65 : decode cX8_fort 65 = .ok (.invokevirtual 62, 3) := by decide +kernel
theorem dX8_fort_68 : decode cX8_fort 68 = .ok (.istore_n 3, 1) := by decide +kernel
theorem dX8_fort_69 : decode cX8_fort 69 = .ok (.aload_n 0, 1) := by decide +kernel
theorem dX8_fort_70 : decode cX8_fort 70 = .ok (.getfield 7, 3) := by decide +kernel
theorem dX8_fort_73 : decode cX8_fort 73 = .ok (.bipush 126, 2) := by decide +kernel
theorem dX8_fort_75 : decode cX8_fort 75 = .ok (.iload_n 1, 1) := by decide +kernel
theorem dX8_fort_76 : decode cX8_fort 76 = .ok (.iadd, 1) := by decide +kernel
theorem dX8_fort_77 : decode cX8_fort 77 = .ok (.iload_n 2, 1) := by decide +kernel
theorem dX8_fort_78 : decode cX8_fort 78 = .ok (.iconst 2, 1) := by decide +kernel
theorem dX8_fort_79 : decode cX8_fort 79 = .ok (.if_icmp .ne 7, 3) := by decide +kernel
theorem dX8_fort_82 : decode cX8_fort 82 = .ok (.iconst 0, 1) := by decide +kernel
theorem dX8_fort_83 : decode cX8_fort 83 = .ok (.goto 23, 3) := by decide +kernel
theorem dX8_fort_86 : decode cX8_fort 86 = .ok (.iload_n 3, 1) := by decide +kernel
theorem dX8_fort_87 : decode cX8_fort 87 = .ok (.bipush (-5), 2) := by decide +kernel
theorem dX8_fort_89 : decode cX8_fort 89 = .ok (.if_icmp .ne 9, 3) := by decide +kernel
theorem dX8_fort_92 : decode cX8_fort 92 = .ok (.iload_n 2, 1) := by decide +kernel
theorem dX8_fort_93 : decode cX8_fort 93 = .ok (.iconst 1, 1) := by decide +kernel
theorem dX8_fort_94 : decode cX8_fort 94 = .ok (.iadd, 1) := by decide +kernel
theorem dX8_fort_95 : decode cX8_fort 95 = .ok (.goto 11, 3) := by decide +kernel
theorem dX8_fort_98 : decode cX8_fort 98 = .ok (.aload_n 0, 1) := by decide +kernel
theorem dX8_fort_99 : decode cX8_fort 99 = .ok (.iload_n 3, 1) := by decide +kernel
theorem dX8_fort_100 : decode cX8_fort 100 = .ok (.iconst 0, 1) := by decide +kernel
theorem dX8_fort_101 : decode cX8_fort 101 = .ok (.invokevirtual 52, 3) := by decide +kernel
theorem dX8_fort_104 : decode cX8_fort 104 = .ok (.iconst 1, 1) := by decide +kernel
theorem dX8_fort_105 : decode cX8_fort 105 = .ok (.iadd, 1) := by decide +kernel
theorem dX8_fort_106 : decode cX8_fort 106 = .ok (.iastore, 1) := by decide +kernel
theorem dX8_fort_107 : decode cX8_fort 107 = .ok (.aload_n 0, 1) := by decide +kernel
theorem dX8_fort_108 : decode cX8_fort 108 = .ok (.iconst 0, 1) := by decide +kernel
theorem dX8_fort_109 : decode cX8_fort 109 = .ok (.invokevirtual 133, 3) := by decide +kernel
theorem dX8_fort_112 : decode cX8_fort 112 = .ok (.aload_n 0, 1) := by decide +kernel
theorem dX8_fort_113 : decode cX8_fort 113 = .ok (.iconst 1, 1) := by decide +kernel
theorem dX8_fort_114 : decode cX8_fort 114 = .ok (.invokevirtual 133, 3) := by decide +kernel
theorem dX8_fort_117 : decode cX8_fort 117 = .ok (.iadd, 1) := by decide +kernel
theorem dX8_fort_118 : decode cX8_fort 118 = .ok (.ireturn, 1) := by decide +kernel
theorem dX8_base_0 : decode cX8_base 0 = .ok (.aload_n 0, 1) := by decide +kernel
theorem dX8_base_1 : decode cX8_base 1 = .ok (.iconst 0, 1) := by decide +kernel
theorem dX8_base_2 : decode cX8_base 2 = .ok (.putfield 44, 3) := by decide +kernel
theorem dX8_base_5 : decode cX8_base 5 = .ok (.iload_n 1, 1) := by decide +kernel
theorem dX8_base_6 : decode cX8_base 6 = .ok (.iconst 0, 1) := by decide +kernel
theorem dX8_base_7 : decode cX8_base 7 = .ok (.iconst 1, 1) := by decide +kernel
theorem dX8_base_8 : decode cX8_base 8 = .ok (.invokestatic 48, 3) := by decide +kernel
theorem dX8_base_11 : decode cX8_base 11 = .ok (.ifCond .eq 10, 3) := by decide +kernel
theorem dX8_base_14 : decode cX8_base 14 = .ok (.iload_n 2, 1) := by decide +kernel
theorem dX8_base_15 : decode cX8_base 15 = .ok (.invokestatic 124, 3) := by decide +kernel
theorem dX8_base_18 : decode cX8_base 18 = .ok (.ifCond .ne 5, 3) := by decide +kernel
theorem dX8_base_21 : decode cX8_base 21 = .ok (.iconst (-1), 1) := by decide +kernel
theorem dX8_base_22 : decode cX8_base 22 = .ok (.ireturn, 1) := by decide +kernel
theorem dX8_base_23 : decode cX8_base 23 = .ok (.aload_n 0, 1) := by decide +kernel
theorem dX8_base_24 : decode cX8_base 24 = .ok (.getfield 7, 3) := by decide +kernel
theorem dX8_base_27 : decode cX8_base 27 = .ok (.sipush 189, 3) := by decide +kernel
theorem dX8_base_30 : decode cX8_base 30 = .ok (.iload_n 1, 1) := by decide +kernel
theorem dX8_base_31 : decode cX8_base 31 = .ok (.iadd, 1) := by decide +kernel
theorem dX8_base_32 : decode cX8_base 32 = .ok (.iaload, 1) := by decide +kernel
theorem dX8_base_33 : decode cX8_base 33 = .ok (.istore_n 3, 1) := by decide +kernel
theorem dX8_base_34 : decode cX8_base 34 = .ok (.iload_n 3, 1) := by decide +kernel
theorem dX8_base_35 : decode cX8_base 35 = .ok (.iload_n 2, 1) := by decide +kernel
theorem dX8_base_36 : decode cX8_base 36 = .ok (.if_icmp .ne 6, 3) := by decide +kernel
theorem dX8_base_39 : decode cX8_base 39 = .ok (.bipush (-5), 2) := by decide +kernel
theorem dX8_base_41 : decode cX8_base 41 = .ok (.ireturn, 1) := by decide +kernel
theorem dX8_base_42 : decode cX8_base 42 = .ok (.aload_n 0, 1) := by decide +kernel
theorem dX8_base_43 : decode cX8_base 43 = .ok (.invokevirtual 127, 3) := by decide +kernel
theorem dX8_base_46 : decode cX8_base 46 = .ok (.aload_n 0, 1) := by decide +kernel
theorem dX8_base_47 : decode cX8_base 47 = .ok (.getfield 7, 3) := by decide +kernel
theorem dX8_base_50 : decode cX8_base 50 = .ok (.sipush 189, 3) := by decide +kernel
theorem dX8_base_53 : decode cX8_base 53 = .ok (.iload_n 1, 1) := by decide +kernel
theorem dX8_base_54 : decode cX8_base 54 = .ok (.iadd, 1) := by decide +kernel
theorem dX8_base_55 : decode cX8_base 55 = .ok (.iload_n 2, 1) := by decide +kernel
theorem dX8_base_56 : decode cX8_base 56 = .ok (.iastore, 1) := by decide +kernel
theorem dX8_base_57 : decode cX8_base 57 = .ok (.iload_n 3, 1) := by decide +kernel
theorem dX8_base_58 : decode cX8_base 58 = .ok (.ireturn, 1) := by decide +kernel
theorem dX8_place_0 : decode cX8_place 0 = .ok (.aload_n 0, 1) := by decide +kernel
theorem dX8_place_1 : decode cX8_place 1 = .ok (.iconst 0, 1) := by decide +kernel
theorem dX8_place_2 : decode cX8_place 2 = .ok (.putfield 44, 3) := by decide +kernel
theorem dX8_place_5 : decode cX8_place 5 = .ok (.iload_n 1, 1) := by decide +kernel
theorem dX8_place_6 : decode cX8_place 6 = .ok (.iconst 0, 1) := by decide +kernel
theorem dX8_place_7 : decode cX8_place 7 = .ok (.iconst 1, 1) := by decide +kernel
theorem dX8_place_8 : decode cX8_place 8 = .ok (.invokestatic 48, 3) := by decide +kernel
theorem dX8_place_11 : decode cX8_place 11 = .ok (.ifCond .eq 10, 3) := by decide +kernel
theorem dX8_place_14 : decode cX8_place 14 = .ok (.iload_n 3, 1) := by decide +kernel
theorem dX8_place_15 : decode cX8_place 15 = .ok (.invokestatic 124, 3) := by decide +kernel
theorem dX8_place_18 : decode cX8_place 18 = .ok (.ifCond .ne 5, 3) := by decide +kernel
theorem dX8_place_21 : decode cX8_place 21 = .ok (.iconst (-1), 1) := by decide +kernel
theorem dX8_place_22 : decode cX8_place 22 = .ok (.ireturn, 1) := by decide +kernel
theorem dX8_place_23 : decode cX8_place 23 = .ok (.iload_n 2, 1) := by decide +kernel
theorem dX8_place_24 : decode cX8_place 24 = .ok (.iconst 1, 1) := by decide +kernel
theorem dX8_place_25 : decode cX8_place 25 = .ok (.bipush 9, 2) := by decide +kernel
theorem dX8_place_27 : decode cX8_place 27 = .ok (.invokestatic 48, 3) := by decide +kernel
theorem dX8_place_30 : decode cX8_place 30 = .ok (.ifCond .ne 6, 3) := by decide +kernel
theorem dX8_place_33 : decode cX8_place 33 = .ok (.bipush (-2), 2) := by decide +kernel
theorem dX8_place_35 : decode cX8_place 35 = .ok (.ireturn, 1) := by decide +kernel
theorem dX8_place_36 : decode cX8_place 36 = .ok (.aload_n 0, 1) := by decide +kernel
theorem dX8_place_37 : decode cX8_place 37 = .ok (.getfield 7, 3) := by decide +kernel
theorem dX8_place_40 : decode cX8_place 40 = .ok (.sipush 192, 3) := by decide +kernel
theorem dX8_place_43 : decode cX8_place 43 = .ok (.iaload, 1) := by decide +kernel
theorem dX8_place_44 : decode cX8_place 44 = .ok (.bipush 16, 2) := by decide +kernel
theorem dX8_place_46 : decode cX8_place 46 = .ok (.if_icmp .ne 6, 3) := by decide +kernel
theorem dX8_place_49 : decode cX8_place 49 = .ok (.bipush (-3), 2) := by decide +kernel
theorem dX8_place_51 : decode cX8_place 51 = .ok (.ireturn, 1) := by decide +kernel
theorem dX8_place_52 : decode cX8_place 52 = .ok (.aload_n 0, 1) := by decide +kernel
theorem dX8_place_53 : decode cX8_place 53 = .ok (.iload_n 3, 1) := by decide +kernel
theorem dX8_place_54 : decode cX8_place 54 = .ok (.invokevirtual 62, 3) := by decide +kernel
theorem dX8_place_57 : decode cX8_place 57 = .ok (.bipush (-5), 2) := by decide +kernel
theorem dX8_place_59 : decode cX8_place 59 = .ok (.if_icmp .eq 6, 3) := by decide +kernel
theorem dX8_place_62 : decode cX8_place 62 = .ok (.bipush (-4), 2) := by decide +kernel
theorem dX8_place_64 : decode cX8_place 64 = .ok (.ireturn, 1) := by decide +kernel
theorem dX8_place_65 : decode cX8_place 65 = .ok (.aload_n 0, 1) := by decide +kernel
theorem dX8_place_66 : decode cX8_place 66 = .ok (.invokevirtual 127, 3) := by decide +kernel
theorem dX8_place_69 : decode cX8_place 69 = .ok (.aload_n 0, 1) := by decide +kernel
theorem dX8_place_70 : decode cX8_place 70 = .ok (.getfield 7, 3) := by decide +kernel
theorem dX8_place_73 : decode cX8_place 73 = .ok (.sipush 192, 3) := by decide +kernel
theorem dX8_place_76 : decode cX8_place 76 = .ok (.iaload, 1) := by decide +kernel
theorem dX8_place_77 : decode cX8_place 77 = .ok (.istore 4, 2) := by decide +kernel
theorem dX8_place_79 : decode cX8_place 79 = .ok (.aload_n 0, 1) := by decide +kernel
theorem dX8_place_80 : decode cX8_place 80 = .ok (.getfield 7, 3) := by decide +kernel
theorem dX8_place_83 : decode cX8_place 83 = .ok (.sipush 192, 3) := by decide +kernel
theorem dX8_place_86 : decode cX8_place 86 = .ok (.dup2, 1) := by decide +kernel
theorem dX8_place_87 : decode cX8_place 87 = .ok (.iaload, 1) := by decide +kernel
theorem dX8_place_88 : decode cX8_place 88 = .ok (.iconst 1, 1) := by decide +kernel
theorem dX8_place_89 : decode cX8_place 89 = .ok (.iadd, 1) := by decide +kernel
theorem dX8_place_90 : decode cX8_place 90 = .ok (.iastore, 1) := by decide +kernel
theorem dX8_place_91 : decode cX8_place 91 = .ok (.aload_n 0, 1) := by decide +kernel
theorem dX8_place_92 : decode cX8_place 92 = .ok (.iload 4, 2) := by decide +kernel
theorem dX8_place_94 : decode cX8_place 94 = .ok (.iconst 0, 1) := by decide +kernel
theorem dX8_place_95 : decode cX8_place 95 = .ok (.iload_n 1, 1) := by decide +kernel
theorem dX8_place_96 : decode cX8_place 96 = .ok (.invokevirtual 73, 3) := by decide +kernel
theorem dX8_place_99 : decode cX8_place 99 = .ok (.aload_n 0, 1) := by decide +kernel
theorem dX8_place_100 : decode cX8_place 100 = .ok (.iload 4, 2) := by decide +kernel
theorem dX8_place_102 : decode cX8_place 102 = .ok (.iconst 1, 1) := by decide +kernel
theorem dX8_place_103 : decode cX8_place 103 = .ok (.iload_n 2, 1) := by decide +kernel
theorem dX8_place_104 : decode cX8_place 104 = .ok (.invokevirtual 73, 3) := by decide +kernel
theorem dX8_place_107 : decode cX8_place 107 = .ok (.aload_n 0, 1) := by decide +kernel
theorem dX8_place_108 : decode cX8_place 108 = .ok (.iload 4, 2) := by decide +kernel
theorem dX8_place_110 : decode cX8_place 110 = .ok (.iconst 3, 1) := by decide +kernel
theorem dX8_place_111 : decode cX8_place 111 = .ok (.iconst 4, 1) := by decide +kernel
theorem dX8_place_112 : decode cX8_place 112 = .ok (.invokevirtual 73, 3) := by decide +kernel
theorem dX8_place_115 : decode cX8_place 115 = .ok (.aload_n 0, 1) := by decide +kernel
theorem dX8_place_116 : decode cX8_place 116 = .ok (.iload 4, 2) := by decide +kernel
theorem dX8_place_118 : decode cX8_place 118 = .ok (.iconst 4, 1) := by decide +kernel
theorem dX8_place_119 : decode cX8_place 119 = .ok (.iconst 1, 1) := by decide +kernel
theorem dX8_place_120 : decode cX8_place 120 = .ok (.invokevirtual 73, 3) := by decide +kernel
theorem dX8_place_123 : decode cX8_place 123 = .ok (.aload_n 0, 1) := by decide +kernel
theorem dX8_place_124 : decode cX8_place 124 = .ok (.iload 4, 2) := by decide +kernel
theorem dX8_place_126 : decode cX8_place 126 = .ok (.iload_n 3, 1) := by decide +kernel
theorem dX8_place_127 : decode cX8_place 127 = .ok (.invokevirtual 120, 3) := by decide +kernel
theorem dX8_place_130 : decode cX8_place 130 = .ok (.iload 4, 2) := by decide +kernel
theorem dX8_place_132 : decode cX8_place 132 = .ok (.ireturn, 1) := by decide +kernel
theorem dX8_isAtTurn_0 : decode cX8_isAtTurn 0 = .ok (.aload_n 0, 1) := by decide +kernel
theorem dX8_isAtTurn_1 : decode cX8_isAtTurn 1 = .ok (.iload_n 1, 1) := by decide +kernel
theorem dX8_isAtTurn_2 : decode cX8_isAtTurn 2 = .ok (.iconst 0, 1) := by decide +kernel
theorem dX8_isAtTurn_3 : decode cX8_isAtTurn 3 = .ok (.invokevirtual 52, 3) := by decide +kernel
theorem dX8_isAtTurn_6 : decode cX8_isAtTurn 6 = .ok (.aload_n 0, 1) := by decide +kernel
theorem dX8_isAtTurn_7 : decode cX8_isAtTurn 7 = .ok (.getfield 7, 3) := by decide +kernel
theorem dX8_isAtTurn_10 : decode cX8_isAtTurn 10 = .ok (.sipush 191, 3) := by decide +kernel
theorem dX8_isAtTurn_13 : decode cX8_isAtTurn 13 = .ok (.iaload, 1) := by decide +kernel
theorem dX8_isAtTurn_14 : decode cX8_isAtTurn 14 = .ok (.iconst 2, 1) := by decide +kernel
theorem dX8_isAtTurn_15 : decode cX8_isAtTurn 15 = .ok (.irem, 1) := by decide +kernel
theorem dX8_isAtTurn_16 : decode cX8_isAtTurn 16 = .ok (.if_icmp .ne 7, 3) := by decide +kernel
theorem dX8_isAtTurn_19 : decode cX8_isAtTurn 19 = .ok (.iconst 1, 1) := by decide +kernel
theorem dX8_isAtTurn_20 : decode cX8_isAtTurn 20 = .ok (.goto 4, 3) := by decide +kernel
theorem dX8_isAtTurn_23 : decode cX8_isAtTurn 23 = .ok (.iconst 0, 1) := by decide +kernel
theorem dX8_isAtTurn_24 : decode cX8_isAtTurn 24 = .ok (.ireturn, 1) := by decide +kernel
theorem dX8_refusesMove_0 : decode cX8_refusesMove 0 = .ok (.aload_n 0, 1) := by decide +kernel
theorem dX8_refusesMove_1 : decode cX8_refusesMove 1 = .ok (.iload_n 1, 1) := by decide +kernel
theorem dX8_refusesMove_2 : decode cX8_refusesMove 2 = .ok (.invokevirtual 136, 3) := by decide +kernel
theorem dX8_refusesMove_5 : decode cX8_refusesMove 5 = .ok (.ifCond .eq 10, 3) := by decide +kernel
theorem dX8_refusesMove_8 : decode cX8_refusesMove 8 = .ok (.iload_n 2, 1) := by decide +kernel
theorem dX8_refusesMove_9 : decode cX8_refusesMove 9 = .ok (.invokestatic 124, 3) := by decide +kernel
theorem dX8_refusesMove_12 : decode cX8_refusesMove 12 = .ok (.ifCond .ne 5, 3) := by decide +kernel
theorem dX8_refusesMove_15 : decode cX8_refusesMove 15 = .ok (.iconst (-1), 1) := by decide +kernel
theorem dX8_refusesMove_16 : decode cX8_refusesMove 16 = .ok (.ireturn, 1) := by decide +kernel
theorem dX8_refusesMove_17 : decode cX8_refusesMove 17 = .ok (.aload_n 0, 1) := by decide +kernel
theorem dX8_refusesMove_18 : decode cX8_refusesMove 18 = .ok (.iload_n 1, 1) := by decide +kernel
theorem dX8_refusesMove_19 : decode cX8_refusesMove 19 = .ok (.invokevirtual 139, 3) := by decide +kernel
theorem dX8_refusesMove_22 : decode cX8_refusesMove 22 = .ok (.ifCond .ne 6, 3) := by decide +kernel
theorem dX8_refusesMove_25 : decode cX8_refusesMove 25 = .ok (.bipush (-4), 2) := by decide +kernel
theorem dX8_refusesMove_27 : decode cX8_refusesMove 27 = .ok (.ireturn, 1) := by decide +kernel
theorem dX8_refusesMove_28 : decode cX8_refusesMove 28 = .ok (.aload_n 0, 1) := by decide +kernel
theorem dX8_refusesMove_29 : decode cX8_refusesMove 29 = .ok (.iload_n 1, 1) := by decide +kernel
theorem dX8_refusesMove_30 : decode cX8_refusesMove 30 = .ok (.iconst 2, 1) := by decide +kernel
theorem dX8_refusesMove_31 : decode cX8_refusesMove 31 = .ok (.invokevirtual 52, 3) := by decide +kernel
theorem dX8_refusesMove_34 : decode cX8_refusesMove 34 = .ok (.iload_n 2, 1) := by decide +kernel
theorem dX8_refusesMove_35 : decode cX8_refusesMove 35 = .ok (.if_icmp .ne 6, 3) := by decide +kernel
theorem dX8_refusesMove_38 : decode cX8_refusesMove 38 = .ok (.bipush (-5), 2) := by decide +kernel
theorem dX8_refusesMove_40 : decode cX8_refusesMove 40 = .ok (.ireturn, 1) := by decide +kernel
theorem dX8_refusesMove_41 : decode cX8_refusesMove 41 = .ok (.aload_n 0, 1) := by decide +kernel
theorem dX8_refusesMove_42 : decode cX8_refusesMove 42 = .ok (.iload_n 1, 1) := by decide +kernel
theorem dX8_refusesMove_43 : decode cX8_refusesMove 43 = .ok (.invokevirtual 142, 3) := by decide +kernel
theorem dX8_refusesMove_46 : decode cX8_refusesMove 46 = .ok (.aload_n 0, 1) := by decide +kernel
theorem dX8_refusesMove_47 : decode cX8_refusesMove 47 = .ok (.iload_n 1, 1) := by decide +kernel
theorem dX8_refusesMove_48 : decode cX8_refusesMove 48 = .ok (.iload_n 2, 1) := by decide +kernel
theorem dX8_refusesMove_49 : decode cX8_refusesMove 49 = .ok (.invokevirtual 145, 3) := by decide +kernel
theorem dX8_refusesMove_52 : decode cX8_refusesMove 52 = .ok (.ifCond .eq 7, 3) := by decide +kernel
theorem dX8_refusesMove_55 : decode cX8_refusesMove 55 = .ok (.iconst 0, 1) := by decide +kernel
theorem dX8_refusesMove_56 : decode cX8_refusesMove 56 = .ok (.goto 5, 3) := by decide +kernel
theorem dX8_refusesMove_59 : decode cX8_refusesMove 59 = .ok (.bipush (-4), 2) := by decide +kernel
theorem dX8_refusesMove_61 : decode cX8_refusesMove 61 = .ok (.ireturn, 1) := by decide +kernel
theorem dX8_moves_0 : decode cX8_moves 0 = .ok (.aload_n 0, 1) := by decide +kernel
theorem dX8_moves_1 : decode cX8_moves 1 = .ok (.iload_n 1, 1) := by decide +kernel
theorem dX8_moves_2 : decode cX8_moves 2 = .ok (.iconst 3, 1) := by decide +kernel
theorem dX8_moves_3 : decode cX8_moves 3 = .ok (.aload_n 0, 1) := by decide +kernel
theorem dX8_moves_4 : decode cX8_moves 4 = .ok (.iload_n 1, 1) := by decide +kernel
theorem dX8_moves_5 : decode cX8_moves 5 = .ok (.iconst 3, 1) := by decide +kernel
theorem dX8_moves_6 : decode cX8_moves 6 = .ok (.invokevirtual 52, 3) := by decide +kernel
theorem dX8_moves_9 : decode cX8_moves 9 = .ok (.aload_n 0, 1) := by decide +kernel
theorem dX8_moves_10 : decode cX8_moves 10 = .ok (.getfield 25, 3) := by decide +kernel
theorem dX8_moves_13 : decode cX8_moves 13 = .ok (.iload_n 2, 1) := by decide +kernel
theorem dX8_moves_14 : decode cX8_moves 14 = .ok (.iaload, 1) := by decide +kernel
theorem dX8_moves_15 : decode cX8_moves 15 = .ok (.isub, 1) := by decide +kernel
theorem dX8_moves_16 : decode cX8_moves 16 = .ok (.invokevirtual 73, 3) := by decide +kernel
theorem dX8_moves_19 : decode cX8_moves 19 = .ok (.aload_n 0, 1) := by decide +kernel
theorem dX8_moves_20 : decode cX8_moves 20 = .ok (.iload_n 1, 1) := by decide +kernel
theorem dX8_moves_21 : decode cX8_moves 21 = .ok (.iload_n 2, 1) := by decide +kernel
theorem dX8_moves_22 : decode cX8_moves 22 = .ok (.invokevirtual 120, 3) := by decide +kernel
theorem dX8_moves_25 : decode cX8_moves 25 = .ok (.aload_n 0, 1) := by decide +kernel
theorem dX8_moves_26 : decode cX8_moves 26 = .ok (.iload_n 1, 1) := by decide +kernel
theorem dX8_moves_27 : decode cX8_moves 27 = .ok (.iconst 3, 1) := by decide +kernel
theorem dX8_moves_28 : decode cX8_moves 28 = .ok (.invokevirtual 52, 3) := by decide +kernel
theorem dX8_moves_31 : decode cX8_moves 31 = .ok (.ireturn, 1) := by decide +kernel
theorem dX8_move_0 : decode cX8_move 0 = .ok (.aload_n 0, 1) := by decide +kernel
theorem dX8_move_1 : decode cX8_move 1 = .ok (.iconst 0, 1) := by decide +kernel
theorem dX8_move_2 : decode cX8_move 2 = .ok (.putfield 44, 3) := by decide +kernel
theorem dX8_move_5 : decode cX8_move 5 = .ok (.aload_n 0, 1) := by decide +kernel
theorem dX8_move_6 : decode cX8_move 6 = .ok (.iload_n 1, 1) := by decide +kernel
theorem dX8_move_7 : decode cX8_move 7 = .ok (.iload_n 2, 1) := by decide +kernel
theorem dX8_move_8 : decode cX8_move 8 = .ok (.invokevirtual 148, 3) := by decide +kernel
theorem dX8_move_11 : decode cX8_move 11 = .ok (.istore_n 3, 1) := by decide +kernel
theorem dX8_move_12 : decode cX8_move 12 = .ok (.iload_n 3, 1) := by decide +kernel
theorem dX8_move_13 : decode cX8_move 13 = .ok (.ifCond .eq 5, 3) := by decide +kernel
theorem dX8_move_16 : decode cX8_move 16 = .ok (.iload_n 3, 1) := by decide +kernel
theorem dX8_move_17 : decode cX8_move 17 = .ok (.ireturn, 1) := by decide +kernel
theorem dX8_move_18 : decode cX8_move 18 = .ok (.aload_n 0, 1) := by decide +kernel
theorem dX8_move_19 : decode cX8_move 19 = .ok (.invokevirtual 127, 3) := by decide +kernel
theorem dX8_move_22 : decode cX8_move 22 = .ok (.aload_n 0, 1) := by decide +kernel
theorem dX8_move_23 : decode cX8_move 23 = .ok (.iload_n 1, 1) := by decide +kernel
theorem dX8_move_24 : decode cX8_move 24 = .ok (.iload_n 2, 1) := by decide +kernel
theorem dX8_move_25 : decode cX8_move 25 = .ok (.invokevirtual 151, 3) := by decide +kernel
theorem dX8_move_28 : decode cX8_move 28 = .ok (.ireturn, 1) := by decide +kernel
theorem dX8_refusesAttack_0 : decode cX8_refusesAttack 0 = .ok (.aload_n 0, 1) := by decide +kernel
theorem dX8_refusesAttack_1 : decode cX8_refusesAttack 1 = .ok (.iload_n 1, 1) := by decide +kernel
theorem dX8_refusesAttack_2 : decode cX8_refusesAttack 2 = .ok (.invokevirtual 136, 3) := by decide +kernel
theorem dX8_refusesAttack_5 : decode cX8_refusesAttack 5 = .ok (.ifCond .eq 10, 3) := by decide +kernel
theorem dX8_refusesAttack_8 : decode cX8_refusesAttack 8 = .ok (.iload_n 2, 1) := by decide +kernel
theorem dX8_refusesAttack_9 : decode cX8_refusesAttack 9 = .ok (.invokestatic 124, 3) := by decide +kernel
theorem dX8_refusesAttack_12 : decode cX8_refusesAttack 12 = .ok (.ifCond .ne 5, 3) := by decide +kernel
theorem dX8_refusesAttack_15 : decode cX8_refusesAttack 15 = .ok (.iconst (-1), 1) := by decide +kernel
theorem dX8_refusesAttack_16 : decode cX8_refusesAttack 16 = .ok (.ireturn, 1) := by decide +kernel
theorem dX8_refusesAttack_17 : decode cX8_refusesAttack 17 = .ok (.aload_n 0, 1) := by decide +kernel
theorem dX8_refusesAttack_18 : decode cX8_refusesAttack 18 = .ok (.iload_n 1, 1) := by decide +kernel
theorem dX8_refusesAttack_19 : decode cX8_refusesAttack 19 = .ok (.invokevirtual 139, 3) := by decide +kernel
theorem dX8_refusesAttack_22 : decode cX8_refusesAttack 22 = .ok (.ifCond .eq 26, 3) := by decide +kernel
theorem dX8_refusesAttack_25 : decode cX8_refusesAttack 25 = .ok (.aload_n 0, 1) := by decide +kernel
theorem dX8_refusesAttack_26 : decode cX8_refusesAttack 26 = .ok (.iload_n 1, 1) := by decide +kernel
theorem dX8_refusesAttack_27 : decode cX8_refusesAttack 27 = .ok (.iconst 4, 1) := by decide +kernel
theorem dX8_refusesAttack_28 : decode cX8_refusesAttack 28 = .ok (.invokevirtual 52, 3) := by decide +kernel
theorem dX8_refusesAttack_31 : decode cX8_refusesAttack 31 = .ok (.iconst 1, 1) := by decide +kernel
theorem dX8_refusesAttack_32 : decode cX8_refusesAttack 32 = .ok (.if_icmp .ne 16, 3) := by decide +kernel
theorem dX8_refusesAttack_35 : decode cX8_refusesAttack 35 = .ok (.aload_n 0, 1) := by decide +kernel
theorem dX8_refusesAttack_36 : decode cX8_refusesAttack 36 = .ok (.iload_n 1, 1) := by decide +kernel
theorem dX8_refusesAttack_37 : decode cX8_refusesAttack 37 = .ok (.iload_n 2, 1) := by decide +kernel
theorem dX8_refusesAttack_38 : decode cX8_refusesAttack 38 = .ok (.invokevirtual 154, 3) := by decide +kernel
theorem dX8_refusesAttack_41 : decode cX8_refusesAttack 41 = .ok (.ifCond .eq 7, 3) := by decide +kernel
theorem dX8_refusesAttack_44 : decode cX8_refusesAttack 44 = .ok (.iconst 0, 1) := by decide +kernel
theorem dX8_refusesAttack_45 : decode cX8_refusesAttack 45 = .ok (.goto 5, 3) := by decide +kernel
theorem dX8_refusesAttack_48 : decode cX8_refusesAttack 48 = .ok (.bipush (-4), 2) := by decide +kernel
theorem dX8_refusesAttack_50 : decode cX8_refusesAttack 50 = .ok (.ireturn, 1) := by decide +kernel
theorem dX8_attack_0 : decode cX8_attack 0 = .ok (.aload_n 0, 1) := by decide +kernel
theorem dX8_attack_1 : decode cX8_attack 1 = .ok (.iconst 0, 1) := by decide +kernel
theorem dX8_attack_2 : decode cX8_attack 2 = .ok (.putfield 44, 3) := by decide +kernel
theorem dX8_attack_5 : decode cX8_attack 5 = .ok (.aload_n 0, 1) := by decide +kernel
theorem dX8_attack_6 : decode cX8_attack 6 = .ok (.iload_n 1, 1) := by decide +kernel
theorem dX8_attack_7 : decode cX8_attack 7 = .ok (.iload_n 2, 1) := by decide +kernel
theorem dX8_attack_8 : decode cX8_attack 8 = .ok (.invokevirtual 157, 3) := by decide +kernel
theorem dX8_attack_11 : decode cX8_attack 11 = .ok (.istore_n 3, 1) := by decide +kernel
theorem dX8_attack_12 : decode cX8_attack 12 = .ok (.iload_n 3, 1) := by decide +kernel
theorem dX8_attack_13 : decode cX8_attack 13 = .ok (.ifCond .eq 5, 3) := by decide +kernel
theorem dX8_attack_16 : decode cX8_attack 16 = .ok (.iload_n 3, 1) := by decide +kernel
theorem dX8_attack_17 : decode cX8_attack 17 = .ok (.ireturn, 1) := by decide +kernel
theorem dX8_attack_18 : decode cX8_attack 18 = .ok (.aload_n 0, 1) := by decide +kernel
theorem dX8_attack_19 : decode cX8_attack 19 = .ok (.invokevirtual 127, 3) := by decide +kernel
theorem dX8_attack_22 : decode cX8_attack 22 = .ok (.aload_n 0, 1) := by decide +kernel
theorem dX8_attack_23 : decode cX8_attack 23 = .ok (.iload_n 1, 1) := by decide +kernel
theorem dX8_attack_24 : decode cX8_attack 24 = .ok (.iload_n 2, 1) := by decide +kernel
theorem dX8_attack_25 : decode cX8_attack 25 = .ok (.invokevirtual 160, 3) := by decide +kernel
theorem dX8_attack_28 : decode cX8_attack 28 = .ok (.ireturn, 1) := by decide +kernel
theorem dX8_ends_0 : decode cX8_ends 0 = .ok (.aload_n 0, 1) := by decide +kernel
theorem dX8_ends_1 : decode cX8_ends 1 = .ok (.getfield 7, 3) := by decide +kernel
theorem dX8_ends_4 : decode cX8_ends 4 = .ok (.sipush 191, 3) := by decide +kernel
theorem dX8_ends_7 : decode cX8_ends 7 = .ok (.iaload, 1) := by decide +kernel
theorem dX8_ends_8 : decode cX8_ends 8 = .ok (.iconst 2, 1) := by decide +kernel
theorem dX8_ends_9 : decode cX8_ends 9 = .ok (.irem, 1) := by decide +kernel
theorem dX8_ends_10 : decode cX8_ends 10 = .ok (.istore_n 1, 1) := by decide +kernel
theorem dX8_ends_11 : decode cX8_ends 11 = .ok (.iconst 0, 1) := by decide +kernel
theorem dX8_ends_12 : decode cX8_ends 12 = .ok (.istore_n 2, 1) := by decide +kernel
theorem dX8_ends_13 : decode cX8_ends 13 = .ok (.iconst 0, 1) := by decide +kernel
theorem dX8_ends_14 : decode cX8_ends 14 = .ok (.istore_n 3, 1) := by decide +kernel
theorem dX8_ends_15 : decode cX8_ends 15 = .ok (.iload_n 3, 1) := by decide +kernel
theorem dX8_ends_16 : decode cX8_ends 16 = .ok (.aload_n 0, 1) := by decide +kernel
theorem dX8_ends_17 : decode cX8_ends 17 = .ok (.getfield 7, 3) := by decide +kernel
theorem dX8_ends_20 : decode cX8_ends 20 = .ok (.sipush 192, 3) := by decide +kernel
theorem dX8_ends_23 : decode cX8_ends 23 = .ok (.iaload, 1) := by decide +kernel
theorem dX8_ends_24 : decode cX8_ends 24 = .ok (.if_icmp .ge 47, 3) := by decide +kernel
theorem dX8_ends_27 : decode cX8_ends 27 = .ok (.aload_n 0, 1) := by decide +kernel
theorem dX8_ends_28 : decode cX8_ends 28 = .ok (.getfield 38, 3) := by decide +kernel
theorem dX8_ends_31 : decode cX8_ends 31 = .ok (.iload_n 3, 1) := by decide +kernel
theorem dX8_ends_32 : decode cX8_ends 32 = .ok (.aload_n 0, 1) := by decide +kernel
theorem dX8_ends_33 : decode cX8_ends 33 = .ok (.iload_n 3, 1) := by decide +kernel
theorem dX8_ends_34 : decode cX8_ends 34 = .ok (.iconst 1, 1) := by decide +kernel
theorem dX8_ends_35 : decode cX8_ends 35 = .ok (.invokevirtual 52, 3) := by decide +kernel
theorem dX8_ends_38 : decode cX8_ends 38 = .ok (.ifCond .le 25, 3) := by decide +kernel
theorem dX8_ends_41 : decode cX8_ends 41 = .ok (.aload_n 0, 1) := by decide +kernel
theorem dX8_ends_42 : decode cX8_ends 42 = .ok (.iload_n 3, 1) := by decide +kernel
theorem dX8_ends_43 : decode cX8_ends 43 = .ok (.iconst 0, 1) := by decide +kernel
theorem dX8_ends_44 : decode cX8_ends 44 = .ok (.invokevirtual 52, 3) := by decide +kernel
theorem dX8_ends_47 : decode cX8_ends 47 = .ok (.iload_n 1, 1) := by decide +kernel
theorem dX8_ends_48 : decode cX8_ends 48 = .ok (.if_icmp .ne 15, 3) := by decide +kernel
theorem dX8_ends_51 : decode cX8_ends 51 = .ok (.aload_n 0, 1) := by decide +kernel
theorem dX8_ends_52 : decode cX8_ends 52 = .ok (.iload_n 3, 1) := by decide +kernel
theorem dX8_ends_53 : decode cX8_ends 53 = .ok (.invokevirtual 104, 3) := by decide +kernel
theorem dX8_ends_56 : decode cX8_ends 56 = .ok (.ifCond .ne 7, 3) := by decide +kernel
theorem dX8_ends_59 : decode cX8_ends 59 = .ok (.iconst 1, 1) := by decide +kernel
theorem dX8_ends_60 : decode cX8_ends 60 = .ok (.goto 4, 3) := by decide +kernel
theorem dX8_ends_63 : decode cX8_ends 63 = .ok (.iconst 0, 1) := by decide +kernel
theorem dX8_ends_64 : decode cX8_ends 64 = .ok (.bastore, 1) := by decide +kernel
theorem dX8_ends_65 : decode cX8_ends 65 = .ok (.iinc 3 1, 3) := by decide +kernel
theorem dX8_ends_68 : decode cX8_ends 68 = .ok (.goto (-53), 3) := by decide +kernel
theorem dX8_ends_71 : decode cX8_ends 71 = .ok (.iconst 0, 1) := by decide +kernel
theorem dX8_ends_72 : decode cX8_ends 72 = .ok (.istore_n 3, 1) := by decide +kernel
theorem dX8_ends_73 : decode cX8_ends 73 = .ok (.iload_n 3, 1) := by decide +kernel
theorem dX8_ends_74 : decode cX8_ends 74 = .ok (.aload_n 0, 1) := by decide +kernel
theorem dX8_ends_75 : decode cX8_ends 75 = .ok (.getfield 7, 3) := by decide +kernel
theorem dX8_ends_78 : decode cX8_ends 78 = .ok (.sipush 192, 3) := by decide +kernel
theorem dX8_ends_81 : decode cX8_ends 81 = .ok (.iaload, 1) := by decide +kernel
theorem dX8_ends_82 : decode cX8_ends 82 = .ok (.if_icmp .ge 132, 3) := by decide +kernel
theorem dX8_ends_85 : decode cX8_ends 85 = .ok (.aload_n 0, 1) := by decide +kernel
theorem dX8_ends_86 : decode cX8_ends 86 = .ok (.iload_n 3, 1) := by decide +kernel
theorem dX8_ends_87 : decode cX8_ends 87 = .ok (.iconst 1, 1) := by decide +kernel
theorem dX8_ends_88 : decode cX8_ends 88 = .ok (.invokevirtual 52, 3) := by decide +kernel
theorem dX8_ends_91 : decode cX8_ends 91 = .ok (.ifCond .le 93, 3) := by decide +kernel
theorem dX8_ends_94 : decode cX8_ends 94 = .ok (.aload_n 0, 1) := by decide +kernel
theorem dX8_ends_95 : decode cX8_ends 95 = .ok (.iload_n 3, 1) := by decide +kernel
theorem dX8_ends_96 : decode cX8_ends 96 = .ok (.iconst 0, 1) := by decide +kernel
theorem dX8_ends_97 : decode cX8_ends 97 = .ok (.invokevirtual 52, 3) := by decide +kernel
theorem dX8_ends_100 : decode cX8_ends 100 = .ok (.iload_n 1, 1) := by decide +kernel
theorem dX8_ends_101 : decode cX8_ends 101 = .ok (.if_icmp .ne 83, 3) := by decide +kernel
theorem dX8_ends_104 : decode cX8_ends 104 = .ok (.aload_n 0, 1) := by decide +kernel
theorem dX8_ends_105 : decode cX8_ends 105 = .ok (.iload_n 3, 1) := by decide +kernel
theorem dX8_ends_106 : decode cX8_ends 106 = .ok (.iconst 5, 1) := by decide +kernel
theorem dX8_ends_107 : decode cX8_ends 107 = .ok (.aload_n 0, 1) := by decide +kernel
theorem dX8_ends_108 : decode cX8_ends 108 = .ok (.getfield 38, 3) := by decide +kernel
theorem dX8_ends_111 : decode cX8_ends 111 = .ok (.iload_n 3, 1) := by decide +kernel
theorem dX8_ends_112 : decode cX8_ends 112 = .ok (.baload, 1) := by decide +kernel
theorem dX8_ends_113 : decode cX8_ends 113 = .ok (.ifCond .eq 14, 3) := by decide +kernel
theorem dX8_ends_116 : decode cX8_ends 116 = .ok (.aload_n 0, 1) := by decide +kernel
theorem dX8_ends_117 : decode cX8_ends 117 = .ok (.iload_n 3, 1) := by decide +kernel
theorem dX8_ends_118 : decode cX8_ends 118 = .ok (.iconst 5, 1) := by decide +kernel
theorem dX8_ends_119 : decode cX8_ends 119 = .ok (.invokevirtual 52, 3) := by decide +kernel
theorem dX8_ends_122 : decode cX8_ends 122 = .ok (.iconst 1, 1) := by decide +kernel
theorem dX8_ends_123 : decode cX8_ends 123 = .ok (.iadd, 1) := by decide +kernel
theorem dX8_ends_124 : decode cX8_ends 124 = .ok (.goto 4, 3) := by decide +kernel
theorem dX8_ends_127 : decode cX8_ends 127 = .ok (.iconst 0, 1) := by decide +kernel
theorem dX8_ends_128 : decode cX8_ends 128 = .ok (.invokevirtual 73, 3) := by decide +kernel
theorem dX8_ends_131 : decode cX8_ends 131 = .ok (.aload_n 0, 1) := by decide +kernel
theorem dX8_ends_132 : decode cX8_ends 132 = .ok (.iload_n 3, 1) := by decide +kernel
theorem dX8_ends_133 : decode cX8_ends 133 = .ok (.iconst 1, 1) := by decide +kernel
theorem dX8_ends_134 : decode cX8_ends 134 = .ok (.aload_n 0, 1) := by decide +kernel
theorem dX8_ends_135 : decode cX8_ends 135 = .ok (.iload_n 3, 1) := by decide +kernel
theorem dX8_ends_136 : decode cX8_ends 136 = .ok (.iconst 5, 1) := by decide +kernel
theorem dX8_ends_137 : decode cX8_ends 137 = .ok (.invokevirtual 52, 3) := by decide +kernel
theorem dX8_ends_140 : decode cX8_ends 140 = .ok (.iconst 1, 1) := by decide +kernel
theorem dX8_ends_141 : decode cX8_ends 141 = .ok (.if_icmp .le 14, 3) := by decide +kernel
theorem dX8_ends_144 : decode cX8_ends 144 = .ok (.aload_n 0, 1) := by decide +kernel
theorem dX8_ends_145 : decode cX8_ends 145 = .ok (.iload_n 3, 1) := by decide +kernel
theorem dX8_ends_146 : decode cX8_ends 146 = .ok (.iconst 1, 1) := by decide +kernel
theorem dX8_ends_147 : decode cX8_ends 147 = .ok (.invokevirtual 52, 3) := by decide +kernel
theorem dX8_ends_150 : decode cX8_ends 150 = .ok (.iconst 1, 1) := by decide +kernel
theorem dX8_ends_151 : decode cX8_ends 151 = .ok (.isub, 1) := by decide +kernel
theorem dX8_ends_152 : decode cX8_ends 152 = .ok (.goto 9, 3) := by decide +kernel
theorem dX8_ends_155 : decode cX8_ends 155 = .ok (.aload_n 0, 1) := by decide +kernel
theorem dX8_ends_156 : decode cX8_ends 156 = .ok (.iload_n 3, 1) := by decide +kernel
theorem dX8_ends_157 : decode cX8_ends 157 = .ok (.iconst 1, 1) := by decide +kernel
theorem dX8_ends_158 : decode cX8_ends 158 = .ok (.invokevirtual 52, 3) := by decide +kernel
theorem dX8_ends_161 : decode cX8_ends 161 = .ok (.invokevirtual 73, 3) := by decide +kernel
theorem dX8_ends_164 : decode cX8_ends 164 = .ok (.iload_n 2, 1) := by decide +kernel
theorem dX8_ends_165 : decode cX8_ends 165 = .ok (.aload_n 0, 1) := by decide +kernel
theorem dX8_ends_166 : decode cX8_ends 166 = .ok (.iload_n 3, 1) := by decide +kernel
theorem dX8_ends_167 : decode cX8_ends 167 = .ok (.iconst 1, 1) := by decide +kernel
theorem dX8_ends_168 : decode cX8_ends 168 = .ok (.invokevirtual 52, 3) := by decide +kernel
theorem dX8_ends_171 : decode cX8_ends 171 = .ok (.ifCond .ne 7, 3) := by decide +kernel
theorem dX8_ends_174 : decode cX8_ends 174 = .ok (.iconst 1, 1) := by decide +kernel
theorem dX8_ends_175 : decode cX8_ends 175 = .ok (.goto 4, 3) := by decide +kernel
theorem dX8_ends_178 : decode cX8_ends 178 = .ok (.iconst 0, 1) := by decide +kernel
theorem dX8_ends_179 : decode cX8_ends 179 = .ok (.iadd, 1) := by decide +kernel
theorem dX8_ends_180 : decode cX8_ends 180 = .ok (.istore_n 2, 1) := by decide +kernel
theorem dX8_ends_181 : decode cX8_ends 181 = .ok (.goto 27, 3) := by decide +kernel
theorem dX8_ends_184 : decode cX8_ends 184 = .ok (.aload_n 0, 1) := by decide +kernel
theorem dX8_ends_185 : decode cX8_ends 185 = .ok (.iload_n 3, 1) := by decide +kernel
theorem dX8_ends_186 : decode cX8_ends 186 = .ok (.iconst 0, 1) := by decide +kernel
theorem dX8_ends_187 : decode cX8_ends 187 = .ok (.invokevirtual 52, 3) := by decide +kernel
theorem dX8_ends_190 : decode cX8_ends 190 = .ok (.iload_n 1, 1) := by decide +kernel
theorem dX8_ends_191 : decode cX8_ends 191 = .ok (.if_icmp .eq 17, 3) := by decide +kernel
theorem dX8_ends_194 : decode cX8_ends 194 = .ok (.aload_n 0, 1) := by decide +kernel
theorem dX8_ends_195 : decode cX8_ends 195 = .ok (.iload_n 3, 1) := by decide +kernel
theorem dX8_ends_196 : decode cX8_ends 196 = .ok (.iconst 3, 1) := by decide +kernel
theorem dX8_ends_197 : decode cX8_ends 197 = .ok (.iconst 4, 1) := by decide +kernel
theorem dX8_ends_198 : decode cX8_ends 198 = .ok (.invokevirtual 73, 3) := by decide +kernel
theorem dX8_ends_201 : decode cX8_ends 201 = .ok (.aload_n 0, 1) := by decide +kernel
theorem dX8_ends_202 : decode cX8_ends 202 = .ok (.iload_n 3, 1) := by decide +kernel
theorem dX8_ends_203 : decode cX8_ends 203 = .ok (.iconst 4, 1) := by decide +kernel
theorem dX8_ends_204 : decode cX8_ends 204 = .ok (.iconst 1, 1) := by decide +kernel
theorem dX8_ends_205 : decode cX8_ends 205 = .ok (.invokevirtual 73, 3) := by decide +kernel
theorem dX8_ends_208 : decode cX8_ends 208 = .ok (.iinc 3 1, 3) := by decide +kernel
theorem dX8_ends_211 : decode cX8_ends 211 = .ok (.goto (-138), 3) := by decide +kernel
theorem dX8_ends_214 : decode cX8_ends 214 = .ok (.aload_n 0, 1) := by decide +kernel
theorem dX8_ends_215 : decode cX8_ends 215 = .ok (.getfield 7, 3) := by decide +kernel
theorem dX8_ends_218 : decode cX8_ends 218 = .ok (.sipush 191, 3) := by decide +kernel
theorem dX8_ends_221 : decode cX8_ends 221 = .ok (.dup2, 1) := by decide +kernel
theorem dX8_ends_222 : decode cX8_ends 222 = .ok (.iaload, 1) := by decide +kernel
theorem dX8_ends_223 : decode cX8_ends 223 = .ok (.iconst 1, 1) := by decide +kernel
theorem dX8_ends_224 : decode cX8_ends 224 = .ok (.iadd, 1) := by decide +kernel
theorem dX8_ends_225 : decode cX8_ends 225 = .ok (.iastore, 1) := by decide +kernel
theorem dX8_ends_226 : decode cX8_ends 226 = .ok (.iload_n 2, 1) := by decide +kernel
theorem dX8_ends_227 : decode cX8_ends 227 = .ok (.ireturn, 1) := by decide +kernel
theorem dX8_endTurn_0 : decode cX8_endTurn 0 = .ok (.aload_n 0, 1) := by decide +kernel
theorem dX8_endTurn_1 : decode cX8_endTurn 1 = .ok (.iconst 0, 1) := by decide +kernel
theorem dX8_endTurn_2 : decode cX8_endTurn 2 = .ok (.putfield 44, 3) := by decide +kernel
theorem dX8_endTurn_5 : decode cX8_endTurn 5 = .ok (.aload_n 0, 1) := by decide +kernel
theorem dX8_endTurn_6 : decode cX8_endTurn 6 = .ok (.getfield 7, 3) := by decide +kernel
theorem dX8_endTurn_9 : decode cX8_endTurn 9 = .ok (.sipush 191, 3) := by decide +kernel
theorem dX8_endTurn_12 : decode cX8_endTurn 12 = .ok (.iaload, 1) := by decide +kernel
theorem dX8_endTurn_13 : decode cX8_endTurn 13 = .ok (.sipush 999, 3) := by decide +kernel
theorem dX8_endTurn_16 : decode cX8_endTurn 16 = .ok (.if_icmp .ne 6, 3) := by decide +kernel
theorem dX8_endTurn_19 : decode cX8_endTurn 19 = .ok (.bipush (-3), 2) := by decide +kernel
theorem dX8_endTurn_21 : decode cX8_endTurn 21 = .ok (.ireturn, 1) := by decide +kernel
theorem dX8_endTurn_22 : decode cX8_endTurn 22 = .ok (.aload_n 0, 1) := by decide +kernel
theorem dX8_endTurn_23 : decode cX8_endTurn 23 = .ok (.invokevirtual 127, 3) := by decide +kernel
theorem dX8_endTurn_26 : decode cX8_endTurn 26 = .ok (.aload_n 0, 1) := by decide +kernel
theorem dX8_endTurn_27 : decode cX8_endTurn 27 = .ok (.invokevirtual 163, 3) := by decide +kernel
theorem dX8_endTurn_30 : decode cX8_endTurn 30 = .ok (.ireturn, 1) := by decide +kernel
theorem dX8_type_0 : decode cX8_type 0 = .ok (.aload_n 0, 1) := by decide +kernel
theorem dX8_type_1 : decode cX8_type 1 = .ok (.iconst 0, 1) := by decide +kernel
theorem dX8_type_2 : decode cX8_type 2 = .ok (.putfield 44, 3) := by decide +kernel
theorem dX8_type_5 : decode cX8_type 5 = .ok (.aload_n 0, 1) := by decide +kernel
theorem dX8_type_6 : decode cX8_type 6 = .ok (.getfield 166, 3) := by decide +kernel
theorem dX8_type_9 : decode cX8_type 9 = .ok (.bipush 60, 2) := by decide +kernel
theorem dX8_type_11 : decode cX8_type 11 = .ok (.if_icmp .ne 6, 3) := by decide +kernel
theorem dX8_type_14 : decode cX8_type 14 = .ok (.bipush (-3), 2) := by decide +kernel
theorem dX8_type_16 : decode cX8_type 16 = .ok (.ireturn, 1) := by decide +kernel
theorem dX8_type_17 : decode cX8_type 17 = .ok (.aload_n 0, 1) := by decide +kernel
theorem dX8_type_18 : decode cX8_type 18 = .ok (.getfield 22, 3) := by decide +kernel
theorem dX8_type_21 : decode cX8_type 21 = .ok (.aload_n 0, 1) := by decide +kernel
theorem dX8_type_22 : decode cX8_type 22 = .ok (.getfield 166, 3) := by decide +kernel
theorem dX8_type_25 : decode cX8_type 25 = .ok (.iload_n 1, 1) := by decide +kernel
theorem dX8_type_26 : decode cX8_type 26 = .ok (.iastore, 1) := by decide +kernel
theorem dX8_type_27 : decode cX8_type 27 = .ok (.aload_n 0, 1) := by decide +kernel
theorem dX8_type_28 : decode cX8_type 28 = .ok (.dup, 1) := by decide +kernel
theorem dX8_type_29 : decode cX8_type 29 = .ok (.getfield 166, 3) := by decide +kernel
theorem dX8_type_32 : decode cX8_type 32 = .ok (.iconst 1, 1) := by decide +kernel
theorem dX8_type_33 : decode cX8_type 33 = .ok (.iadd, 1) := by decide +kernel
theorem dX8_type_34 : decode cX8_type 34 = .ok (.putfield 166, 3) := by decide +kernel
theorem dX8_type_37 : decode cX8_type 37 = .ok (.aload_n 0, 1) := by decide +kernel
theorem dX8_type_38 : decode cX8_type 38 = .ok (.getfield 166, 3) := by decide +kernel
theorem dX8_type_41 : decode cX8_type 41 = .ok (.ireturn, 1) := by decide +kernel
theorem dX8_clearText_0 : decode cX8_clearText 0 = .ok (.aload_n 0, 1) := by decide +kernel
theorem dX8_clearText_1 : decode cX8_clearText 1 = .ok (.iconst 0, 1) := by decide +kernel
theorem dX8_clearText_2 : decode cX8_clearText 2 = .ok (.putfield 44, 3) := by decide +kernel
theorem dX8_clearText_5 : decode cX8_clearText 5 = .ok (.aload_n 0, 1) := by decide +kernel
theorem dX8_clearText_6 : decode cX8_clearText 6 = .ok (.getfield 166, 3) := by decide +kernel
theorem dX8_clearText_9 : decode cX8_clearText 9 = .ok (.istore_n 1, 1) := by decide +kernel
theorem dX8_clearText_10 : decode cX8_clearText 10 = .ok (.aload_n 0, 1) := by decide +kernel
theorem dX8_clearText_11 : decode cX8_clearText 11 = .ok (.iconst 0, 1) := by decide +kernel
theorem dX8_clearText_12 : decode cX8_clearText 12 = .ok (.putfield 166, 3) := by decide +kernel
theorem dX8_clearText_15 : decode cX8_clearText 15 = .ok (.iload_n 1, 1) := by decide +kernel
theorem dX8_clearText_16 : decode cX8_clearText 16 = .ok (.ireturn, 1) := by decide +kernel
theorem dX8_sign_0 : decode cX8_sign 0 = .ok (.aload_n 0, 1) := by decide +kernel
theorem dX8_sign_1 : decode cX8_sign 1 = .ok (.getfield 169, 3) := by decide +kernel
theorem dX8_sign_4 : decode cX8_sign 4 = .ok (.aload_n 0, 1) := by decide +kernel
theorem dX8_sign_5 : decode cX8_sign 5 = .ok (.getfield 166, 3) := by decide +kernel
theorem dX8_sign_8 : decode cX8_sign 8 = .ok (.if_icmp .ge 15, 3) := by decide +kernel
theorem dX8_sign_11 : decode cX8_sign 11 = .ok (.aload_n 0, 1) := by decide +kernel
theorem dX8_sign_12 : decode cX8_sign 12 = .ok (.getfield 22, 3) := by decide +kernel
theorem dX8_sign_15 : decode cX8_sign 15 = .ok (.aload_n 0, 1) := by decide +kernel
theorem dX8_sign_16 : decode cX8_sign 16 = .ok (.getfield 169, 3) := by decide +kernel
theorem dX8_sign_19 : decode cX8_sign 19 = .ok (.iaload, 1) := by decide +kernel
theorem dX8_sign_20 : decode cX8_sign 20 = .ok (.goto 4, 3) := by decide +kernel
theorem dX8_sign_23 : decode cX8_sign 23 = .ok (.iconst 0, 1) := by decide +kernel
theorem dX8_sign_24 : decode cX8_sign 24 = .ok (.ireturn, 1) := by decide +kernel
theorem dX8_takes_0 : decode cX8_takes 0 = .ok (.aload_n 0, 1) := by decide +kernel
theorem dX8_takes_1 : decode cX8_takes 1 = .ok (.aload_n 0, 1) := by decide +kernel
theorem dX8_takes_2 : decode cX8_takes 2 = .ok (.getfield 172, 3) := by decide +kernel
theorem dX8_takes_5 : decode cX8_takes 5 = .ok (.ifCond .eq 19, 3) := by decide +kernel
theorem dX8_takes_8 : decode cX8_takes 8 = .ok (.aload_n 0, 1) := by decide +kernel
theorem dX8_takes_9 : decode cX8_takes 9 = .ok (.invokevirtual 176, 3) := by decide +kernel
theorem dX8_takes_12 : decode cX8_takes 12 = .ok (.iload_n 1, 1) := by decide +kernel
theorem dX8_takes_13 : decode cX8_takes 13 = .ok (.iload_n 2, 1) := by decide +kernel
theorem dX8_takes_14 : decode cX8_takes 14 = .ok (.invokestatic 48, 3) := by decide +kernel
theorem dX8_takes_17 : decode cX8_takes 17 = .ok (.ifCond .eq 7, 3) := by decide +kernel
theorem dX8_takes_20 : decode cX8_takes 20 = .ok (.iconst 1, 1) := by decide +kernel
theorem dX8_takes_21 : decode cX8_takes 21 = .ok (.goto 4, 3) := by decide +kernel
theorem dX8_takes_24 : decode cX8_takes 24 = .ok (.iconst 0, 1) := by decide +kernel
theorem dX8_takes_25 : decode cX8_takes 25 = .ok (.putfield 172, 3) := by decide +kernel
theorem dX8_takes_28 : decode cX8_takes 28 = .ok (.aload_n 0, 1) := by decide +kernel
theorem dX8_takes_29 : decode cX8_takes 29 = .ok (.invokevirtual 176, 3) := by decide +kernel
theorem dX8_takes_32 : decode cX8_takes 32 = .ok (.iload_n 1, 1) := by decide +kernel
theorem dX8_takes_33 : decode cX8_takes 33 = .ok (.isub, 1) := by decide +kernel
theorem dX8_takes_34 : decode cX8_takes 34 = .ok (.istore_n 3, 1) := by decide +kernel
theorem dX8_takes_35 : decode cX8_takes 35 = .ok (.aload_n 0, 1) := by decide +kernel
theorem dX8_takes_36 : decode cX8_takes 36 = .ok (.dup, 1) := by decide +kernel
theorem dX8_takes_37 : decode cX8_takes 37 = .ok (.getfield 169, 3) := by decide +kernel
theorem dX8_takes_40 : decode cX8_takes 40 = .ok (.aload_n 0, 1) := by decide +kernel
theorem dX8_takes_41 : decode cX8_takes 41 = .ok (.getfield 172, 3) := by decide +kernel
theorem dX8_takes_44 : decode cX8_takes 44 = .ok (.ifCond .eq 7, 3) := by decide +kernel
theorem dX8_takes_47 : decode cX8_takes 47 = .ok (.iconst 1, 1) := by decide +kernel
theorem dX8_takes_48 : decode cX8_takes 48 = .ok (.goto 4, 3) := by decide +kernel
theorem dX8_takes_51 : decode cX8_takes 51 = .ok (.iconst 0, 1) := by decide +kernel
theorem dX8_takes_52 : decode cX8_takes 52 = .ok (.iadd, 1) := by decide +kernel
theorem dX8_takes_53 : decode cX8_takes 53 = .ok (.putfield 169, 3) := by decide +kernel
theorem dX8_takes_56 : decode cX8_takes 56 = .ok (.iload_n 3, 1) := by decide +kernel
theorem dX8_takes_57 : decode cX8_takes 57 = .ok (.ireturn, 1) := by decide +kernel
theorem dX8_readsOrder_0 : decode cX8_readsOrder 0 = .ok (.iconst 2, 1) := by decide +kernel
theorem dX8_readsOrder_1 : decode cX8_readsOrder 1 = .ok (.istore_n 1, 1) := by decide +kernel
theorem dX8_readsOrder_2 : decode cX8_readsOrder 2 = .ok (.iconst 0, 1) := by decide +kernel
theorem dX8_readsOrder_3 : decode cX8_readsOrder 3 = .ok (.istore_n 2, 1) := by decide +kernel
theorem dX8_readsOrder_4 : decode cX8_readsOrder 4 = .ok (.iconst 0, 1) := by decide +kernel
theorem dX8_readsOrder_5 : decode cX8_readsOrder 5 = .ok (.istore_n 3, 1) := by decide +kernel
theorem dX8_readsOrder_6 : decode cX8_readsOrder 6 = .ok (.aload_n 0, 1) := by decide +kernel
theorem dX8_readsOrder_7 : decode cX8_readsOrder 7 = .ok (.invokevirtual 176, 3) := by decide +kernel
theorem dX8_readsOrder_10 : decode cX8_readsOrder 10 = .ok (.bipush 46, 2) := by decide +kernel
theorem dX8_readsOrder_12 : decode cX8_readsOrder 12 = .ok (.if_icmp .ne 16, 3) := by decide +kernel
theorem dX8_readsOrder_15 : decode cX8_readsOrder 15 = .ok (.aload_n 0, 1) := by decide +kernel
theorem dX8_readsOrder_16 : decode cX8_readsOrder 16 = .ok (.dup, 1) := by decide +kernel
theorem dX8_readsOrder_17 : decode cX8_readsOrder 17 = .ok (.getfield 169, 3) := by decide +kernel
theorem dX8_readsOrder_20 : decode cX8_readsOrder 20 = .ok (.iconst 1, 1) := by decide +kernel
theorem dX8_readsOrder_21 : decode cX8_readsOrder 21 = .ok (.iadd, 1) := by decide +kernel
theorem dX8_readsOrder_22 : decode cX8_readsOrder 22 = .ok (.putfield 169, 3) := by decide +kernel
theorem dX8_readsOrder_25 : decode cX8_readsOrder 25 = .ok (.goto 149, 3) := by decide +kernel
theorem dX8_readsOrder_28 : decode cX8_readsOrder 28 = .ok (.aload_n 0, 1) := by decide +kernel
theorem dX8_readsOrder_29 : decode cX8_readsOrder 29 = .ok (.bipush 48, 2) := by decide +kernel
theorem dX8_readsOrder_31 : decode cX8_readsOrder 31 = .ok (.bipush 57, 2) := by decide +kernel
theorem dX8_readsOrder_33 : decode cX8_readsOrder 33 = .ok (.invokevirtual 179, 3) := by decide +kernel
theorem dX8_readsOrder_36 : decode cX8_readsOrder 36 = .ok (.istore_n 2, 1) := by decide +kernel
theorem dX8_readsOrder_37 : decode cX8_readsOrder 37 = .ok (.aload_n 0, 1) := by decide +kernel
theorem dX8_readsOrder_38 : decode cX8_readsOrder 38 = .ok (.getfield 172, 3) := by decide +kernel
theorem dX8_readsOrder_41 : decode cX8_readsOrder 41 = .ok (.ifCond .eq 36, 3) := by decide +kernel
theorem dX8_readsOrder_44 : decode cX8_readsOrder 44 = .ok (.iload_n 2, 1) := by decide +kernel
theorem dX8_readsOrder_45 : decode cX8_readsOrder 45 = .ok (.iconst 1, 1) := by decide +kernel
theorem dX8_readsOrder_46 : decode cX8_readsOrder 46 = .ok (.if_icmp .ne 31, 3) := by decide +kernel
theorem dX8_readsOrder_49 : decode cX8_readsOrder 49 = .ok (.aload_n 0, 1) := by decide +kernel
theorem dX8_readsOrder_50 : decode cX8_readsOrder 50 = .ok (.invokevirtual 176, 3) := by decide +kernel
theorem dX8_readsOrder_53 : decode cX8_readsOrder 53 = .ok (.bipush 48, 2) := by decide +kernel
theorem dX8_readsOrder_55 : decode cX8_readsOrder 55 = .ok (.bipush 53, 2) := by decide +kernel
theorem dX8_readsOrder_57 : decode cX8_readsOrder 57 = .ok (.invokestatic 48, 3) := by decide +kernel
theorem dX8_readsOrder_60 : decode cX8_readsOrder 60 = .ok (.ifCond .eq 17, 3) := by decide +kernel
theorem dX8_readsOrder_63 : decode cX8_readsOrder 63 = .ok (.bipush 10, 2) := by decide +kernel
theorem dX8_readsOrder_65 : decode cX8_readsOrder 65 = .ok (.aload_n 0, 1) := by decide +kernel
theorem dX8_readsOrder_66 : decode cX8_readsOrder 66 = .ok (.bipush 48, 2) := by decide +kernel
theorem dX8_readsOrder_68 : decode cX8_readsOrder 68 = .ok (.bipush 53, 2) := by decide +kernel
theorem dX8_readsOrder_70 : decode cX8_readsOrder 70 = .ok (.invokevirtual 179, 3) := by decide +kernel
theorem dX8_readsOrder_73 : decode cX8_readsOrder 73 = .ok (.iadd, 1) := by decide +kernel
theorem dX8_readsOrder_74 : decode cX8_readsOrder 74 = .ok (.goto 4, 3) := by decide +kernel
theorem dX8_readsOrder_77 : decode cX8_readsOrder 77 = .ok (.iload_n 2, 1) := by decide +kernel
theorem dX8_readsOrder_78 : decode cX8_readsOrder 78 = .ok (.istore_n 2, 1) := by decide +kernel
theorem dX8_readsOrder_79 : decode cX8_readsOrder 79 = .ok (.aload_n 0, 1) := by decide +kernel
theorem dX8_readsOrder_80 : decode cX8_readsOrder 80 = .ok (.invokevirtual 176, 3) := by decide +kernel
theorem dX8_readsOrder_83 : decode cX8_readsOrder 83 = .ok (.bipush 33, 2) := by decide +kernel
theorem dX8_readsOrder_85 : decode cX8_readsOrder 85 = .ok (.if_icmp .ne 7, 3) := by decide +kernel
theorem dX8_readsOrder_88 : decode cX8_readsOrder 88 = .ok (.iconst 1, 1) := by decide +kernel
theorem dX8_readsOrder_89 : decode cX8_readsOrder 89 = .ok (.goto 4, 3) := by decide +kernel
theorem dX8_readsOrder_92 : decode cX8_readsOrder 92 = .ok (.iconst 0, 1) := by decide +kernel
theorem dX8_readsOrder_93 : decode cX8_readsOrder 93 = .ok (.istore_n 1, 1) := by decide +kernel
theorem dX8_readsOrder_94 : decode cX8_readsOrder 94 = .ok (.aload_n 0, 1) := by decide +kernel
theorem dX8_readsOrder_95 : decode cX8_readsOrder 95 = .ok (.aload_n 0, 1) := by decide +kernel
theorem dX8_readsOrder_96 : decode cX8_readsOrder 96 = .ok (.getfield 172, 3) := by decide +kernel
theorem dX8_readsOrder_99 : decode cX8_readsOrder 99 = .ok (.ifCond .eq 25, 3) := by decide +kernel
theorem dX8_readsOrder_102 : decode cX8_readsOrder 102 = .ok (.aload_n 0, 1) := by decide +kernel
theorem dX8_readsOrder_103 : decode cX8_readsOrder 103 = .ok (.invokevirtual 176, 3) := by decide +kernel
theorem dX8_readsOrder_106 : decode cX8_readsOrder 106 = .ok (.bipush 62, 2) := by decide +kernel
theorem dX8_readsOrder_108 : decode cX8_readsOrder 108 = .ok (.if_icmp .eq 12, 3) := by decide +kernel
theorem dX8_readsOrder_111 : decode cX8_readsOrder 111 = .ok (.aload_n 0, 1) := by decide +kernel
theorem dX8_readsOrder_112 : decode cX8_readsOrder 112 = .ok (.invokevirtual 176, 3) := by decide +kernel
theorem dX8_readsOrder_115 : decode cX8_readsOrder 115 = .ok (.bipush 33, 2) := by decide +kernel
theorem dX8_readsOrder_117 : decode cX8_readsOrder 117 = .ok (.if_icmp .ne 7, 3) := by decide +kernel
theorem dX8_readsOrder_120 : decode cX8_readsOrder 120 = .ok (.iconst 1, 1) := by decide +kernel
theorem dX8_readsOrder_121 : decode cX8_readsOrder 121 = .ok (.goto 4, 3) := by decide +kernel
theorem dX8_readsOrder_124 : decode cX8_readsOrder 124 = .ok (.iconst 0, 1) := by decide +kernel
theorem dX8_readsOrder_125 : decode cX8_readsOrder 125 = .ok (.putfield 172, 3) := by decide +kernel
theorem dX8_readsOrder_128 : decode cX8_readsOrder 128 = .ok (.aload_n 0, 1) := by decide +kernel
theorem dX8_readsOrder_129 : decode cX8_readsOrder 129 = .ok (.dup, 1) := by decide +kernel
theorem dX8_readsOrder_130 : decode cX8_readsOrder 130 = .ok (.getfield 169, 3) := by decide +kernel
theorem dX8_readsOrder_133 : decode cX8_readsOrder 133 = .ok (.aload_n 0, 1) := by decide +kernel
theorem dX8_readsOrder_134 : decode cX8_readsOrder 134 = .ok (.getfield 172, 3) := by decide +kernel
theorem dX8_readsOrder_137 : decode cX8_readsOrder 137 = .ok (.ifCond .eq 7, 3) := by decide +kernel
theorem dX8_readsOrder_140 : decode cX8_readsOrder 140 = .ok (.iconst 1, 1) := by decide +kernel
theorem dX8_readsOrder_141 : decode cX8_readsOrder 141 = .ok (.goto 4, 3) := by decide +kernel
theorem dX8_readsOrder_144 : decode cX8_readsOrder 144 = .ok (.iconst 0, 1) := by decide +kernel
theorem dX8_readsOrder_145 : decode cX8_readsOrder 145 = .ok (.iadd, 1) := by decide +kernel
theorem dX8_readsOrder_146 : decode cX8_readsOrder 146 = .ok (.putfield 169, 3) := by decide +kernel
theorem dX8_readsOrder_149 : decode cX8_readsOrder 149 = .ok (.aload_n 0, 1) := by decide +kernel
theorem dX8_readsOrder_150 : decode cX8_readsOrder 150 = .ok (.bipush 97, 2) := by decide +kernel
theorem dX8_readsOrder_152 : decode cX8_readsOrder 152 = .ok (.bipush 105, 2) := by decide +kernel
theorem dX8_readsOrder_154 : decode cX8_readsOrder 154 = .ok (.invokevirtual 179, 3) := by decide +kernel
theorem dX8_readsOrder_157 : decode cX8_readsOrder 157 = .ok (.istore 4, 2) := by decide +kernel
theorem dX8_readsOrder_159 : decode cX8_readsOrder 159 = .ok (.bipush 9, 2) := by decide +kernel
theorem dX8_readsOrder_161 : decode cX8_readsOrder 161 = .ok (.aload_n 0, 1) := by decide +kernel
theorem dX8_readsOrder_162 : decode cX8_readsOrder 162 = .ok (.bipush 49, 2) := by decide +kernel
theorem dX8_readsOrder_164 : decode cX8_readsOrder 164 = .ok (.bipush 55, 2) := by decide +kernel
theorem dX8_readsOrder_166 : decode cX8_readsOrder 166 = .ok (.invokevirtual 179, 3) := by decide +kernel
theorem dX8_readsOrder_169 : decode cX8_readsOrder 169 = .ok (.imul, 1) := by decide +kernel
theorem dX8_readsOrder_170 : decode cX8_readsOrder 170 = .ok (.iload 4, 2) := by decide +kernel
theorem dX8_readsOrder_172 : decode cX8_readsOrder 172 = .ok (.iadd, 1) := by decide +kernel
theorem dX8_readsOrder_173 : decode cX8_readsOrder 173 = .ok (.istore_n 3, 1) := by decide +kernel
theorem dX8_readsOrder_174 : decode cX8_readsOrder 174 = .ok (.aload_n 0, 1) := by decide +kernel
theorem dX8_readsOrder_175 : decode cX8_readsOrder 175 = .ok (.getfield 172, 3) := by decide +kernel
theorem dX8_readsOrder_178 : decode cX8_readsOrder 178 = .ok (.ifCond .eq 53, 3) := by decide +kernel
theorem dX8_readsOrder_181 : decode cX8_readsOrder 181 = .ok (.aload_n 0, 1) := by decide +kernel
theorem dX8_readsOrder_182 : decode cX8_readsOrder 182 = .ok (.getfield 41, 3) := by decide +kernel
theorem dX8_readsOrder_185 : decode cX8_readsOrder 185 = .ok (.iconst 3, 1) := by decide +kernel
theorem dX8_readsOrder_186 : decode cX8_readsOrder 186 = .ok (.aload_n 0, 1) := by decide +kernel
theorem dX8_readsOrder_187 : decode cX8_readsOrder 187 = .ok (.getfield 182, 3) := by decide +kernel
theorem dX8_readsOrder_190 : decode cX8_readsOrder 190 = .ok (.imul, 1) := by decide +kernel
theorem dX8_readsOrder_191 : decode cX8_readsOrder 191 = .ok (.iload_n 1, 1) := by decide +kernel
theorem dX8_readsOrder_192 : decode cX8_readsOrder 192 = .ok (.iastore, 1) := by decide +kernel
theorem dX8_readsOrder_193 : decode cX8_readsOrder 193 = .ok (.aload_n 0, 1) := by decide +kernel
theorem dX8_readsOrder_194 : decode cX8_readsOrder 194 = .ok (.getfield 41, 3) := by decide +kernel
theorem dX8_readsOrder_197 : decode cX8_readsOrder 197 = .ok (.iconst 3, 1) := by decide +kernel
theorem dX8_readsOrder_198 : decode cX8_readsOrder 198 = .ok (.aload_n 0, 1) := by decide +kernel
theorem dX8_readsOrder_199 : decode cX8_readsOrder 199 = .ok (.getfield 182, 3) := by decide +kernel
theorem dX8_readsOrder_202 : decode cX8_readsOrder 202 = .ok (.imul, 1) := by decide +kernel
theorem dX8_readsOrder_203 : decode cX8_readsOrder 203 = .ok (.iconst 1, 1) := by decide +kernel
theorem dX8_readsOrder_204 : decode cX8_readsOrder 204 = .ok (.iadd, 1) := by decide +kernel
theorem dX8_readsOrder_205 : decode cX8_readsOrder 205 = .ok (.iload_n 2, 1) := by decide +kernel
theorem dX8_readsOrder_206 : decode cX8_readsOrder 206 = .ok (.iastore, 1) := by decide +kernel
theorem dX8_readsOrder_207 : decode cX8_readsOrder 207 = .ok (.aload_n 0, 1) := by decide +kernel
theorem dX8_readsOrder_208 : decode cX8_readsOrder 208 = .ok (.getfield 41, 3) := by decide +kernel
theorem dX8_readsOrder_211 : decode cX8_readsOrder 211 = .ok (.iconst 3, 1) := by decide +kernel
theorem dX8_readsOrder_212 : decode cX8_readsOrder 212 = .ok (.aload_n 0, 1) := by decide +kernel
theorem dX8_readsOrder_213 : decode cX8_readsOrder 213 = .ok (.getfield 182, 3) := by decide +kernel
theorem dX8_readsOrder_216 : decode cX8_readsOrder 216 = .ok (.imul, 1) := by decide +kernel
theorem dX8_readsOrder_217 : decode cX8_readsOrder 217 = .ok (.iconst 2, 1) := by decide +kernel
theorem dX8_readsOrder_218 : decode cX8_readsOrder 218 = .ok (.iadd, 1) := by decide +kernel
theorem dX8_readsOrder_219 : decode cX8_readsOrder 219 = .ok (.iload_n 3, 1) := by decide +kernel
theorem dX8_readsOrder_220 : decode cX8_readsOrder 220 = .ok (.iastore, 1) := by decide +kernel
theorem dX8_readsOrder_221 : decode cX8_readsOrder 221 = .ok (.aload_n 0, 1) := by decide +kernel
theorem dX8_readsOrder_222 : decode cX8_readsOrder 222 = .ok (.dup, 1) := by decide +kernel
theorem dX8_readsOrder_223 : decode cX8_readsOrder 223 = .ok (.getfield 182, 3) := by decide +kernel
theorem dX8_readsOrder_226 : decode cX8_readsOrder 226 = .ok (.iconst 1, 1) := by decide +kernel
theorem dX8_readsOrder_227 : decode cX8_readsOrder 227 = .ok (.iadd, 1) := by decide +kernel
theorem dX8_readsOrder_228 : decode cX8_readsOrder 228 = .ok (.putfield 182, 3) := by decide +kernel
theorem dX8_readsOrder_231 : decode cX8_readsOrder 231 = .ok (.return_, 1) := by decide +kernel
theorem dX8_reads_0 : decode cX8_reads 0 = .ok (.aload_n 0, 1) := by decide +kernel
theorem dX8_reads_1 : decode cX8_reads 1 = .ok (.iconst 0, 1) := by decide +kernel
theorem dX8_reads_2 : decode cX8_reads 2 = .ok (.putfield 169, 3) := by decide +kernel
theorem dX8_reads_5 : decode cX8_reads 5 = .ok (.aload_n 0, 1) := by decide +kernel
theorem dX8_reads_6 : decode cX8_reads 6 = .ok (.iconst 1, 1) := by decide +kernel
theorem dX8_reads_7 : decode cX8_reads 7 = .ok (.putfield 172, 3) := by decide +kernel
theorem dX8_reads_10 : decode cX8_reads 10 = .ok (.aload_n 0, 1) := by decide +kernel
theorem dX8_reads_11 : decode cX8_reads 11 = .ok (.iconst 0, 1) := by decide +kernel
theorem dX8_reads_12 : decode cX8_reads 12 = .ok (.putfield 182, 3) := by decide +kernel
theorem dX8_reads_15 : decode cX8_reads 15 = .ok (.aload_n 0, 1) := by decide +kernel
theorem dX8_reads_16 : decode cX8_reads 16 = .ok (.invokevirtual 185, 3) := by decide +kernel
theorem dX8_reads_19 : decode cX8_reads 19 = .ok (.aload_n 0, 1) := by decide +kernel
theorem dX8_reads_20 : decode cX8_reads 20 = .ok (.getfield 172, 3) := by decide +kernel
theorem dX8_reads_23 : decode cX8_reads 23 = .ok (.ifCond .eq 37, 3) := by decide +kernel
theorem dX8_reads_26 : decode cX8_reads 26 = .ok (.aload_n 0, 1) := by decide +kernel
theorem dX8_reads_27 : decode cX8_reads 27 = .ok (.getfield 169, 3) := by decide +kernel
theorem dX8_reads_30 : decode cX8_reads 30 = .ok (.aload_n 0, 1) := by decide +kernel
theorem dX8_reads_31 : decode cX8_reads 31 = .ok (.getfield 166, 3) := by decide +kernel
theorem dX8_reads_34 : decode cX8_reads 34 = .ok (.if_icmp .ge 26, 3) := by decide +kernel
theorem dX8_reads_37 : decode cX8_reads 37 = .ok (.aload_n 0, 1) := by decide +kernel
theorem dX8_reads_38 : decode cX8_reads 38 = .ok (.bipush 59, 2) := by decide +kernel
theorem dX8_reads_40 : decode cX8_reads 40 = .ok (.bipush 59, 2) := by decide +kernel
theorem dX8_reads_42 : decode cX8_reads 42 = .ok (.invokevirtual 179, 3) := by decide +kernel
theorem dX8_reads_45 : decode cX8_reads 45 = .ok (.pop, 1) := by decide +kernel
theorem dX8_reads_46 : decode cX8_reads 46 = .ok (.aload_n 0, 1) := by decide +kernel
theorem dX8_reads_47 : decode cX8_reads 47 = .ok (.getfield 172, 3) := by decide +kernel
theorem dX8_reads_50 : decode cX8_reads 50 = .ok (.ifCond .eq (-31), 3) := by decide +kernel
theorem dX8_reads_53 : decode cX8_reads 53 = .ok (.aload_n 0, 1) := by decide +kernel
theorem dX8_reads_54 : decode cX8_reads 54 = .ok (.invokevirtual 185, 3) := by decide +kernel
theorem dX8_reads_57 : decode cX8_reads 57 = .ok (.goto (-38), 3) := by decide +kernel
theorem dX8_reads_60 : decode cX8_reads 60 = .ok (.aload_n 0, 1) := by decide +kernel
theorem dX8_reads_61 : decode cX8_reads 61 = .ok (.getfield 172, 3) := by decide +kernel
theorem dX8_reads_64 : decode cX8_reads 64 = .ok (.ifCond .eq 8, 3) := by decide +kernel
theorem dX8_reads_67 : decode cX8_reads 67 = .ok (.bipush (-5), 2) := by decide +kernel
theorem dX8_reads_69 : decode cX8_reads 69 = .ok (.goto 7, 3) := by decide +kernel
theorem dX8_reads_72 : decode cX8_reads 72 = .ok (.aload_n 0, 1) := by decide +kernel
theorem dX8_reads_73 : decode cX8_reads 73 = .ok (.getfield 169, 3) := by decide +kernel
theorem dX8_reads_76 : decode cX8_reads 76 = .ok (.ireturn, 1) := by decide +kernel
theorem dX8_does_0 : decode cX8_does 0 = .ok (.aload_n 0, 1) := by decide +kernel
theorem dX8_does_1 : decode cX8_does 1 = .ok (.getfield 41, 3) := by decide +kernel
theorem dX8_does_4 : decode cX8_does 4 = .ok (.iconst 3, 1) := by decide +kernel
theorem dX8_does_5 : decode cX8_does 5 = .ok (.iload_n 1, 1) := by decide +kernel
theorem dX8_does_6 : decode cX8_does 6 = .ok (.imul, 1) := by decide +kernel
theorem dX8_does_7 : decode cX8_does 7 = .ok (.iconst 1, 1) := by decide +kernel
theorem dX8_does_8 : decode cX8_does 8 = .ok (.iadd, 1) := by decide +kernel
theorem dX8_does_9 : decode cX8_does 9 = .ok (.iaload, 1) := by decide +kernel
theorem dX8_does_10 : decode cX8_does 10 = .ok (.istore_n 2, 1) := by decide +kernel
theorem dX8_does_11 : decode cX8_does 11 = .ok (.aload_n 0, 1) := by decide +kernel
theorem dX8_does_12 : decode cX8_does 12 = .ok (.getfield 41, 3) := by decide +kernel
theorem dX8_does_15 : decode cX8_does 15 = .ok (.iconst 3, 1) := by decide +kernel
theorem dX8_does_16 : decode cX8_does 16 = .ok (.iload_n 1, 1) := by decide +kernel
theorem dX8_does_17 : decode cX8_does 17 = .ok (.imul, 1) := by decide +kernel
theorem dX8_does_18 : decode cX8_does 18 = .ok (.iconst 2, 1) := by decide +kernel
theorem dX8_does_19 : decode cX8_does 19 = .ok (.iadd, 1) := by decide +kernel
theorem dX8_does_20 : decode cX8_does 20 = .ok (.iaload, 1) := by decide +kernel
theorem dX8_does_21 : decode cX8_does 21 = .ok (.istore_n 3, 1) := by decide +kernel
theorem dX8_does_22 : decode cX8_does 22 = .ok (.iconst 0, 1) := by decide +kernel
theorem dX8_does_23 : decode cX8_does 23 = .ok (.istore 4, 2) := by decide +kernel
theorem dX8_does_25 : decode cX8_does 25 = .ok (.aload_n 0, 1) := by decide +kernel
theorem dX8_does_26 : decode cX8_does 26 = .ok (.getfield 41, 3) := by decide +kernel
theorem dX8_does_29 : decode cX8_does 29 = .ok (.iconst 3, 1) := by decide +kernel
theorem dX8_does_30 : decode cX8_does 30 = .ok (.iload_n 1, 1) := by decide +kernel
theorem dX8_does_31 : decode cX8_does 31 = .ok (.imul, 1) := by decide +kernel
theorem dX8_does_32 : decode cX8_does 32 = .ok (.iaload, 1) := by decide +kernel
theorem dX8_does_33 : decode cX8_does 33 = .ok (.ifCond .ne 26, 3) := by decide +kernel
theorem dX8_does_36 : decode cX8_does 36 = .ok (.aload_n 0, 1) := by decide +kernel
theorem dX8_does_37 : decode cX8_does 37 = .ok (.iload_n 2, 1) := by decide +kernel
theorem dX8_does_38 : decode cX8_does 38 = .ok (.iload_n 3, 1) := by decide +kernel
theorem dX8_does_39 : decode cX8_does 39 = .ok (.invokevirtual 148, 3) := by decide +kernel
theorem dX8_does_42 : decode cX8_does 42 = .ok (.istore 4, 2) := by decide +kernel
theorem dX8_does_44 : decode cX8_does 44 = .ok (.iload 4, 2) := by decide +kernel
theorem dX8_does_46 : decode cX8_does 46 = .ok (.ifCond .ne 74, 3) := by decide +kernel
theorem dX8_does_49 : decode cX8_does 49 = .ok (.aload_n 0, 1) := by decide +kernel
theorem dX8_does_50 : decode cX8_does 50 = .ok (.iload_n 2, 1) := by decide +kernel
theorem dX8_does_51 : decode cX8_does 51 = .ok (.iload_n 3, 1) := by decide +kernel
theorem dX8_does_52 : decode cX8_does 52 = .ok (.invokevirtual 151, 3) := by decide +kernel
theorem dX8_does_55 : decode cX8_does 55 = .ok (.pop, 1) := by decide +kernel
theorem dX8_does_56 : decode cX8_does 56 = .ok (.goto 64, 3) := by decide +kernel
theorem dX8_does_59 : decode cX8_does 59 = .ok (.aload_n 0, 1) := by decide +kernel
theorem dX8_does_60 : decode cX8_does 60 = .ok (.getfield 41, 3) := by decide +kernel
theorem dX8_does_63 : decode cX8_does 63 = .ok (.iconst 3, 1) := by decide +kernel
theorem dX8_does_64 : decode cX8_does 64 = .ok (.iload_n 1, 1) := by decide +kernel
theorem dX8_does_65 : decode cX8_does 65 = .ok (.imul, 1) := by decide +kernel
theorem dX8_does_66 : decode cX8_does 66 = .ok (.iaload, 1) := by decide +kernel
theorem dX8_does_67 : decode cX8_does 67 = .ok (.iconst 1, 1) := by decide +kernel
theorem dX8_does_68 : decode cX8_does 68 = .ok (.if_icmp .ne 26, 3) := by decide +kernel
theorem dX8_does_71 : decode cX8_does 71 = .ok (.aload_n 0, 1) := by decide +kernel
theorem dX8_does_72 : decode cX8_does 72 = .ok (.iload_n 2, 1) := by decide +kernel
theorem dX8_does_73 : decode cX8_does 73 = .ok (.iload_n 3, 1) := by decide +kernel
theorem dX8_does_74 : decode cX8_does 74 = .ok (.invokevirtual 157, 3) := by decide +kernel
theorem dX8_does_77 : decode cX8_does 77 = .ok (.istore 4, 2) := by decide +kernel
theorem dX8_does_79 : decode cX8_does 79 = .ok (.iload 4, 2) := by decide +kernel
theorem dX8_does_81 : decode cX8_does 81 = .ok (.ifCond .ne 39, 3) := by decide +kernel
theorem dX8_does_84 : decode cX8_does 84 = .ok (.aload_n 0, 1) := by decide +kernel
theorem dX8_does_85 : decode cX8_does 85 = .ok (.iload_n 2, 1) := by decide +kernel
theorem dX8_does_86 : decode cX8_does 86 = .ok (.iload_n 3, 1) := by decide +kernel
theorem dX8_does_87 : decode cX8_does 87 = .ok (.invokevirtual 160, 3) := by decide +kernel
theorem dX8_does_90 : decode cX8_does 90 = .ok (.pop, 1) := by decide +kernel
theorem dX8_does_91 : decode cX8_does 91 = .ok (.goto 29, 3) := by decide +kernel
theorem dX8_does_94 : decode cX8_does 94 = .ok (.aload_n 0, 1) := by decide +kernel
theorem dX8_does_95 : decode cX8_does 95 = .ok (.getfield 7, 3) := by decide +kernel
theorem dX8_does_98 : decode cX8_does 98 = .ok (.sipush 191, 3) := by decide +kernel
theorem dX8_does_101 : decode cX8_does 101 = .ok (.iaload, 1) := by decide +kernel
theorem dX8_does_102 : decode cX8_does 102 = .ok (.sipush 999, 3) := by decide +kernel
theorem dX8_does_105 : decode cX8_does 105 = .ok (.if_icmp .ne 10, 3) := by decide +kernel
theorem dX8_does_108 : decode cX8_does 108 = .ok (.bipush (-3), 2) := by decide +kernel
theorem dX8_does_110 : decode cX8_does 110 = .ok (.istore 4, 2) := by decide +kernel
theorem dX8_does_112 : decode cX8_does 112 = .ok (.goto 8, 3) := by decide +kernel
theorem dX8_does_115 : decode cX8_does 115 = .ok (.aload_n 0, 1) := by decide +kernel
theorem dX8_does_116 : decode cX8_does 116 = .ok (.invokevirtual 163, 3) := by decide +kernel
theorem dX8_does_119 : decode cX8_does 119 = .ok (.pop, 1) := by decide +kernel
theorem dX8_does_120 : decode cX8_does 120 = .ok (.iload 4, 2) := by decide +kernel
theorem dX8_does_122 : decode cX8_does 122 = .ok (.bipush (-5), 2) := by decide +kernel
theorem dX8_does_124 : decode cX8_does 124 = .ok (.if_icmp .ne 7, 3) := by decide +kernel
theorem dX8_does_127 : decode cX8_does 127 = .ok (.iconst 0, 1) := by decide +kernel
theorem dX8_does_128 : decode cX8_does 128 = .ok (.goto 5, 3) := by decide +kernel
theorem dX8_does_131 : decode cX8_does 131 = .ok (.iload 4, 2) := by decide +kernel
theorem dX8_does_133 : decode cX8_does 133 = .ok (.ireturn, 1) := by decide +kernel
theorem dX8_perform_0 : decode cX8_perform 0 = .ok (.aload_n 0, 1) := by decide +kernel
theorem dX8_perform_1 : decode cX8_perform 1 = .ok (.iconst 0, 1) := by decide +kernel
theorem dX8_perform_2 : decode cX8_perform 2 = .ok (.putfield 44, 3) := by decide +kernel
theorem dX8_perform_5 : decode cX8_perform 5 = .ok (.aload_n 0, 1) := by decide +kernel
theorem dX8_perform_6 : decode cX8_perform 6 = .ok (.invokevirtual 188, 3) := by decide +kernel
theorem dX8_perform_9 : decode cX8_perform 9 = .ok (.istore_n 1, 1) := by decide +kernel
theorem dX8_perform_10 : decode cX8_perform 10 = .ok (.iload_n 1, 1) := by decide +kernel
theorem dX8_perform_11 : decode cX8_perform 11 = .ok (.bipush (-5), 2) := by decide +kernel
theorem dX8_perform_13 : decode cX8_perform 13 = .ok (.if_icmp .eq 8, 3) := by decide +kernel
theorem dX8_perform_16 : decode cX8_perform 16 = .ok (.bipush (-100), 2) := by decide +kernel
theorem dX8_perform_18 : decode cX8_perform 18 = .ok (.iload_n 1, 1) := by decide +kernel
theorem dX8_perform_19 : decode cX8_perform 19 = .ok (.isub, 1) := by decide +kernel
theorem dX8_perform_20 : decode cX8_perform 20 = .ok (.ireturn, 1) := by decide +kernel
theorem dX8_perform_21 : decode cX8_perform 21 = .ok (.aload_n 0, 1) := by decide +kernel
theorem dX8_perform_22 : decode cX8_perform 22 = .ok (.invokevirtual 191, 3) := by decide +kernel
theorem dX8_perform_25 : decode cX8_perform 25 = .ok (.iconst 0, 1) := by decide +kernel
theorem dX8_perform_26 : decode cX8_perform 26 = .ok (.istore_n 2, 1) := by decide +kernel
theorem dX8_perform_27 : decode cX8_perform 27 = .ok (.iconst 0, 1) := by decide +kernel
theorem dX8_perform_28 : decode cX8_perform 28 = .ok (.istore_n 3, 1) := by decide +kernel
theorem dX8_perform_29 : decode cX8_perform 29 = .ok (.iload_n 3, 1) := by decide +kernel
theorem dX8_perform_30 : decode cX8_perform 30 = .ok (.aload_n 0, 1) := by decide +kernel
theorem dX8_perform_31 : decode cX8_perform 31 = .ok (.getfield 182, 3) := by decide +kernel
theorem dX8_perform_34 : decode cX8_perform 34 = .ok (.if_icmp .ge 19, 3) := by decide +kernel
theorem dX8_perform_37 : decode cX8_perform 37 = .ok (.iload_n 2, 1) := by decide +kernel
theorem dX8_perform_38 : decode cX8_perform 38 = .ok (.ifCond .ne 15, 3) := by decide +kernel
theorem dX8_perform_41 : decode cX8_perform 41 = .ok (.aload_n 0, 1) := by decide +kernel
theorem dX8_perform_42 : decode cX8_perform 42 = .ok (.iload_n 3, 1) := by decide +kernel
theorem dX8_perform_43 : decode cX8_perform 43 = .ok (.invokevirtual 194, 3) := by decide +kernel
theorem dX8_perform_46 : decode cX8_perform 46 = .ok (.istore_n 2, 1) := by decide +kernel
theorem dX8_perform_47 : decode cX8_perform 47 = .ok (.iinc 3 1, 3) := by decide +kernel
theorem dX8_perform_50 : decode cX8_perform 50 = .ok (.goto (-21), 3) := by decide +kernel
theorem dX8_perform_53 : decode cX8_perform 53 = .ok (.aload_n 0, 1) := by decide +kernel
theorem dX8_perform_54 : decode cX8_perform 54 = .ok (.invokevirtual 197, 3) := by decide +kernel
theorem dX8_perform_57 : decode cX8_perform 57 = .ok (.iload_n 2, 1) := by decide +kernel
theorem dX8_perform_58 : decode cX8_perform 58 = .ok (.ifCond .eq 5, 3) := by decide +kernel
theorem dX8_perform_61 : decode cX8_perform 61 = .ok (.iload_n 2, 1) := by decide +kernel
theorem dX8_perform_62 : decode cX8_perform 62 = .ok (.ireturn, 1) := by decide +kernel
theorem dX8_perform_63 : decode cX8_perform 63 = .ok (.aload_n 0, 1) := by decide +kernel
theorem dX8_perform_64 : decode cX8_perform 64 = .ok (.invokevirtual 127, 3) := by decide +kernel
theorem dX8_perform_67 : decode cX8_perform 67 = .ok (.iconst 0, 1) := by decide +kernel
theorem dX8_perform_68 : decode cX8_perform 68 = .ok (.istore_n 3, 1) := by decide +kernel
theorem dX8_perform_69 : decode cX8_perform 69 = .ok (.iload_n 3, 1) := by decide +kernel
theorem dX8_perform_70 : decode cX8_perform 70 = .ok (.aload_n 0, 1) := by decide +kernel
theorem dX8_perform_71 : decode cX8_perform 71 = .ok (.getfield 182, 3) := by decide +kernel
theorem dX8_perform_74 : decode cX8_perform 74 = .ok (.if_icmp .ge 15, 3) := by decide +kernel
theorem dX8_perform_77 : decode cX8_perform 77 = .ok (.aload_n 0, 1) := by decide +kernel
theorem dX8_perform_78 : decode cX8_perform 78 = .ok (.iload_n 3, 1) := by decide +kernel
theorem dX8_perform_79 : decode cX8_perform 79 = .ok (.invokevirtual 194, 3) := by decide +kernel
theorem dX8_perform_82 : decode cX8_perform 82 = .ok (.pop, 1) := by decide +kernel
theorem dX8_perform_83 : decode cX8_perform 83 = .ok (.iinc 3 1, 3) := by decide +kernel
theorem dX8_perform_86 : decode cX8_perform 86 = .ok (.goto (-17), 3) := by decide +kernel
theorem dX8_perform_89 : decode cX8_perform 89 = .ok (.aload_n 0, 1) := by decide +kernel
theorem dX8_perform_90 : decode cX8_perform 90 = .ok (.getfield 182, 3) := by decide +kernel
theorem dX8_perform_93 : decode cX8_perform 93 = .ok (.ireturn, 1) := by decide +kernel
theorem dX8_undo_0 : decode cX8_undo 0 = .ok (.aload_n 0, 1) := by decide +kernel
theorem dX8_undo_1 : decode cX8_undo 1 = .ok (.iconst 0, 1) := by decide +kernel
theorem dX8_undo_2 : decode cX8_undo 2 = .ok (.putfield 44, 3) := by decide +kernel
theorem dX8_undo_5 : decode cX8_undo 5 = .ok (.aload_n 0, 1) := by decide +kernel
theorem dX8_undo_6 : decode cX8_undo 6 = .ok (.getfield 56, 3) := by decide +kernel
theorem dX8_undo_9 : decode cX8_undo 9 = .ok (.ifCond .ne 6, 3) := by decide +kernel
theorem dX8_undo_12 : decode cX8_undo 12 = .ok (.bipush (-5), 2) := by decide +kernel
theorem dX8_undo_14 : decode cX8_undo 14 = .ok (.ireturn, 1) := by decide +kernel
theorem dX8_undo_15 : decode cX8_undo 15 = .ok (.aload_n 0, 1) := by decide +kernel
theorem dX8_undo_16 : decode cX8_undo 16 = .ok (.dup, 1) := by decide +kernel
theorem dX8_undo_17 : decode cX8_undo 17 = .ok (.getfield 56, 3) := by decide +kernel
theorem dX8_undo_20 : decode cX8_undo 20 = .ok (.iconst 1, 1) := by decide +kernel
theorem dX8_undo_21 : decode cX8_undo 21 = .ok (.isub, 1) := by decide +kernel
theorem dX8_undo_22 : decode cX8_undo 22 = .ok (.putfield 56, 3) := by decide +kernel
theorem dX8_undo_25 : decode cX8_undo 25 = .ok (.iconst 0, 1) := by decide +kernel
theorem dX8_undo_26 : decode cX8_undo 26 = .ok (.istore_n 1, 1) := by decide +kernel
theorem dX8_undo_27 : decode cX8_undo 27 = .ok (.iload_n 1, 1) := by decide +kernel
theorem dX8_undo_28 : decode cX8_undo 28 = .ok (.sipush 289, 3) := by decide +kernel
theorem dX8_undo_31 : decode cX8_undo 31 = .ok (.if_icmp .ge 30, 3) := by decide +kernel
theorem dX8_undo_34 : decode cX8_undo 34 = .ok (.aload_n 0, 1) := by decide +kernel
theorem dX8_undo_35 : decode cX8_undo 35 = .ok (.getfield 7, 3) := by decide +kernel
theorem dX8_undo_38 : decode cX8_undo 38 = .ok (.iload_n 1, 1) := by decide +kernel
theorem dX8_undo_39 : decode cX8_undo 39 = .ok (.aload_n 0, 1) := by decide +kernel
theorem dX8_undo_40 : decode cX8_undo 40 = .ok (.getfield 16, 3) := by decide +kernel
theorem dX8_undo_43 : decode cX8_undo 43 = .ok (.sipush 289, 3) := by decide +kernel
theorem dX8_undo_46 : decode cX8_undo 46 = .ok (.aload_n 0, 1) := by decide +kernel
theorem dX8_undo_47 : decode cX8_undo 47 = .ok (.getfield 56, 3) := by decide +kernel
theorem dX8_undo_50 : decode cX8_undo 50 = .ok (.imul, 1) := by decide +kernel
theorem dX8_undo_51 : decode cX8_undo 51 = .ok (.iload_n 1, 1) := by decide +kernel
theorem dX8_undo_52 : decode cX8_undo 52 = .ok (.iadd, 1) := by decide +kernel
theorem dX8_undo_53 : decode cX8_undo 53 = .ok (.iaload, 1) := by decide +kernel
theorem dX8_undo_54 : decode cX8_undo 54 = .ok (.iastore, 1) := by decide +kernel
theorem dX8_undo_55 : decode cX8_undo 55 = .ok (.iinc 1 1, 3) := by decide +kernel
theorem dX8_undo_58 : decode cX8_undo 58 = .ok (.goto (-31), 3) := by decide +kernel
theorem dX8_undo_61 : decode cX8_undo 61 = .ok (.aload_n 0, 1) := by decide +kernel
theorem dX8_undo_62 : decode cX8_undo 62 = .ok (.getfield 56, 3) := by decide +kernel
theorem dX8_undo_65 : decode cX8_undo 65 = .ok (.ireturn, 1) := by decide +kernel
theorem dX8_keep_0 : decode cX8_keep 0 = .ok (.aload_n 0, 1) := by decide +kernel
theorem dX8_keep_1 : decode cX8_keep 1 = .ok (.iconst 0, 1) := by decide +kernel
theorem dX8_keep_2 : decode cX8_keep 2 = .ok (.putfield 44, 3) := by decide +kernel
theorem dX8_keep_5 : decode cX8_keep 5 = .ok (.iconst 0, 1) := by decide +kernel
theorem dX8_keep_6 : decode cX8_keep 6 = .ok (.istore_n 1, 1) := by decide +kernel
theorem dX8_keep_7 : decode cX8_keep 7 = .ok (.iload_n 1, 1) := by decide +kernel
theorem dX8_keep_8 : decode cX8_keep 8 = .ok (.sipush 289, 3) := by decide +kernel
theorem dX8_keep_11 : decode cX8_keep 11 = .ok (.if_icmp .ge 21, 3) := by decide +kernel
theorem dX8_keep_14 : decode cX8_keep 14 = .ok (.aload_n 0, 1) := by decide +kernel
theorem dX8_keep_15 : decode cX8_keep 15 = .ok (.getfield 19, 3) := by decide +kernel
theorem dX8_keep_18 : decode cX8_keep 18 = .ok (.iload_n 1, 1) := by decide +kernel
theorem dX8_keep_19 : decode cX8_keep 19 = .ok (.aload_n 0, 1) := by decide +kernel
theorem dX8_keep_20 : decode cX8_keep 20 = .ok (.getfield 7, 3) := by decide +kernel
theorem dX8_keep_23 : decode cX8_keep 23 = .ok (.iload_n 1, 1) := by decide +kernel
theorem dX8_keep_24 : decode cX8_keep 24 = .ok (.iaload, 1) := by decide +kernel
theorem dX8_keep_25 : decode cX8_keep 25 = .ok (.iastore, 1) := by decide +kernel
theorem dX8_keep_26 : decode cX8_keep 26 = .ok (.iinc 1 1, 3) := by decide +kernel
theorem dX8_keep_29 : decode cX8_keep 29 = .ok (.goto (-22), 3) := by decide +kernel
theorem dX8_keep_32 : decode cX8_keep 32 = .ok (.aload_n 0, 1) := by decide +kernel
theorem dX8_keep_33 : decode cX8_keep 33 = .ok (.iconst 1, 1) := by decide +kernel
theorem dX8_keep_34 : decode cX8_keep 34 = .ok (.putfield 200, 3) := by decide +kernel
theorem dX8_keep_37 : decode cX8_keep 37 = .ok (.aload_n 0, 1) := by decide +kernel
theorem dX8_keep_38 : decode cX8_keep 38 = .ok (.getfield 7, 3) := by decide +kernel
theorem dX8_keep_41 : decode cX8_keep 41 = .ok (.sipush 191, 3) := by decide +kernel
theorem dX8_keep_44 : decode cX8_keep 44 = .ok (.iaload, 1) := by decide +kernel
theorem dX8_keep_45 : decode cX8_keep 45 = .ok (.ireturn, 1) := by decide +kernel
theorem dX8_restore_0 : decode cX8_restore 0 = .ok (.aload_n 0, 1) := by decide +kernel
theorem dX8_restore_1 : decode cX8_restore 1 = .ok (.iconst 0, 1) := by decide +kernel
theorem dX8_restore_2 : decode cX8_restore 2 = .ok (.putfield 44, 3) := by decide +kernel
theorem dX8_restore_5 : decode cX8_restore 5 = .ok (.aload_n 0, 1) := by decide +kernel
theorem dX8_restore_6 : decode cX8_restore 6 = .ok (.getfield 200, 3) := by decide +kernel
theorem dX8_restore_9 : decode cX8_restore 9 = .ok (.ifCond .ne 6, 3) := by decide +kernel
theorem dX8_restore_12 : decode cX8_restore 12 = .ok (.bipush (-5), 2) := by decide +kernel
theorem dX8_restore_14 : decode cX8_restore 14 = .ok (.ireturn, 1) := by decide +kernel
theorem dX8_restore_15 : decode cX8_restore 15 = .ok (.aload_n 0, 1) := by decide +kernel
theorem dX8_restore_16 : decode cX8_restore 16 = .ok (.invokevirtual 127, 3) := by decide +kernel
theorem dX8_restore_19 : decode cX8_restore 19 = .ok (.iconst 0, 1) := by decide +kernel
theorem dX8_restore_20 : decode cX8_restore 20 = .ok (.istore_n 1, 1) := by decide +kernel
theorem dX8_restore_21 : decode cX8_restore 21 = .ok (.iload_n 1, 1) := by decide +kernel
theorem dX8_restore_22 : decode cX8_restore 22 = .ok (.sipush 289, 3) := by decide +kernel
theorem dX8_restore_25 : decode cX8_restore 25 = .ok (.if_icmp .ge 21, 3) := by decide +kernel
theorem dX8_restore_28 : decode cX8_restore 28 = .ok (.aload_n 0, 1) := by decide +kernel
theorem dX8_restore_29 : decode cX8_restore 29 = .ok (.getfield 7, 3) := by decide +kernel
theorem dX8_restore_32 : decode cX8_restore 32 = .ok (.iload_n 1, 1) := by decide +kernel
theorem dX8_restore_33 : decode cX8_restore 33 = .ok (.aload_n 0, 1) := by decide +kernel
theorem dX8_restore_34 : decode cX8_restore 34 = .ok (.getfield 19, 3) := by decide +kernel
theorem dX8_restore_37 : decode cX8_restore 37 = .ok (.iload_n 1, 1) := by decide +kernel
theorem dX8_restore_38 : decode cX8_restore 38 = .ok (.iaload, 1) := by decide +kernel
theorem dX8_restore_39 : decode cX8_restore 39 = .ok (.iastore, 1) := by decide +kernel
theorem dX8_restore_40 : decode cX8_restore 40 = .ok (.iinc 1 1, 3) := by decide +kernel
theorem dX8_restore_43 : decode cX8_restore 43 = .ok (.goto (-22), 3) := by decide +kernel
theorem dX8_restore_46 : decode cX8_restore 46 = .ok (.aload_n 0, 1) := by decide +kernel
theorem dX8_restore_47 : decode cX8_restore 47 = .ok (.getfield 7, 3) := by decide +kernel
theorem dX8_restore_50 : decode cX8_restore 50 = .ok (.sipush 191, 3) := by decide +kernel
theorem dX8_restore_53 : decode cX8_restore 53 = .ok (.iaload, 1) := by decide +kernel
theorem dX8_restore_54 : decode cX8_restore 54 = .ok (.ireturn, 1) := by decide +kernel
theorem dX8_besides_0 : decode cX8_besides 0 = .ok (.iconst 0, 1) := by decide +kernel
theorem dX8_besides_1 : decode cX8_besides 1 = .ok (.istore_n 2, 1) := by decide +kernel
theorem dX8_besides_2 : decode cX8_besides 2 = .ok (.iconst 0, 1) := by decide +kernel
theorem dX8_besides_3 : decode cX8_besides 3 = .ok (.istore_n 3, 1) := by decide +kernel
theorem dX8_besides_4 : decode cX8_besides 4 = .ok (.iload_n 3, 1) := by decide +kernel
theorem dX8_besides_5 : decode cX8_besides 5 = .ok (.bipush 6, 2) := by decide +kernel
theorem dX8_besides_7 : decode cX8_besides 7 = .ok (.if_icmp .ge 27, 3) := by decide +kernel
theorem dX8_besides_10 : decode cX8_besides 10 = .ok (.iload_n 2, 1) := by decide +kernel
theorem dX8_besides_11 : decode cX8_besides 11 = .ok (.iload_n 1, 1) := by decide +kernel
theorem dX8_besides_12 : decode cX8_besides 12 = .ok (.iload_n 3, 1) := by decide +kernel
theorem dX8_besides_13 : decode cX8_besides 13 = .ok (.invokestatic 59, 3) := by decide +kernel
theorem dX8_besides_16 : decode cX8_besides 16 = .ok (.bipush (-5), 2) := by decide +kernel
theorem dX8_besides_18 : decode cX8_besides 18 = .ok (.if_icmp .ne 7, 3) := by decide +kernel
theorem dX8_besides_21 : decode cX8_besides 21 = .ok (.iconst 0, 1) := by decide +kernel
theorem dX8_besides_22 : decode cX8_besides 22 = .ok (.goto 4, 3) := by decide +kernel
theorem dX8_besides_25 : decode cX8_besides 25 = .ok (.iconst 1, 1) := by decide +kernel
theorem dX8_besides_26 : decode cX8_besides 26 = .ok (.iadd, 1) := by decide +kernel
theorem dX8_besides_27 : decode cX8_besides 27 = .ok (.istore_n 2, 1) := by decide +kernel
theorem dX8_besides_28 : decode cX8_besides 28 = .ok (.iinc 3 1, 3) := by decide +kernel
theorem dX8_besides_31 : decode cX8_besides 31 = .ok (.goto (-27), 3) := by decide +kernel
theorem dX8_besides_34 : decode cX8_besides 34 = .ok (.iload_n 2, 1) := by decide +kernel
theorem dX8_besides_35 : decode cX8_besides 35 = .ok (.ireturn, 1) := by decide +kernel
theorem dX8_hex_0 : decode cX8_hex 0 = .ok (.aload_n 0, 1) := by decide +kernel
theorem dX8_hex_1 : decode cX8_hex 1 = .ok (.iconst 0, 1) := by decide +kernel
theorem dX8_hex_2 : decode cX8_hex 2 = .ok (.putfield 44, 3) := by decide +kernel
theorem dX8_hex_5 : decode cX8_hex 5 = .ok (.iload_n 1, 1) := by decide +kernel
theorem dX8_hex_6 : decode cX8_hex 6 = .ok (.invokestatic 124, 3) := by decide +kernel
theorem dX8_hex_9 : decode cX8_hex 9 = .ok (.ifCond .ne 5, 3) := by decide +kernel
theorem dX8_hex_12 : decode cX8_hex 12 = .ok (.iconst (-1), 1) := by decide +kernel
theorem dX8_hex_13 : decode cX8_hex 13 = .ok (.ireturn, 1) := by decide +kernel
theorem dX8_hex_14 : decode cX8_hex 14 = .ok (.iload_n 2, 1) := by decide +kernel
theorem dX8_hex_15 : decode cX8_hex 15 = .ok (.tableswitch 144 0 8 #[49, 58, 68, 97, 103, 103, 120, 120, 138], 49) := by decide +kernel
theorem dX8_hex_64 : decode cX8_hex 64 = .ok (.aload_n 0, 1) := by decide +kernel
theorem dX8_hex_65 : decode cX8_hex 65 = .ok (.getfield 7, 3) := by decide +kernel
theorem dX8_hex_68 : decode cX8_hex 68 = .ok (.iconst 0, 1) := by decide +kernel
theorem dX8_hex_69 : decode cX8_hex 69 = .ok (.iload_n 1, 1) := by decide +kernel
theorem dX8_hex_70 : decode cX8_hex 70 = .ok (.iadd, 1) := by decide +kernel
theorem dX8_hex_71 : decode cX8_hex 71 = .ok (.iaload, 1) := by decide +kernel
theorem dX8_hex_72 : decode cX8_hex 72 = .ok (.ireturn, 1) := by decide +kernel
theorem dX8_hex_73 : decode cX8_hex 73 = .ok (.aload_n 0, 1) := by decide +kernel
theorem dX8_hex_74 : decode cX8_hex 74 = .ok (.getfield 7, 3) := by decide +kernel
theorem dX8_hex_77 : decode cX8_hex 77 = .ok (.bipush 63, 2) := by decide +kernel
theorem dX8_hex_79 : decode cX8_hex 79 = .ok (.iload_n 1, 1) := by decide +kernel
theorem dX8_hex_80 : decode cX8_hex 80 = .ok (.iadd, 1) := by decide +kernel
theorem dX8_hex_81 : decode cX8_hex 81 = .ok (.iaload, 1) := by decide +kernel
theorem dX8_hex_82 : decode cX8_hex 82 = .ok (.ireturn, 1) := by decide +kernel
theorem dX8_hex_83 : decode cX8_hex 83 = .ok (.aload_n 0, 1) := by decide +kernel
theorem dX8_hex_84 : decode cX8_hex 84 = .ok (.getfield 7, 3) := by decide +kernel
theorem dX8_hex_87 : decode cX8_hex 87 = .ok (.bipush 126, 2) := by decide +kernel
theorem dX8_hex_89 : decode cX8_hex 89 = .ok (.iload_n 1, 1) := by decide +kernel
theorem dX8_hex_90 : decode cX8_hex 90 = .ok (.iadd, 1) := by decide +kernel
theorem dX8_hex_91 : decode cX8_hex 91 = .ok (.iaload, 1) := by decide +kernel
theorem dX8_hex_92 : decode cX8_hex 92 = .ok (.ifCond .ne 8, 3) := by decide +kernel
theorem dX8_hex_95 : decode cX8_hex 95 = .ok (.bipush (-5), 2) := by decide +kernel
theorem dX8_hex_97 : decode cX8_hex 97 = .ok (.goto 14, 3) := by decide +kernel
theorem dX8_hex_100 : decode cX8_hex 100 = .ok (.aload_n 0, 1) := by decide +kernel
theorem dX8_hex_101 : decode cX8_hex 101 = .ok (.getfield 7, 3) := by decide +kernel
theorem dX8_hex_104 : decode cX8_hex 104 = .ok (.bipush 126, 2) := by decide +kernel
theorem dX8_hex_106 : decode cX8_hex 106 = .ok (.iload_n 1, 1) := by decide +kernel
theorem dX8_hex_107 : decode cX8_hex 107 = .ok (.iadd, 1) := by decide +kernel
theorem dX8_hex_108 : decode cX8_hex 108 = .ok (.iaload, 1) := by decide +kernel
theorem dX8_hex_109 : decode cX8_hex 109 = .ok (.iconst 1, 1) := by decide +kernel
theorem dX8_hex_110 : decode cX8_hex 110 = .ok (.isub, 1) := by decide +kernel
theorem dX8_hex_111 : decode cX8_hex 111 = .ok (.ireturn, 1) := by decide +kernel
theorem dX8_hex_112 : decode cX8_hex 112 = .ok (.aload_n 0, 1) := by decide +kernel
theorem dX8_hex_113 : decode cX8_hex 113 = .ok (.iload_n 1, 1) := by decide +kernel
theorem dX8_hex_114 : decode cX8_hex 114 = .ok (.invokevirtual 62, 3) := by decide +kernel
theorem dX8_hex_117 : decode cX8_hex 117 = .ok (.ireturn, 1) := by decide +kernel
theorem dX8_hex_118 : decode cX8_hex 118 = .ok (.aload_n 0, 1) := by decide +kernel
theorem dX8_hex_119 : decode cX8_hex 119 = .ok (.iload_n 1, 1) := by decide +kernel
theorem dX8_hex_120 : decode cX8_hex 120 = .ok (.iload_n 2, 1) := by decide +kernel
theorem dX8_hex_121 : decode cX8_hex 121 = .ok (.iconst 4, 1) := by decide +kernel
theorem dX8_hex_122 : decode cX8_hex 122 = .ok (.isub, 1) := by decide +kernel
theorem dX8_hex_123 : decode cX8_hex 123 = .ok (.invokevirtual 70, 3) := by decide +kernel
theorem dX8_hex_126 : decode cX8_hex 126 = .ok (.ifCond .eq 7, 3) := by decide +kernel
theorem dX8_hex_129 : decode cX8_hex 129 = .ok (.iconst 1, 1) := by decide +kernel
theorem dX8_hex_130 : decode cX8_hex 130 = .ok (.goto 4, 3) := by decide +kernel
theorem dX8_hex_133 : decode cX8_hex 133 = .ok (.iconst 0, 1) := by decide +kernel
theorem dX8_hex_134 : decode cX8_hex 134 = .ok (.ireturn, 1) := by decide +kernel
theorem dX8_hex_135 : decode cX8_hex 135 = .ok (.aload_n 0, 1) := by decide +kernel
theorem dX8_hex_136 : decode cX8_hex 136 = .ok (.iload_n 2, 1) := by decide +kernel
theorem dX8_hex_137 : decode cX8_hex 137 = .ok (.bipush 6, 2) := by decide +kernel
theorem dX8_hex_139 : decode cX8_hex 139 = .ok (.isub, 1) := by decide +kernel
theorem dX8_hex_140 : decode cX8_hex 140 = .ok (.iload_n 1, 1) := by decide +kernel
theorem dX8_hex_141 : decode cX8_hex 141 = .ok (.invokevirtual 203, 3) := by decide +kernel
theorem dX8_hex_144 : decode cX8_hex 144 = .ok (.ifCond .eq 7, 3) := by decide +kernel
theorem dX8_hex_147 : decode cX8_hex 147 = .ok (.iconst 1, 1) := by decide +kernel
theorem dX8_hex_148 : decode cX8_hex 148 = .ok (.goto 4, 3) := by decide +kernel
theorem dX8_hex_151 : decode cX8_hex 151 = .ok (.iconst 0, 1) := by decide +kernel
theorem dX8_hex_152 : decode cX8_hex 152 = .ok (.ireturn, 1) := by decide +kernel
theorem dX8_hex_153 : decode cX8_hex 153 = .ok (.aload_n 0, 1) := by decide +kernel
theorem dX8_hex_154 : decode cX8_hex 154 = .ok (.iload_n 1, 1) := by decide +kernel
theorem dX8_hex_155 : decode cX8_hex 155 = .ok (.invokevirtual 206, 3) := by decide +kernel
theorem dX8_hex_158 : decode cX8_hex 158 = .ok (.ireturn, 1) := by decide +kernel
theorem dX8_hex_159 : decode cX8_hex 159 = .ok (.bipush (-2), 2) := by decide +kernel
theorem dX8_hex_161 : decode cX8_hex 161 = .ok (.ireturn, 1) := by decide +kernel
theorem dX8_beside_0 : decode cX8_beside 0 = .ok (.aload_n 0, 1) := by decide +kernel
theorem dX8_beside_1 : decode cX8_beside 1 = .ok (.iconst 0, 1) := by decide +kernel
theorem dX8_beside_2 : decode cX8_beside 2 = .ok (.putfield 44, 3) := by decide +kernel
theorem dX8_beside_5 : decode cX8_beside 5 = .ok (.iload_n 1, 1) := by decide +kernel
theorem dX8_beside_6 : decode cX8_beside 6 = .ok (.invokestatic 124, 3) := by decide +kernel
theorem dX8_beside_9 : decode cX8_beside 9 = .ok (.ifCond .ne 5, 3) := by decide +kernel
theorem dX8_beside_12 : decode cX8_beside 12 = .ok (.iconst (-1), 1) := by decide +kernel
theorem dX8_beside_13 : decode cX8_beside 13 = .ok (.ireturn, 1) := by decide +kernel
theorem dX8_beside_14 : decode cX8_beside 14 = .ok (.iload_n 2, 1) := by decide +kernel
theorem dX8_beside_15 : decode cX8_beside 15 = .ok (.iconst 0, 1) := by decide +kernel
theorem dX8_beside_16 : decode cX8_beside 16 = .ok (.iconst 5, 1) := by decide +kernel
theorem dX8_beside_17 : decode cX8_beside 17 = .ok (.invokestatic 48, 3) := by decide +kernel
theorem dX8_beside_20 : decode cX8_beside 20 = .ok (.ifCond .eq 11, 3) := by decide +kernel
theorem dX8_beside_23 : decode cX8_beside 23 = .ok (.iload_n 1, 1) := by decide +kernel
theorem dX8_beside_24 : decode cX8_beside 24 = .ok (.iload_n 2, 1) := by decide +kernel
theorem dX8_beside_25 : decode cX8_beside 25 = .ok (.invokestatic 59, 3) := by decide +kernel
theorem dX8_beside_28 : decode cX8_beside 28 = .ok (.goto 5, 3) := by decide +kernel
theorem dX8_beside_31 : decode cX8_beside 31 = .ok (.bipush (-2), 2) := by decide +kernel
theorem dX8_beside_33 : decode cX8_beside 33 = .ok (.ireturn, 1) := by decide +kernel
theorem dX8_distance_0 : decode cX8_distance 0 = .ok (.aload_n 0, 1) := by decide +kernel
theorem dX8_distance_1 : decode cX8_distance 1 = .ok (.iconst 0, 1) := by decide +kernel
theorem dX8_distance_2 : decode cX8_distance 2 = .ok (.putfield 44, 3) := by decide +kernel
theorem dX8_distance_5 : decode cX8_distance 5 = .ok (.iload_n 1, 1) := by decide +kernel
theorem dX8_distance_6 : decode cX8_distance 6 = .ok (.invokestatic 124, 3) := by decide +kernel
theorem dX8_distance_9 : decode cX8_distance 9 = .ok (.ifCond .eq 10, 3) := by decide +kernel
theorem dX8_distance_12 : decode cX8_distance 12 = .ok (.iload_n 2, 1) := by decide +kernel
theorem dX8_distance_13 : decode cX8_distance 13 = .ok (.invokestatic 124, 3) := by decide +kernel
theorem dX8_distance_16 : decode cX8_distance 16 = .ok (.ifCond .ne 5, 3) := by decide +kernel
theorem dX8_distance_19 : decode cX8_distance 19 = .ok (.iconst (-1), 1) := by decide +kernel
theorem dX8_distance_20 : decode cX8_distance 20 = .ok (.ireturn, 1) := by decide +kernel
theorem dX8_distance_21 : decode cX8_distance 21 = .ok (.aload_n 0, 1) := by decide +kernel
theorem dX8_distance_22 : decode cX8_distance 22 = .ok (.iload_n 1, 1) := by decide +kernel
theorem dX8_distance_23 : decode cX8_distance 23 = .ok (.invokevirtual 101, 3) := by decide +kernel
theorem dX8_distance_26 : decode cX8_distance 26 = .ok (.aload_n 0, 1) := by decide +kernel
theorem dX8_distance_27 : decode cX8_distance 27 = .ok (.getfield 32, 3) := by decide +kernel
theorem dX8_distance_30 : decode cX8_distance 30 = .ok (.iload_n 2, 1) := by decide +kernel
theorem dX8_distance_31 : decode cX8_distance 31 = .ok (.iaload, 1) := by decide +kernel
theorem dX8_distance_32 : decode cX8_distance 32 = .ok (.ireturn, 1) := by decide +kernel
theorem dX8_reaches_0 : decode cX8_reaches 0 = .ok (.aload_n 0, 1) := by decide +kernel
theorem dX8_reaches_1 : decode cX8_reaches 1 = .ok (.iload_n 1, 1) := by decide +kernel
theorem dX8_reaches_2 : decode cX8_reaches 2 = .ok (.invokevirtual 142, 3) := by decide +kernel
theorem dX8_reaches_5 : decode cX8_reaches 5 = .ok (.iconst 0, 1) := by decide +kernel
theorem dX8_reaches_6 : decode cX8_reaches 6 = .ok (.istore_n 2, 1) := by decide +kernel
theorem dX8_reaches_7 : decode cX8_reaches 7 = .ok (.iconst 0, 1) := by decide +kernel
theorem dX8_reaches_8 : decode cX8_reaches 8 = .ok (.istore_n 3, 1) := by decide +kernel
theorem dX8_reaches_9 : decode cX8_reaches 9 = .ok (.iload_n 3, 1) := by decide +kernel
theorem dX8_reaches_10 : decode cX8_reaches 10 = .ok (.bipush 63, 2) := by decide +kernel
theorem dX8_reaches_12 : decode cX8_reaches 12 = .ok (.if_icmp .ge 26, 3) := by decide +kernel
theorem dX8_reaches_15 : decode cX8_reaches 15 = .ok (.iload_n 2, 1) := by decide +kernel
theorem dX8_reaches_16 : decode cX8_reaches 16 = .ok (.aload_n 0, 1) := by decide +kernel
theorem dX8_reaches_17 : decode cX8_reaches 17 = .ok (.iload_n 1, 1) := by decide +kernel
theorem dX8_reaches_18 : decode cX8_reaches 18 = .ok (.iload_n 3, 1) := by decide +kernel
theorem dX8_reaches_19 : decode cX8_reaches 19 = .ok (.invokevirtual 145, 3) := by decide +kernel
theorem dX8_reaches_22 : decode cX8_reaches 22 = .ok (.ifCond .eq 7, 3) := by decide +kernel
theorem dX8_reaches_25 : decode cX8_reaches 25 = .ok (.iconst 1, 1) := by decide +kernel
theorem dX8_reaches_26 : decode cX8_reaches 26 = .ok (.goto 4, 3) := by decide +kernel
theorem dX8_reaches_29 : decode cX8_reaches 29 = .ok (.iconst 0, 1) := by decide +kernel
theorem dX8_reaches_30 : decode cX8_reaches 30 = .ok (.iadd, 1) := by decide +kernel
theorem dX8_reaches_31 : decode cX8_reaches 31 = .ok (.istore_n 2, 1) := by decide +kernel
theorem dX8_reaches_32 : decode cX8_reaches 32 = .ok (.iinc 3 1, 3) := by decide +kernel
theorem dX8_reaches_35 : decode cX8_reaches 35 = .ok (.goto (-26), 3) := by decide +kernel
theorem dX8_reaches_38 : decode cX8_reaches 38 = .ok (.iload_n 2, 1) := by decide +kernel
theorem dX8_reaches_39 : decode cX8_reaches 39 = .ok (.ireturn, 1) := by decide +kernel
theorem dX8_unit_0 : decode cX8_unit 0 = .ok (.aload_n 0, 1) := by decide +kernel
theorem dX8_unit_1 : decode cX8_unit 1 = .ok (.iconst 0, 1) := by decide +kernel
theorem dX8_unit_2 : decode cX8_unit 2 = .ok (.putfield 44, 3) := by decide +kernel
theorem dX8_unit_5 : decode cX8_unit 5 = .ok (.aload_n 0, 1) := by decide +kernel
theorem dX8_unit_6 : decode cX8_unit 6 = .ok (.iload_n 1, 1) := by decide +kernel
theorem dX8_unit_7 : decode cX8_unit 7 = .ok (.invokevirtual 136, 3) := by decide +kernel
theorem dX8_unit_10 : decode cX8_unit 10 = .ok (.ifCond .ne 5, 3) := by decide +kernel
theorem dX8_unit_13 : decode cX8_unit 13 = .ok (.iconst (-1), 1) := by decide +kernel
theorem dX8_unit_14 : decode cX8_unit 14 = .ok (.ireturn, 1) := by decide +kernel
theorem dX8_unit_15 : decode cX8_unit 15 = .ok (.iload_n 2, 1) := by decide +kernel
theorem dX8_unit_16 : decode cX8_unit 16 = .ok (.tableswitch 96 5 9 #[36, 50, 56, 63, 69], 36) := by decide +kernel
theorem dX8_unit_52 : decode cX8_unit 52 = .ok (.aload_n 0, 1) := by decide +kernel
theorem dX8_unit_53 : decode cX8_unit 53 = .ok (.iload_n 1, 1) := by decide +kernel
theorem dX8_unit_54 : decode cX8_unit 54 = .ok (.invokevirtual 104, 3) := by decide +kernel
theorem dX8_unit_57 : decode cX8_unit 57 = .ok (.ifCond .eq 7, 3) := by decide +kernel
theorem dX8_unit_60 : decode cX8_unit 60 = .ok (.iconst 1, 1) := by decide +kernel
theorem dX8_unit_61 : decode cX8_unit 61 = .ok (.goto 4, 3) := by decide +kernel
theorem dX8_unit_64 : decode cX8_unit 64 = .ok (.iconst 0, 1) := by decide +kernel
theorem dX8_unit_65 : decode cX8_unit 65 = .ok (.ireturn, 1) := by decide +kernel
theorem dX8_unit_66 : decode cX8_unit 66 = .ok (.aload_n 0, 1) := by decide +kernel
theorem dX8_unit_67 : decode cX8_unit 67 = .ok (.iload_n 1, 1) := by decide +kernel
theorem dX8_unit_68 : decode cX8_unit 68 = .ok (.invokevirtual 98, 3) := by decide +kernel
theorem dX8_unit_71 : decode cX8_unit 71 = .ok (.ireturn, 1) := by decide +kernel
theorem dX8_unit_72 : decode cX8_unit 72 = .ok (.aload_n 0, 1) := by decide +kernel
theorem dX8_unit_73 : decode cX8_unit 73 = .ok (.iload_n 1, 1) := by decide +kernel
theorem dX8_unit_74 : decode cX8_unit 74 = .ok (.iconst 5, 1) := by decide +kernel
theorem dX8_unit_75 : decode cX8_unit 75 = .ok (.invokevirtual 52, 3) := by decide +kernel
theorem dX8_unit_78 : decode cX8_unit 78 = .ok (.ireturn, 1) := by decide +kernel
theorem dX8_unit_79 : decode cX8_unit 79 = .ok (.aload_n 0, 1) := by decide +kernel
theorem dX8_unit_80 : decode cX8_unit 80 = .ok (.iload_n 1, 1) := by decide +kernel
theorem dX8_unit_81 : decode cX8_unit 81 = .ok (.invokevirtual 209, 3) := by decide +kernel
theorem dX8_unit_84 : decode cX8_unit 84 = .ok (.ireturn, 1) := by decide +kernel
theorem dX8_unit_85 : decode cX8_unit 85 = .ok (.aload_n 0, 1) := by decide +kernel
theorem dX8_unit_86 : decode cX8_unit 86 = .ok (.iconst 1, 1) := by decide +kernel
theorem dX8_unit_87 : decode cX8_unit 87 = .ok (.aload_n 0, 1) := by decide +kernel
theorem dX8_unit_88 : decode cX8_unit 88 = .ok (.iload_n 1, 1) := by decide +kernel
theorem dX8_unit_89 : decode cX8_unit 89 = .ok (.iconst 0, 1) := by decide +kernel
theorem dX8_unit_90 : decode cX8_unit 90 = .ok (.invokevirtual 52, 3) := by decide +kernel
theorem dX8_unit_93 : decode cX8_unit 93 = .ok (.isub, 1) := by decide +kernel
theorem dX8_unit_94 : decode cX8_unit 94 = .ok (.aload_n 0, 1) := by decide +kernel
theorem dX8_unit_95 : decode cX8_unit 95 = .ok (.iload_n 1, 1) := by decide +kernel
theorem dX8_unit_96 : decode cX8_unit 96 = .ok (.iconst 2, 1) := by decide +kernel
theorem dX8_unit_97 : decode cX8_unit 97 = .ok (.invokevirtual 52, 3) := by decide +kernel
theorem dX8_unit_100 : decode cX8_unit 100 = .ok (.invokevirtual 203, 3) := by decide +kernel
theorem dX8_unit_103 : decode cX8_unit 103 = .ok (.ifCond .eq 7, 3) := by decide +kernel
theorem dX8_unit_106 : decode cX8_unit 106 = .ok (.iconst 1, 1) := by decide +kernel
theorem dX8_unit_107 : decode cX8_unit 107 = .ok (.goto 4, 3) := by decide +kernel
theorem dX8_unit_110 : decode cX8_unit 110 = .ok (.iconst 0, 1) := by decide +kernel
theorem dX8_unit_111 : decode cX8_unit 111 = .ok (.ireturn, 1) := by decide +kernel
theorem dX8_unit_112 : decode cX8_unit 112 = .ok (.iload_n 2, 1) := by decide +kernel
theorem dX8_unit_113 : decode cX8_unit 113 = .ok (.iconst 0, 1) := by decide +kernel
theorem dX8_unit_114 : decode cX8_unit 114 = .ok (.iconst 4, 1) := by decide +kernel
theorem dX8_unit_115 : decode cX8_unit 115 = .ok (.invokestatic 48, 3) := by decide +kernel
theorem dX8_unit_118 : decode cX8_unit 118 = .ok (.ifCond .eq 12, 3) := by decide +kernel
theorem dX8_unit_121 : decode cX8_unit 121 = .ok (.aload_n 0, 1) := by decide +kernel
theorem dX8_unit_122 : decode cX8_unit 122 = .ok (.iload_n 1, 1) := by decide +kernel
theorem dX8_unit_123 : decode cX8_unit 123 = .ok (.iload_n 2, 1) := by decide +kernel
theorem dX8_unit_124 : decode cX8_unit 124 = .ok (.invokevirtual 52, 3) := by decide +kernel
theorem dX8_unit_127 : decode cX8_unit 127 = .ok (.goto 5, 3) := by decide +kernel
theorem dX8_unit_130 : decode cX8_unit 130 = .ok (.bipush (-2), 2) := by decide +kernel
theorem dX8_unit_132 : decode cX8_unit 132 = .ok (.ireturn, 1) := by decide +kernel
theorem dX8_cost_0 : decode cX8_cost 0 = .ok (.aload_n 0, 1) := by decide +kernel
theorem dX8_cost_1 : decode cX8_cost 1 = .ok (.iconst 0, 1) := by decide +kernel
theorem dX8_cost_2 : decode cX8_cost 2 = .ok (.putfield 44, 3) := by decide +kernel
theorem dX8_cost_5 : decode cX8_cost 5 = .ok (.aload_n 0, 1) := by decide +kernel
theorem dX8_cost_6 : decode cX8_cost 6 = .ok (.iload_n 1, 1) := by decide +kernel
theorem dX8_cost_7 : decode cX8_cost 7 = .ok (.invokevirtual 136, 3) := by decide +kernel
theorem dX8_cost_10 : decode cX8_cost 10 = .ok (.ifCond .eq 10, 3) := by decide +kernel
theorem dX8_cost_13 : decode cX8_cost 13 = .ok (.iload_n 2, 1) := by decide +kernel
theorem dX8_cost_14 : decode cX8_cost 14 = .ok (.invokestatic 124, 3) := by decide +kernel
theorem dX8_cost_17 : decode cX8_cost 17 = .ok (.ifCond .ne 5, 3) := by decide +kernel
theorem dX8_cost_20 : decode cX8_cost 20 = .ok (.iconst (-1), 1) := by decide +kernel
theorem dX8_cost_21 : decode cX8_cost 21 = .ok (.ireturn, 1) := by decide +kernel
theorem dX8_cost_22 : decode cX8_cost 22 = .ok (.aload_n 0, 1) := by decide +kernel
theorem dX8_cost_23 : decode cX8_cost 23 = .ok (.iload_n 1, 1) := by decide +kernel
theorem dX8_cost_24 : decode cX8_cost 24 = .ok (.invokevirtual 142, 3) := by decide +kernel
theorem dX8_cost_27 : decode cX8_cost 27 = .ok (.aload_n 0, 1) := by decide +kernel
theorem dX8_cost_28 : decode cX8_cost 28 = .ok (.iload_n 1, 1) := by decide +kernel
theorem dX8_cost_29 : decode cX8_cost 29 = .ok (.iconst 2, 1) := by decide +kernel
theorem dX8_cost_30 : decode cX8_cost 30 = .ok (.invokevirtual 52, 3) := by decide +kernel
theorem dX8_cost_33 : decode cX8_cost 33 = .ok (.iload_n 2, 1) := by decide +kernel
theorem dX8_cost_34 : decode cX8_cost 34 = .ok (.if_icmp .ne 7, 3) := by decide +kernel
theorem dX8_cost_37 : decode cX8_cost 37 = .ok (.iconst 0, 1) := by decide +kernel
theorem dX8_cost_38 : decode cX8_cost 38 = .ok (.goto 23, 3) := by decide +kernel
theorem dX8_cost_41 : decode cX8_cost 41 = .ok (.aload_n 0, 1) := by decide +kernel
theorem dX8_cost_42 : decode cX8_cost 42 = .ok (.iload_n 1, 1) := by decide +kernel
theorem dX8_cost_43 : decode cX8_cost 43 = .ok (.iload_n 2, 1) := by decide +kernel
theorem dX8_cost_44 : decode cX8_cost 44 = .ok (.invokevirtual 145, 3) := by decide +kernel
theorem dX8_cost_47 : decode cX8_cost 47 = .ok (.ifCond .eq 12, 3) := by decide +kernel
theorem dX8_cost_50 : decode cX8_cost 50 = .ok (.aload_n 0, 1) := by decide +kernel
theorem dX8_cost_51 : decode cX8_cost 51 = .ok (.getfield 25, 3) := by decide +kernel
theorem dX8_cost_54 : decode cX8_cost 54 = .ok (.iload_n 2, 1) := by decide +kernel
theorem dX8_cost_55 : decode cX8_cost 55 = .ok (.iaload, 1) := by decide +kernel
theorem dX8_cost_56 : decode cX8_cost 56 = .ok (.goto 5, 3) := by decide +kernel
theorem dX8_cost_59 : decode cX8_cost 59 = .ok (.bipush (-5), 2) := by decide +kernel
theorem dX8_cost_61 : decode cX8_cost 61 = .ok (.ireturn, 1) := by decide +kernel
theorem dX8_would_0 : decode cX8_would 0 = .ok (.aload_n 0, 1) := by decide +kernel
theorem dX8_would_1 : decode cX8_would 1 = .ok (.iconst 0, 1) := by decide +kernel
theorem dX8_would_2 : decode cX8_would 2 = .ok (.putfield 44, 3) := by decide +kernel
theorem dX8_would_5 : decode cX8_would 5 = .ok (.aload_n 0, 1) := by decide +kernel
theorem dX8_would_6 : decode cX8_would 6 = .ok (.iload_n 1, 1) := by decide +kernel
theorem dX8_would_7 : decode cX8_would 7 = .ok (.invokevirtual 136, 3) := by decide +kernel
theorem dX8_would_10 : decode cX8_would 10 = .ok (.ifCond .eq 10, 3) := by decide +kernel
theorem dX8_would_13 : decode cX8_would 13 = .ok (.iload_n 2, 1) := by decide +kernel
theorem dX8_would_14 : decode cX8_would 14 = .ok (.invokestatic 124, 3) := by decide +kernel
theorem dX8_would_17 : decode cX8_would 17 = .ok (.ifCond .ne 5, 3) := by decide +kernel
theorem dX8_would_20 : decode cX8_would 20 = .ok (.iconst (-1), 1) := by decide +kernel
theorem dX8_would_21 : decode cX8_would 21 = .ok (.ireturn, 1) := by decide +kernel
theorem dX8_would_22 : decode cX8_would 22 = .ok (.iload_n 3, 1) := by decide +kernel
theorem dX8_would_23 : decode cX8_would 23 = .ok (.iconst 0, 1) := by decide +kernel
theorem dX8_would_24 : decode cX8_would 24 = .ok (.iconst 3, 1) := by decide +kernel
theorem dX8_would_25 : decode cX8_would 25 = .ok (.invokestatic 48, 3) := by decide +kernel
theorem dX8_would_28 : decode cX8_would 28 = .ok (.ifCond .ne 6, 3) := by decide +kernel
theorem dX8_would_31 : decode cX8_would 31 = .ok (.bipush (-2), 2) := by decide +kernel
theorem dX8_would_33 : decode cX8_would 33 = .ok (.ireturn, 1) := by decide +kernel
theorem dX8_would_34 : decode cX8_would 34 = .ok (.aload_n 0, 1) := by decide +kernel
theorem dX8_would_35 : decode cX8_would 35 = .ok (.iload_n 1, 1) := by decide +kernel
theorem dX8_would_36 : decode cX8_would 36 = .ok (.iload_n 2, 1) := by decide +kernel
theorem dX8_would_37 : decode cX8_would 37 = .ok (.invokevirtual 154, 3) := by decide +kernel
theorem dX8_would_40 : decode cX8_would 40 = .ok (.ifCond .ne 6, 3) := by decide +kernel
theorem dX8_would_43 : decode cX8_would 43 = .ok (.bipush (-4), 2) := by decide +kernel
theorem dX8_would_45 : decode cX8_would 45 = .ok (.ireturn, 1) := by decide +kernel
theorem dX8_would_46 : decode cX8_would 46 = .ok (.aload_n 0, 1) := by decide +kernel
theorem dX8_would_47 : decode cX8_would 47 = .ok (.iload_n 2, 1) := by decide +kernel
theorem dX8_would_48 : decode cX8_would 48 = .ok (.invokevirtual 62, 3) := by decide +kernel
theorem dX8_would_51 : decode cX8_would 51 = .ok (.istore 4, 2) := by decide +kernel
theorem dX8_would_53 : decode cX8_would 53 = .ok (.aload_n 0, 1) := by decide +kernel
theorem dX8_would_54 : decode cX8_would 54 = .ok (.iload_n 1, 1) := by decide +kernel
theorem dX8_would_55 : decode cX8_would 55 = .ok (.iload_n 2, 1) := by decide +kernel
theorem dX8_would_56 : decode cX8_would 56 = .ok (.invokevirtual 111, 3) := by decide +kernel
theorem dX8_would_59 : decode cX8_would 59 = .ok (.istore 5, 2) := by decide +kernel
theorem dX8_would_61 : decode cX8_would 61 = .ok (.aload_n 0, 1) := by decide +kernel
theorem dX8_would_62 : decode cX8_would 62 = .ok (.iload 4, 2) := by decide +kernel
theorem dX8_would_64 : decode cX8_would 64 = .ok (.invokevirtual 114, 3) := by decide +kernel
theorem dX8_would_67 : decode cX8_would 67 = .ok (.istore 6, 2) := by decide +kernel
theorem dX8_would_69 : decode cX8_would 69 = .ok (.iload_n 3, 1) := by decide +kernel
theorem dX8_would_70 : decode cX8_would 70 = .ok (.tableswitch 59 0 2 #[26, 29, 32], 26) := by decide +kernel
theorem dX8_would_96 : decode cX8_would 96 = .ok (.iload 5, 2) := by decide +kernel
theorem dX8_would_98 : decode cX8_would 98 = .ok (.ireturn, 1) := by decide +kernel
theorem dX8_would_99 : decode cX8_would 99 = .ok (.iload 6, 2) := by decide +kernel
theorem dX8_would_101 : decode cX8_would 101 = .ok (.ireturn, 1) := by decide +kernel
theorem dX8_would_102 : decode cX8_would 102 = .ok (.iload 5, 2) := by decide +kernel
theorem dX8_would_104 : decode cX8_would 104 = .ok (.iload 6, 2) := by decide +kernel
theorem dX8_would_106 : decode cX8_would 106 = .ok (.if_icmp .le 12, 3) := by decide +kernel
theorem dX8_would_109 : decode cX8_would 109 = .ok (.aload_n 0, 1) := by decide +kernel
theorem dX8_would_110 : decode cX8_would 110 = .ok (.iload_n 1, 1) := by decide +kernel
theorem dX8_would_111 : decode cX8_would 111 = .ok (.iconst 1, 1) := by decide +kernel
theorem dX8_would_112 : decode cX8_would 112 = .ok (.invokevirtual 52, 3) := by decide +kernel
theorem dX8_would_115 : decode cX8_would 115 = .ok (.goto 13, 3) := by decide +kernel
theorem dX8_would_118 : decode cX8_would 118 = .ok (.aload_n 0, 1) := by decide +kernel
theorem dX8_would_119 : decode cX8_would 119 = .ok (.iload_n 1, 1) := by decide +kernel
theorem dX8_would_120 : decode cX8_would 120 = .ok (.iload 6, 2) := by decide +kernel
theorem dX8_would_122 : decode cX8_would 122 = .ok (.iload 5, 2) := by decide +kernel
theorem dX8_would_124 : decode cX8_would 124 = .ok (.isub, 1) := by decide +kernel
theorem dX8_would_125 : decode cX8_would 125 = .ok (.invokevirtual 117, 3) := by decide +kernel
theorem dX8_would_128 : decode cX8_would 128 = .ok (.ireturn, 1) := by decide +kernel
theorem dX8_would_129 : decode cX8_would 129 = .ok (.iload 5, 2) := by decide +kernel
theorem dX8_would_131 : decode cX8_would 131 = .ok (.iload 6, 2) := by decide +kernel
theorem dX8_would_133 : decode cX8_would 133 = .ok (.if_icmp .le 17, 3) := by decide +kernel
theorem dX8_would_136 : decode cX8_would 136 = .ok (.aload_n 0, 1) := by decide +kernel
theorem dX8_would_137 : decode cX8_would 137 = .ok (.iload 4, 2) := by decide +kernel
theorem dX8_would_139 : decode cX8_would 139 = .ok (.iload 5, 2) := by decide +kernel
theorem dX8_would_141 : decode cX8_would 141 = .ok (.iload 6, 2) := by decide +kernel
theorem dX8_would_143 : decode cX8_would 143 = .ok (.isub, 1) := by decide +kernel
theorem dX8_would_144 : decode cX8_would 144 = .ok (.invokevirtual 117, 3) := by decide +kernel
theorem dX8_would_147 : decode cX8_would 147 = .ok (.goto 10, 3) := by decide +kernel
theorem dX8_would_150 : decode cX8_would 150 = .ok (.aload_n 0, 1) := by decide +kernel
theorem dX8_would_151 : decode cX8_would 151 = .ok (.iload 4, 2) := by decide +kernel
theorem dX8_would_153 : decode cX8_would 153 = .ok (.iconst 1, 1) := by decide +kernel
theorem dX8_would_154 : decode cX8_would 154 = .ok (.invokevirtual 52, 3) := by decide +kernel
theorem dX8_would_157 : decode cX8_would 157 = .ok (.ireturn, 1) := by decide +kernel
theorem dX8_besieged_0 : decode cX8_besieged 0 = .ok (.aload_n 0, 1) := by decide +kernel
theorem dX8_besieged_1 : decode cX8_besieged 1 = .ok (.iconst 0, 1) := by decide +kernel
theorem dX8_besieged_2 : decode cX8_besieged 2 = .ok (.putfield 44, 3) := by decide +kernel
theorem dX8_besieged_5 : decode cX8_besieged 5 = .ok (.iload_n 1, 1) := by decide +kernel
theorem dX8_besieged_6 : decode cX8_besieged 6 = .ok (.invokestatic 124, 3) := by decide +kernel
theorem dX8_besieged_9 : decode cX8_besieged 9 = .ok (.ifCond .ne 5, 3) := by decide +kernel
theorem dX8_besieged_12 : decode cX8_besieged 12 = .ok (.iconst (-1), 1) := by decide +kernel
theorem dX8_besieged_13 : decode cX8_besieged 13 = .ok (.ireturn, 1) := by decide +kernel
theorem dX8_besieged_14 : decode cX8_besieged 14 = .ok (.aload_n 0, 1) := by decide +kernel
theorem dX8_besieged_15 : decode cX8_besieged 15 = .ok (.getfield 7, 3) := by decide +kernel
theorem dX8_besieged_18 : decode cX8_besieged 18 = .ok (.bipush 126, 2) := by decide +kernel
theorem dX8_besieged_20 : decode cX8_besieged 20 = .ok (.iload_n 1, 1) := by decide +kernel
theorem dX8_besieged_21 : decode cX8_besieged 21 = .ok (.iadd, 1) := by decide +kernel
theorem dX8_besieged_22 : decode cX8_besieged 22 = .ok (.iaload, 1) := by decide +kernel
theorem dX8_besieged_23 : decode cX8_besieged 23 = .ok (.ifCond .ne 6, 3) := by decide +kernel
theorem dX8_besieged_26 : decode cX8_besieged 26 = .ok (.bipush (-5), 2) := by decide +kernel
theorem dX8_besieged_28 : decode cX8_besieged 28 = .ok (.ireturn, 1) := by decide +kernel
theorem dX8_besieged_29 : decode cX8_besieged 29 = .ok (.iconst 2, 1) := by decide +kernel
theorem dX8_besieged_30 : decode cX8_besieged 30 = .ok (.aload_n 0, 1) := by decide +kernel
theorem dX8_besieged_31 : decode cX8_besieged 31 = .ok (.getfield 7, 3) := by decide +kernel
theorem dX8_besieged_34 : decode cX8_besieged 34 = .ok (.bipush 126, 2) := by decide +kernel
theorem dX8_besieged_36 : decode cX8_besieged 36 = .ok (.iload_n 1, 1) := by decide +kernel
theorem dX8_besieged_37 : decode cX8_besieged 37 = .ok (.iadd, 1) := by decide +kernel
theorem dX8_besieged_38 : decode cX8_besieged 38 = .ok (.iaload, 1) := by decide +kernel
theorem dX8_besieged_39 : decode cX8_besieged 39 = .ok (.isub, 1) := by decide +kernel
theorem dX8_besieged_40 : decode cX8_besieged 40 = .ok (.istore_n 2, 1) := by decide +kernel
theorem dX8_besieged_41 : decode cX8_besieged 41 = .ok (.iconst 1, 1) := by decide +kernel
theorem dX8_besieged_42 : decode cX8_besieged 42 = .ok (.istore_n 3, 1) := by decide +kernel
theorem dX8_besieged_43 : decode cX8_besieged 43 = .ok (.iconst 0, 1) := by decide +kernel
theorem dX8_besieged_44 : decode cX8_besieged 44 = .ok (.istore 4, 2) := by decide +kernel
theorem dX8_besieged_46 : decode cX8_besieged 46 = .ok (.iload 4, 2) := by decide +kernel
theorem dX8_besieged_48 : decode cX8_besieged 48 = .ok (.bipush 6, 2) := by decide +kernel
theorem dX8_besieged_50 : decode cX8_besieged 50 = .ok (.if_icmp .ge 54, 3) := by decide +kernel
theorem dX8_besieged_53 : decode cX8_besieged 53 = .ok (.iload_n 1, 1) := by decide +kernel
theorem dX8_besieged_54 : decode cX8_besieged 54 = .ok (.iload 4, 2) := by decide +kernel
theorem dX8_besieged_56 : decode cX8_besieged 56 = .ok (.invokestatic 59, 3) := by decide +kernel
theorem dX8_besieged_59 : decode cX8_besieged 59 = .ok (.istore 5, 2) := by decide +kernel
theorem dX8_besieged_61 : decode cX8_besieged 61 = .ok (.iload_n 3, 1) := by decide +kernel
theorem dX8_besieged_62 : decode cX8_besieged 62 = .ok (.ifCond .eq 34, 3) := by decide +kernel
theorem dX8_besieged_65 : decode cX8_besieged 65 = .ok (.iload 5, 2) := by decide +kernel
theorem dX8_besieged_67 : decode cX8_besieged 67 = .ok (.bipush (-5), 2) := by decide +kernel
theorem dX8_besieged_69 : decode cX8_besieged 69 = .ok (.if_icmp .eq 23, 3) := by decide +kernel
theorem dX8_besieged_72 : decode cX8_besieged 72 = .ok (.aload_n 0, 1) := by decide +kernel
theorem dX8_besieged_73 : decode cX8_besieged 73 = .ok (.iload 5, 2) := by decide +kernel
theorem dX8_besieged_75 : decode cX8_besieged 75 = .ok (.iload_n 2, 1) := by decide +kernel
theorem dX8_besieged_76 : decode cX8_besieged 76 = .ok (.invokevirtual 66, 3) := by decide +kernel
theorem dX8_besieged_79 : decode cX8_besieged 79 = .ok (.ifCond .ne 13, 3) := by decide +kernel
theorem dX8_besieged_82 : decode cX8_besieged 82 = .ok (.aload_n 0, 1) := by decide +kernel
theorem dX8_besieged_83 : decode cX8_besieged 83 = .ok (.iload 5, 2) := by decide +kernel
theorem dX8_besieged_85 : decode cX8_besieged 85 = .ok (.iload_n 2, 1) := by decide +kernel
theorem dX8_besieged_86 : decode cX8_besieged 86 = .ok (.invokevirtual 70, 3) := by decide +kernel
theorem dX8_besieged_89 : decode cX8_besieged 89 = .ok (.ifCond .eq 7, 3) := by decide +kernel
theorem dX8_besieged_92 : decode cX8_besieged 92 = .ok (.iconst 1, 1) := by decide +kernel
theorem dX8_besieged_93 : decode cX8_besieged 93 = .ok (.goto 4, 3) := by decide +kernel
theorem dX8_besieged_96 : decode cX8_besieged 96 = .ok (.iconst 0, 1) := by decide +kernel
theorem dX8_besieged_97 : decode cX8_besieged 97 = .ok (.istore_n 3, 1) := by decide +kernel
theorem dX8_besieged_98 : decode cX8_besieged 98 = .ok (.iinc 4 1, 3) := by decide +kernel
theorem dX8_besieged_101 : decode cX8_besieged 101 = .ok (.goto (-55), 3) := by decide +kernel
theorem dX8_besieged_104 : decode cX8_besieged 104 = .ok (.iload_n 3, 1) := by decide +kernel
theorem dX8_besieged_105 : decode cX8_besieged 105 = .ok (.ifCond .eq 7, 3) := by decide +kernel
theorem dX8_besieged_108 : decode cX8_besieged 108 = .ok (.iconst 1, 1) := by decide +kernel
theorem dX8_besieged_109 : decode cX8_besieged 109 = .ok (.goto 4, 3) := by decide +kernel
theorem dX8_besieged_112 : decode cX8_besieged 112 = .ok (.iconst 0, 1) := by decide +kernel
theorem dX8_besieged_113 : decode cX8_besieged 113 = .ok (.ireturn, 1) := by decide +kernel
theorem dX8_unitsOf_0 : decode cX8_unitsOf 0 = .ok (.iconst 0, 1) := by decide +kernel
theorem dX8_unitsOf_1 : decode cX8_unitsOf 1 = .ok (.istore_n 3, 1) := by decide +kernel
theorem dX8_unitsOf_2 : decode cX8_unitsOf 2 = .ok (.iconst 0, 1) := by decide +kernel
theorem dX8_unitsOf_3 : decode cX8_unitsOf 3 = .ok (.istore 4, 2) := by decide +kernel
theorem dX8_unitsOf_5 : decode cX8_unitsOf 5 = .ok (.iload 4, 2) := by decide +kernel
theorem dX8_unitsOf_7 : decode cX8_unitsOf 7 = .ok (.aload_n 0, 1) := by decide +kernel
theorem dX8_unitsOf_8 : decode cX8_unitsOf 8 = .ok (.getfield 7, 3) := by decide +kernel
theorem dX8_unitsOf_11 : decode cX8_unitsOf 11 = .ok (.sipush 192, 3) := by decide +kernel
theorem dX8_unitsOf_14 : decode cX8_unitsOf 14 = .ok (.iaload, 1) := by decide +kernel
theorem dX8_unitsOf_15 : decode cX8_unitsOf 15 = .ok (.if_icmp .ge 65, 3) := by decide +kernel
theorem dX8_unitsOf_18 : decode cX8_unitsOf 18 = .ok (.aload_n 0, 1) := by decide +kernel
theorem dX8_unitsOf_19 : decode cX8_unitsOf 19 = .ok (.iload 4, 2) := by decide +kernel
theorem dX8_unitsOf_21 : decode cX8_unitsOf 21 = .ok (.iconst 1, 1) := by decide +kernel
theorem dX8_unitsOf_22 : decode cX8_unitsOf 22 = .ok (.invokevirtual 52, 3) := by decide +kernel
theorem dX8_unitsOf_25 : decode cX8_unitsOf 25 = .ok (.ifCond .le 18, 3) := by decide +kernel
theorem dX8_unitsOf_28 : decode cX8_unitsOf 28 = .ok (.aload_n 0, 1) := by decide +kernel
theorem dX8_unitsOf_29 : decode cX8_unitsOf 29 = .ok (.iload 4, 2) := by decide +kernel
theorem dX8_unitsOf_31 : decode cX8_unitsOf 31 = .ok (.iconst 0, 1) := by decide +kernel
theorem dX8_unitsOf_32 : decode cX8_unitsOf 32 = .ok (.invokevirtual 52, 3) := by decide +kernel
theorem dX8_unitsOf_35 : decode cX8_unitsOf 35 = .ok (.iload_n 1, 1) := by decide +kernel
theorem dX8_unitsOf_36 : decode cX8_unitsOf 36 = .ok (.if_icmp .ne 7, 3) := by decide +kernel
theorem dX8_unitsOf_39 : decode cX8_unitsOf 39 = .ok (.iconst 1, 1) := by decide +kernel
theorem dX8_unitsOf_40 : decode cX8_unitsOf 40 = .ok (.goto 4, 3) := by decide +kernel
theorem dX8_unitsOf_43 : decode cX8_unitsOf 43 = .ok (.iconst 0, 1) := by decide +kernel
theorem dX8_unitsOf_44 : decode cX8_unitsOf 44 = .ok (.istore 5, 2) := by decide +kernel
theorem dX8_unitsOf_46 : decode cX8_unitsOf 46 = .ok (.iload_n 3, 1) := by decide +kernel
theorem dX8_unitsOf_47 : decode cX8_unitsOf 47 = .ok (.iload 5, 2) := by decide +kernel
theorem dX8_unitsOf_49 : decode cX8_unitsOf 49 = .ok (.ifCond .ne 7, 3) := by decide +kernel
theorem dX8_unitsOf_52 : decode cX8_unitsOf 52 = .ok (.iconst 0, 1) := by decide +kernel
theorem dX8_unitsOf_53 : decode cX8_unitsOf 53 = .ok (.goto 19, 3) := by decide +kernel
theorem dX8_unitsOf_56 : decode cX8_unitsOf 56 = .ok (.iload_n 2, 1) := by decide +kernel
theorem dX8_unitsOf_57 : decode cX8_unitsOf 57 = .ok (.iconst 1, 1) := by decide +kernel
theorem dX8_unitsOf_58 : decode cX8_unitsOf 58 = .ok (.if_icmp .ne 13, 3) := by decide +kernel
theorem dX8_unitsOf_61 : decode cX8_unitsOf 61 = .ok (.aload_n 0, 1) := by decide +kernel
theorem dX8_unitsOf_62 : decode cX8_unitsOf 62 = .ok (.iload 4, 2) := by decide +kernel
theorem dX8_unitsOf_64 : decode cX8_unitsOf 64 = .ok (.iconst 1, 1) := by decide +kernel
theorem dX8_unitsOf_65 : decode cX8_unitsOf 65 = .ok (.invokevirtual 52, 3) := by decide +kernel
theorem dX8_unitsOf_68 : decode cX8_unitsOf 68 = .ok (.goto 4, 3) := by decide +kernel
theorem dX8_unitsOf_71 : decode cX8_unitsOf 71 = .ok (.iconst 1, 1) := by decide +kernel
theorem dX8_unitsOf_72 : decode cX8_unitsOf 72 = .ok (.iadd, 1) := by decide +kernel
theorem dX8_unitsOf_73 : decode cX8_unitsOf 73 = .ok (.istore_n 3, 1) := by decide +kernel
theorem dX8_unitsOf_74 : decode cX8_unitsOf 74 = .ok (.iinc 4 1, 3) := by decide +kernel
theorem dX8_unitsOf_77 : decode cX8_unitsOf 77 = .ok (.goto (-72), 3) := by decide +kernel
theorem dX8_unitsOf_80 : decode cX8_unitsOf 80 = .ok (.iload_n 3, 1) := by decide +kernel
theorem dX8_unitsOf_81 : decode cX8_unitsOf 81 = .ok (.ireturn, 1) := by decide +kernel
theorem dX8_seen_0 : decode cX8_seen 0 = .ok (.iconst 0, 1) := by decide +kernel
theorem dX8_seen_1 : decode cX8_seen 1 = .ok (.istore_n 2, 1) := by decide +kernel
theorem dX8_seen_2 : decode cX8_seen 2 = .ok (.iconst 0, 1) := by decide +kernel
theorem dX8_seen_3 : decode cX8_seen 3 = .ok (.istore_n 3, 1) := by decide +kernel
theorem dX8_seen_4 : decode cX8_seen 4 = .ok (.iload_n 3, 1) := by decide +kernel
theorem dX8_seen_5 : decode cX8_seen 5 = .ok (.bipush 63, 2) := by decide +kernel
theorem dX8_seen_7 : decode cX8_seen 7 = .ok (.if_icmp .ge 26, 3) := by decide +kernel
theorem dX8_seen_10 : decode cX8_seen 10 = .ok (.iload_n 2, 1) := by decide +kernel
theorem dX8_seen_11 : decode cX8_seen 11 = .ok (.aload_n 0, 1) := by decide +kernel
theorem dX8_seen_12 : decode cX8_seen 12 = .ok (.iload_n 1, 1) := by decide +kernel
theorem dX8_seen_13 : decode cX8_seen 13 = .ok (.iload_n 3, 1) := by decide +kernel
theorem dX8_seen_14 : decode cX8_seen 14 = .ok (.invokevirtual 203, 3) := by decide +kernel
theorem dX8_seen_17 : decode cX8_seen 17 = .ok (.ifCond .eq 7, 3) := by decide +kernel
theorem dX8_seen_20 : decode cX8_seen 20 = .ok (.iconst 1, 1) := by decide +kernel
theorem dX8_seen_21 : decode cX8_seen 21 = .ok (.goto 4, 3) := by decide +kernel
theorem dX8_seen_24 : decode cX8_seen 24 = .ok (.iconst 0, 1) := by decide +kernel
theorem dX8_seen_25 : decode cX8_seen 25 = .ok (.iadd, 1) := by decide +kernel
theorem dX8_seen_26 : decode cX8_seen 26 = .ok (.istore_n 2, 1) := by decide +kernel
theorem dX8_seen_27 : decode cX8_seen 27 = .ok (.iinc 3 1, 3) := by decide +kernel
theorem dX8_seen_30 : decode cX8_seen 30 = .ok (.goto (-26), 3) := by decide +kernel
theorem dX8_seen_33 : decode cX8_seen 33 = .ok (.iload_n 2, 1) := by decide +kernel
theorem dX8_seen_34 : decode cX8_seen 34 = .ok (.ireturn, 1) := by decide +kernel
theorem dX8_count_0 : decode cX8_count 0 = .ok (.aload_n 0, 1) := by decide +kernel
theorem dX8_count_1 : decode cX8_count 1 = .ok (.iconst 0, 1) := by decide +kernel
theorem dX8_count_2 : decode cX8_count 2 = .ok (.putfield 44, 3) := by decide +kernel
theorem dX8_count_5 : decode cX8_count 5 = .ok (.iload_n 1, 1) := by decide +kernel
theorem dX8_count_6 : decode cX8_count 6 = .ok (.tableswitch 173 0 15 #[78, 87, 98, 107, 107, 117, 117, 126, 126, 135, 140, 140, 149, 154, 159, 159], 78) := by decide +kernel
theorem dX8_count_84 : decode cX8_count 84 = .ok (.aload_n 0, 1) := by decide +kernel
theorem dX8_count_85 : decode cX8_count 85 = .ok (.getfield 7, 3) := by decide +kernel
theorem dX8_count_88 : decode cX8_count 88 = .ok (.sipush 191, 3) := by decide +kernel
theorem dX8_count_91 : decode cX8_count 91 = .ok (.iaload, 1) := by decide +kernel
theorem dX8_count_92 : decode cX8_count 92 = .ok (.ireturn, 1) := by decide +kernel
theorem dX8_count_93 : decode cX8_count 93 = .ok (.aload_n 0, 1) := by decide +kernel
theorem dX8_count_94 : decode cX8_count 94 = .ok (.getfield 7, 3) := by decide +kernel
theorem dX8_count_97 : decode cX8_count 97 = .ok (.sipush 191, 3) := by decide +kernel
theorem dX8_count_100 : decode cX8_count 100 = .ok (.iaload, 1) := by decide +kernel
theorem dX8_count_101 : decode cX8_count 101 = .ok (.iconst 2, 1) := by decide +kernel
theorem dX8_count_102 : decode cX8_count 102 = .ok (.irem, 1) := by decide +kernel
theorem dX8_count_103 : decode cX8_count 103 = .ok (.ireturn, 1) := by decide +kernel
theorem dX8_count_104 : decode cX8_count 104 = .ok (.aload_n 0, 1) := by decide +kernel
theorem dX8_count_105 : decode cX8_count 105 = .ok (.getfield 7, 3) := by decide +kernel
theorem dX8_count_108 : decode cX8_count 108 = .ok (.sipush 192, 3) := by decide +kernel
theorem dX8_count_111 : decode cX8_count 111 = .ok (.iaload, 1) := by decide +kernel
theorem dX8_count_112 : decode cX8_count 112 = .ok (.ireturn, 1) := by decide +kernel
theorem dX8_count_113 : decode cX8_count 113 = .ok (.aload_n 0, 1) := by decide +kernel
theorem dX8_count_114 : decode cX8_count 114 = .ok (.iload_n 1, 1) := by decide +kernel
theorem dX8_count_115 : decode cX8_count 115 = .ok (.iconst 3, 1) := by decide +kernel
theorem dX8_count_116 : decode cX8_count 116 = .ok (.isub, 1) := by decide +kernel
theorem dX8_count_117 : decode cX8_count 117 = .ok (.bipush (-5), 2) := by decide +kernel
theorem dX8_count_119 : decode cX8_count 119 = .ok (.invokevirtual 212, 3) := by decide +kernel
theorem dX8_count_122 : decode cX8_count 122 = .ok (.ireturn, 1) := by decide +kernel
theorem dX8_count_123 : decode cX8_count 123 = .ok (.aload_n 0, 1) := by decide +kernel
theorem dX8_count_124 : decode cX8_count 124 = .ok (.iload_n 1, 1) := by decide +kernel
theorem dX8_count_125 : decode cX8_count 125 = .ok (.iconst 5, 1) := by decide +kernel
theorem dX8_count_126 : decode cX8_count 126 = .ok (.isub, 1) := by decide +kernel
theorem dX8_count_127 : decode cX8_count 127 = .ok (.iconst 1, 1) := by decide +kernel
theorem dX8_count_128 : decode cX8_count 128 = .ok (.invokevirtual 212, 3) := by decide +kernel
theorem dX8_count_131 : decode cX8_count 131 = .ok (.ireturn, 1) := by decide +kernel
theorem dX8_count_132 : decode cX8_count 132 = .ok (.aload_n 0, 1) := by decide +kernel
theorem dX8_count_133 : decode cX8_count 133 = .ok (.iload_n 1, 1) := by decide +kernel
theorem dX8_count_134 : decode cX8_count 134 = .ok (.bipush 7, 2) := by decide +kernel
theorem dX8_count_136 : decode cX8_count 136 = .ok (.isub, 1) := by decide +kernel
theorem dX8_count_137 : decode cX8_count 137 = .ok (.invokevirtual 133, 3) := by decide +kernel
theorem dX8_count_140 : decode cX8_count 140 = .ok (.ireturn, 1) := by decide +kernel
theorem dX8_count_141 : decode cX8_count 141 = .ok (.aload_n 0, 1) := by decide +kernel
theorem dX8_count_142 : decode cX8_count 142 = .ok (.invokevirtual 130, 3) := by decide +kernel
theorem dX8_count_145 : decode cX8_count 145 = .ok (.ireturn, 1) := by decide +kernel
theorem dX8_count_146 : decode cX8_count 146 = .ok (.aload_n 0, 1) := by decide +kernel
theorem dX8_count_147 : decode cX8_count 147 = .ok (.iload_n 1, 1) := by decide +kernel
theorem dX8_count_148 : decode cX8_count 148 = .ok (.bipush 10, 2) := by decide +kernel
theorem dX8_count_150 : decode cX8_count 150 = .ok (.isub, 1) := by decide +kernel
theorem dX8_count_151 : decode cX8_count 151 = .ok (.invokevirtual 215, 3) := by decide +kernel
theorem dX8_count_154 : decode cX8_count 154 = .ok (.ireturn, 1) := by decide +kernel
theorem dX8_count_155 : decode cX8_count 155 = .ok (.aload_n 0, 1) := by decide +kernel
theorem dX8_count_156 : decode cX8_count 156 = .ok (.getfield 56, 3) := by decide +kernel
theorem dX8_count_159 : decode cX8_count 159 = .ok (.ireturn, 1) := by decide +kernel
theorem dX8_count_160 : decode cX8_count 160 = .ok (.aload_n 0, 1) := by decide +kernel
theorem dX8_count_161 : decode cX8_count 161 = .ok (.getfield 166, 3) := by decide +kernel
theorem dX8_count_164 : decode cX8_count 164 = .ok (.ireturn, 1) := by decide +kernel
theorem dX8_count_165 : decode cX8_count 165 = .ok (.aload_n 0, 1) := by decide +kernel
theorem dX8_count_166 : decode cX8_count 166 = .ok (.getfield 7, 3) := by decide +kernel
theorem dX8_count_169 : decode cX8_count 169 = .ok (.sipush 189, 3) := by decide +kernel
theorem dX8_count_172 : decode cX8_count 172 = .ok (.iload_n 1, 1) := by decide +kernel
theorem dX8_count_173 : decode cX8_count 173 = .ok (.iadd, 1) := by decide +kernel
theorem dX8_count_174 : decode cX8_count 174 = .ok (.bipush 14, 2) := by decide +kernel
theorem dX8_count_176 : decode cX8_count 176 = .ok (.isub, 1) := by decide +kernel
theorem dX8_count_177 : decode cX8_count 177 = .ok (.iaload, 1) := by decide +kernel
theorem dX8_count_178 : decode cX8_count 178 = .ok (.ireturn, 1) := by decide +kernel
theorem dX8_count_179 : decode cX8_count 179 = .ok (.bipush (-2), 2) := by decide +kernel
theorem dX8_count_181 : decode cX8_count 181 = .ok (.ireturn, 1) := by decide +kernel
end
section
-- the cells that stand once both constructors have ended: objects (class, fields: none an int, some j the cell j) and rows (type, length, the cells of a row of objects)
abbrev MLay : Type := (Nat × List (Option Nat)) ⊕ (Nat × Nat × Option (List Nat))
def mmLay : List MLay := [
  .inl (7, [some 1, some 3, some 15, some 27, none, some 87, some 89, some 94, some 96, some 99]),
  .inl (0, [some 2]),
  .inr (0, 378, none),
  .inl (4, [some 1, some 4, some 5, some 6, some 7, some 8, none, some 9, some 10, some 11, some 12, some 13, some 14, none]),
  .inr (0, 63, none),
  .inr (0, 63, none),
  .inr (0, 63, none),
  .inr (0, 63, none),
  .inr (0, 2, none),
  .inr (0, 16, none),
  .inr (0, 16, none),
  .inr (0, 16, none),
  .inr (0, 16, none),
  .inr (0, 16, none),
  .inr (0, 16, none),
  .inl (4, [some 1, some 16, some 17, some 18, some 19, some 20, none, some 21, some 22, some 23, some 24, some 25, some 26, none]),
  .inr (0, 63, none),
  .inr (0, 63, none),
  .inr (0, 63, none),
  .inr (0, 63, none),
  .inr (0, 2, none),
  .inr (0, 16, none),
  .inr (0, 16, none),
  .inr (0, 16, none),
  .inr (0, 16, none),
  .inr (0, 16, none),
  .inr (0, 16, none),
  .inl (4, [some 1, some 28, some 29, some 30, some 31, some 32, none, some 33, some 34, some 35, some 36, some 37, some 38, none]),
  .inr (0, 63, none),
  .inr (0, 63, none),
  .inr (0, 63, none),
  .inr (0, 63, none),
  .inr (0, 2, none),
  .inr (0, 16, none),
  .inr (0, 16, none),
  .inr (0, 16, none),
  .inr (0, 16, none),
  .inr (0, 16, none),
  .inr (0, 16, none),
  .inl (4, [some 1, some 40, some 41, some 42, some 43, some 44, none, some 45, some 46, some 47, some 48, some 49, some 50, none]),
  .inr (0, 63, none),
  .inr (0, 63, none),
  .inr (0, 63, none),
  .inr (0, 63, none),
  .inr (0, 2, none),
  .inr (0, 16, none),
  .inr (0, 16, none),
  .inr (0, 16, none),
  .inr (0, 16, none),
  .inr (0, 16, none),
  .inr (0, 16, none),
  .inl (4, [some 1, some 52, some 53, some 54, some 55, some 56, none, some 57, some 58, some 59, some 60, some 61, some 62, none]),
  .inr (0, 63, none),
  .inr (0, 63, none),
  .inr (0, 63, none),
  .inr (0, 63, none),
  .inr (0, 2, none),
  .inr (0, 16, none),
  .inr (0, 16, none),
  .inr (0, 16, none),
  .inr (0, 16, none),
  .inr (0, 16, none),
  .inr (0, 16, none),
  .inl (4, [some 1, some 64, some 65, some 66, some 67, some 68, none, some 69, some 70, some 71, some 72, some 73, some 74, none]),
  .inr (0, 63, none),
  .inr (0, 63, none),
  .inr (0, 63, none),
  .inr (0, 63, none),
  .inr (0, 2, none),
  .inr (0, 16, none),
  .inr (0, 16, none),
  .inr (0, 16, none),
  .inr (0, 16, none),
  .inr (0, 16, none),
  .inr (0, 16, none),
  .inl (4, [some 1, some 76, some 77, some 78, some 79, some 80, none, some 81, some 82, some 83, some 84, some 85, some 86, none]),
  .inr (0, 63, none),
  .inr (0, 63, none),
  .inr (0, 63, none),
  .inr (0, 63, none),
  .inr (0, 2, none),
  .inr (0, 16, none),
  .inr (0, 16, none),
  .inr (0, 16, none),
  .inr (0, 16, none),
  .inr (0, 16, none),
  .inr (0, 16, none),
  .inl (2, [some 88, none, none]),
  .inr (3, 4, some [39, 51, 63, 75]),
  .inl (3, [some 90, none, none, some 91, some 92, some 93, none, none, none]),
  .inr (1, 60, none),
  .inr (1, 30, none),
  .inr (0, 30, none),
  .inr (0, 30, none),
  .inl (6, [some 1, some 95]),
  .inr (0, 63, none),
  .inl (5, [some 1, some 97, some 98]),
  .inr (0, 63, none),
  .inr (2, 63, none),
  .inl (1, [some 1, some 96, none, none, none, none]),
  .inl (8, [none, some 101, some 102, some 103, none, some 104, none, some 105, none, some 106, some 107, some 108, some 109, some 110, none, none, some 111, none]),
  .inr (0, 289, none),
  .inr (0, 289, none),
  .inr (0, 1156, none),
  .inr (0, 289, none),
  .inr (0, 60, none),
  .inr (0, 63, none),
  .inr (2, 63, none),
  .inr (0, 63, none),
  .inr (2, 63, none),
  .inr (2, 16, none),
  .inr (0, 96, none)]
end
section
-- A MACHINE OF CELLS BY NUMBER over the kit's worlds: the layout is fixed (mmLay), only whole numbers change. MH: what stands in the cell k at place i. MV: a whole number, or a cell's number.
abbrev MH : Type := Nat → Nat → Int32
abbrev MV : Type := Int32 ⊕ Nat
abbrev MMeth : Type := MethodName × ByteArray × Nat × Option FieldType
def mmUp (h : MH) (k : Nat) (g : Nat → Int32) : MH := fun j => if j = k then g else h j
abbrev mmSet (h : MH) (k i : Nat) (v : Int32) : MH := mmUp h k (upd (h k) i v)
theorem mmUp_same (h : MH) (k : Nat) (g : Nat → Int32) : mmUp h k g k = g := if_pos rfl
theorem mmUp_ne (h : MH) {j k : Nat} (g : Nat → Int32) (hj : j ≠ k) : mmUp h k g j = h j := if_neg hj
def mmFv (ρ : Nat → Nat) (x : Int32) : Option Nat → Value
  | none => .int x
  | some j => .ref (ρ j)
def mmV (ρ : Nat → Nat) : MV → Value
  | .inl x => .int x
  | .inr j => .ref (ρ j)
theorem mmV_cat (ρ : Nat → Nat) (v : MV) : (mmV ρ v).category = 1 := by cases v <;> rfl
def mmCell (ρ : Nat → Nat) (ca : Nat → ClassId) (h : Nat → Int32) : MLay → va_E
  | .inl (ci, fk) => .inr (ci, fk.mapIdx (fun f o => mmFv ρ (h f) o))
  | .inr (ti, n, none) => .inl (ca ti, n, .inl h)
  | .inr (ti, n, some rs) => .inl (ca ti, n, .inr (.inr (.inr (.inr (fun i => (rs[i]?).map ρ)))))
def mmWorld (ρ : Nat → Nat) (ca : Nat → ClassId) (h : MH) : va_W := mmLay.mapIdx (fun k e => (ρ k, mmCell ρ ca (h k) e))
def mmTys (ca : Nat → ClassId) : List (ClassId × FieldType) := [(ca 0, .int), (ca 1, .char), (ca 2, .boolean), (ca 3, .object RX4)]
theorem mmWorld_get {ρ : Nat → Nat} {ca : Nat → ClassId} {h : MH} {k : Nat} {e : MLay} (he : mmLay[k]? = some e) : (mmWorld ρ ca h)[k]? = some (ρ k, mmCell ρ ca (h k) e) := by
  simp [mmWorld, List.getElem?_mapIdx, he]
theorem mmWorld_at {ρ : Nat → Nat} {ca : Nat → ClassId} {h : MH} {k : Nat} {q : Nat × va_E} (hq : (mmWorld ρ ca h)[k]? = some q) : ∃ e, mmLay[k]? = some e ∧ q = (ρ k, mmCell ρ ca (h k) e) := by
  simp only [mmWorld, List.getElem?_mapIdx] at hq
  cases he : mmLay[k]? with
  | none => rw [he] at hq; cases hq
  | some e => rw [he] at hq; exact ⟨e, rfl, (Option.some.inj hq).symm⟩
theorem mmWorld_set {ρ : Nat → Nat} {ca : Nat → ClassId} {h : MH} {k : Nat} {e : MLay} {g : Nat → Int32} {x : va_E} (he : mmLay[k]? = some e) (hx : mmCell ρ ca g e = x) : (mmWorld ρ ca h).set k (ρ k, x) = mmWorld ρ ca (mmUp h k g) := by
  subst hx
  apply List.ext_getElem?
  intro j
  rw [List.getElem?_set]
  by_cases hj : k = j
  · subst hj
    have hlt : k < (mmWorld ρ ca h).length := (List.getElem?_eq_some_iff.mp (mmWorld_get (ρ := ρ) (ca := ca) (h := h) he)).1
    rw [if_pos rfl, if_pos hlt, mmWorld_get he, mmUp_same]
  · rw [if_neg hj]
    simp only [mmWorld, List.getElem?_mapIdx]
    cases hjj : mmLay[j]? with
    | none => rfl
    | some ej => simp [mmUp_ne h g (fun q => hj q.symm)]
theorem mmWorld_D {ρ : Nat → Nat} {ca : Nat → ClassId} {h h' : MH} {A : Nat → Prop} (hD : va_D A (mmWorld ρ ca h)) : va_D A (mmWorld ρ ca h') := by
  refine ⟨fun i j p q hi hj hpq => ?_, fun k q hk => ?_⟩
  · obtain ⟨ei, hei, rfl⟩ := mmWorld_at hi
    obtain ⟨ej, hej, rfl⟩ := mmWorld_at hj
    exact hD.1 i j (ρ i, mmCell ρ ca (h i) ei) (ρ j, mmCell ρ ca (h j) ej) (mmWorld_get hei) (mmWorld_get hej) hpq
  · obtain ⟨ek, hek, rfl⟩ := mmWorld_at hk
    exact hD.2 k (ρ k, mmCell ρ ca (h k) ek) (mmWorld_get hek)
theorem mmWorld_A {ρ : Nat → Nat} {ca : Nat → ClassId} {h h' : MH} {sz : Nat} {q : Nat} (hq : va_A (mmWorld ρ ca h) sz q) : va_A (mmWorld ρ ca h') sz q := by
  rcases hq with ⟨k, e, hk⟩ | hq
  · obtain ⟨ek, hek, he⟩ := mmWorld_at hk
    have h1 := mmWorld_get (ρ := ρ) (ca := ca) (h := h') hek
    have h2 : q = ρ k := congrArg Prod.fst he
    rw [h2]
    exact Or.inl ⟨k, _, h1⟩
  · exact Or.inr hq
-- locals
def mmLv (ρ : Nat → Nat) (ls : List (Option MV)) : List (Nat × Value) := (List.range ls.length).filterMap (fun i => (ls[i]?.join).map (fun v => (i, mmV ρ v)))
theorem mmLv_mem {ρ : Nat → Nat} {ls : List (Option MV)} {q : Nat × Value} : q ∈ mmLv ρ ls ↔ ∃ v, ls[q.1]? = some (some v) ∧ q.2 = mmV ρ v := by
  unfold mmLv
  rw [List.mem_filterMap]
  constructor
  · rintro ⟨i, -, hi⟩
    cases hl : ls[i]? with
    | none => rw [hl] at hi; cases hi
    | some o =>
      cases o with
      | none => rw [hl] at hi; cases hi
      | some v =>
        rw [hl] at hi
        obtain rfl := Option.some.inj hi
        exact ⟨v, hl, rfl⟩
  · rintro ⟨v, h1, h2⟩
    refine ⟨q.1, ?_, ?_⟩
    · rw [List.mem_range]
      exact (List.getElem?_eq_some_iff.mp h1).1
    · rw [h1]
      show some (q.1, mmV ρ v) = some q
      rw [← h2]
theorem mmL_get {ρ : Nat → Nat} {ls : List (Option MV)} {la : Array Slot} {nL i : Nat} {v : MV} (hl : lv_has la nL (mmLv ρ ls)) (hv : ls[i]? = some (some v)) : la[i]? = some (.val (mmV ρ v)) := hl.2.2 (i, mmV ρ v) (mmLv_mem.mpr ⟨v, hv, rfl⟩)
theorem mmL_set {ρ : Nat → Nat} {ls : List (Option MV)} {la : Array Slot} {nL i : Nat} {v : MV} (hl : lv_has la nL ((i, mmV ρ v) :: (mmLv ρ ls).filter (fun q => !(q.1 == i) && !(q.1 + 1 == i && q.2.category == 2)))) : lv_has la nL (mmLv ρ (ls.set i (some v))) := by
  refine ⟨hl.1, hl.2.1, fun q hq => ?_⟩
  obtain ⟨w, h1, h2⟩ := mmLv_mem.mp hq
  rw [List.getElem?_set] at h1
  by_cases hi : i = q.1
  · rw [if_pos hi] at h1
    split at h1
    · have hw : v = w := Option.some.inj (Option.some.inj h1)
      subst hw
      have h3 := hl.2.2 (i, mmV ρ v) List.mem_cons_self
      rw [h2, ← hi]
      exact h3
    · cases h1
  · rw [if_neg hi] at h1
    refine hl.2.2 q (List.mem_cons_of_mem _ (List.mem_filter.mpr ⟨mmLv_mem.mpr ⟨w, h1, h2⟩, ?_⟩))
    have h3 : q.2.category = 1 := by rw [h2]; exact mmV_cat ρ w
    simp [h3]
    exact fun h => hi h.symm
theorem mmL_entry (ρ : Nat → Nat) (vs : List MV) : ∀ (k : Nat) (i : Nat) (v : MV), vs[i]? = some v → (k + i, mmV ρ v) ∈ lv_args k (vs.map (mmV ρ)) := by
  induction vs with
  | nil => intro k i v h; simp at h
  | cons a t ih =>
    intro k i v h
    show (k + i, mmV ρ v) ∈ (k, mmV ρ a) :: lv_args (if (mmV ρ a).category = 2 then k + 2 else k + 1) (t.map (mmV ρ))
    rw [mmV_cat, if_neg (by decide)]
    cases i with
    | zero =>
      have h1 : a = v := Option.some.inj h
      subst h1
      exact List.mem_cons_self
    | succ j =>
      have h1 := ih (k + 1) j v (by simpa using h)
      rw [show k + (j + 1) = k + 1 + j by omega]
      exact List.mem_cons_of_mem _ h1
theorem mmL_sl (ρ : Nat → Nat) (vs : List MV) : (lg_sl (vs.map (mmV ρ))).length = vs.length := by
  induction vs with
  | nil => rfl
  | cons a t ih =>
    simp only [lg_sl, List.map_cons, List.flatMap_cons, mmV_cat] at ih ⊢
    simp only [List.length_append, ih]
    simp; omega
def mmStart (nL : Nat) (vs : List MV) : List (Option MV) := vs.map some ++ List.replicate (nL - vs.length) none
theorem mmL_start {ρ : Nat → Nat} {vs : List MV} {la : Array Slot} {nL : Nat} (hl : lv_has la nL (lv_args 0 (vs.map (mmV ρ)))) : lv_has la nL (mmLv ρ (mmStart nL vs)) := by
  refine ⟨hl.1, hl.2.1, fun q hq => ?_⟩
  obtain ⟨w, h1, h2⟩ := mmLv_mem.mp hq
  have h3 : vs[q.1]? = some w := by
    unfold mmStart at h1
    rw [List.getElem?_append] at h1
    split at h1
    · rw [List.getElem?_map] at h1
      cases hv : vs[q.1]? with
      | none => rw [hv] at h1; cases h1
      | some y => rw [hv] at h1; exact Option.some.inj h1
    · rw [List.getElem?_replicate] at h1
      split at h1
      · cases h1
      · cases h1
  have h4 := mmL_entry ρ vs 0 q.1 w h3
  rw [Nat.zero_add, ← h2] at h4
  exact hl.2.2 q h4
end
section
-- THE JUDGEMENT: MW d M pc ls st h Q: with the machine of cells at pc of the method M, its locals ls, its stack st and the whole numbers h, in a room of d frames, the method comes to its end with an answer r and numbers h' of which Q r h' holds. MC: a method's contract.
def mmWs (M : MMeth) : List Cond := .code M.1 M.2.1 M.2.2.1 M.2.2.2 :: mmWall
def mmRoom (d : Nat) : Room := { frames := d, cells := 0, slots := 0, locals := 32 * d }
def mmB (D : va_G) (ρ : Nat → Nat) (ca : Nat → ClassId) (h : MH) (t : State) : Prop := va_P D vwCl (mmWorld ρ ca h) t.heap ∧ va_K D vwCl (mmTys ca) t
def mmQc (M : MMeth) (D : va_G) (ρ : Nat → Nat) (ca : Nat → ClassId) (A : Nat → Prop) (Q : Int32 → MH → Prop) : Array Value → State → Outcome → State → Prop :=
  match M.2.2.2 with
  | none => va_Qv (fun h' : MH => Q 0 h') (mmB D ρ ca) A
  | some _ => va_Qi Q (mmB D ρ ca) A
def mmCtx (p : Program) (s : State) (m : MethodId) (args : Array Value) (meth : Method) (c : Code) (M : MMeth) (D : va_G) (ρ : Nat → Nat) (ca : Nat → ClassId) (A : Nat → Prop) : Prop :=
  p.tables.exec = Jvm.exec ∧ c.code = M.2.1 ∧ c.maxLocals = M.2.2.1 ∧ s.vm.findClass M.1.cls = some m.cls ∧ (∀ w ∈ mmWall, w.before args s = true) ∧ meth.sig.returnType = M.2.2.2 ∧ meth.locks = false ∧ va_K D vwCl (mmTys ca) s ∧ (∀ h : MH, va_D A (mmWorld ρ ca h)) ∧ (∀ q, s.heap.size ≤ q → A q)
def MW (d : Nat) (M : MMeth) (pc : Nat) (ls : List (Option MV)) (st : List MV) (h : MH) (Q : Int32 → MH → Prop) : Prop :=
  ∀ (p : Program) (l : Launch) (e : Env) (s : State) (m : MethodId) (args : Array Value) (below : List Frame) (meth : Method) (c : Code) (D : va_G) (ρ : Nat → Nat) (ca : Nat → ClassId) (A : Nat → Prop), mmCtx p s m args meth c M D ρ ca A →
  ∀ (H : Heap) (locs : List Loc) (la : Array Slot), va_P D vwCl (mmWorld ρ ca h) H → va_S A s.heap H locs → lv_has la M.2.2.1 (mmLv ρ ls) →
    W p l e (mmRoom d) s m args below meth c H locs 0 0 (MQ below (mmQc M D ρ ca A Q) args s 0 0 A) (F0 m pc la (st.map (mmV ρ)))
def MC (d : Nat) (M : MMeth) (vs : List MV) (h : MH) (Q : Int32 → MH → Prop) : Prop :=
  ∀ (l : Launch) (D : va_G) (ρ : Nat → Nat) (ca : Nat → ClassId) (sz : Nat), va_D (fun _ => True) (mmWorld ρ ca h) →
    Met l M.1 (mmWs M) (mmRoom d) (va_Pc (vs.map (mmV ρ)) (fun U => U.heap.size = sz ∧ mmB D ρ ca h U)) (mmQc M D ρ ca (va_A (mmWorld ρ ca h) sz) Q) 0 0 (va_A (mmWorld ρ ca h) sz)
set_option maxHeartbeats 1000000 in
theorem MC.of {d : Nat} {M : MMeth} {vs : List MV} {h : MH} {Q : Int32 → MH → Prop} (hy : plainName M.1.cls = true) (hn : vs.length ≤ M.2.2.1) (k : MW d M 0 (mmStart M.2.2.1 vs) [] h Q) : MC d M vs h Q := by
  intro l D ρ ca sz hD0
  refine Met.ofW (cc := M.2.1) (maxL := M.2.2.1) (ret := M.2.2.2) hy rfl ?_
  intro p e s m args below meth c s₁ B hml hv
  obtain ⟨rfl, hsz, hP, hK⟩ := hv
  have hts : ∀ w ∈ mmWs M, w.before (vs.map (mmV ρ)).toArray s = true := atoms_spec (ws := mmWs M) B.pre
  have hown : s.vm.findClass M.1.cls = some m.cls := findClass_of_methodNamed B.named
  subst hsz
  have hl := lv_entry (vs.map (mmV ρ)) (n := M.2.2.1) (by rw [mmL_sl]; exact hn)
  rw [lg_entry_eq]
  exact k p l e s m _ below meth c D ρ ca _ ⟨B.exec, B.bytes, hml, hown, fun w hw => hts w (List.mem_cons_of_mem _ hw), B.returns, B.notSynchronized, hK, fun h' => mmWorld_D (hD0.self (sz := s.heap.size)), fun q hq => Or.inr hq⟩ s.heap [] _ hP va_S.rf (mmL_start hl)
theorem MC.mono {d : Nat} {M : MMeth} {vs : List MV} {h : MH} {Q Q' : Int32 → MH → Prop} (hc : MC d M vs h Q) (hq : ∀ r h', Q r h' → Q' r h') : MC d M vs h Q' := by
  intro l D ρ ca sz hD
  have h1 := hc l D ρ ca sz hD
  have h2 : ∀ a st o t, mmQc M D ρ ca (va_A (mmWorld ρ ca h) sz) Q a st o t → mmQc M D ρ ca (va_A (mmWorld ρ ca h) sz) Q' a st o t := by
    intro a st o t hh
    unfold mmQc at hh ⊢
    cases hM : M.2.2.2 with
    | none =>
      rw [hM] at hh
      obtain ⟨⟨u, e1, e2, e3⟩, e4⟩ := hh
      exact ⟨⟨u, e1, hq _ _ e2, e3⟩, e4⟩
    | some ty =>
      rw [hM] at hh
      obtain ⟨⟨r, u, e1, e2, e3⟩, e4⟩ := hh
      exact ⟨⟨r, u, e1, hq _ _ e2, e3⟩, e4⟩
  intro p e ha hc' hk s m args below hf hap hP hK
  obtain ⟨k, o, g1, g2, g3, g4⟩ := h1 p e ha hc' hk s m args below hf hap hP hK
  exact ⟨k, o, g1, g2, g3, h2 _ _ _ _ g4.1, g4.2⟩
section MM
variable {d : Nat} {M : MMeth} {pc : Nat} {ls : List (Option MV)} {st : List MV} {h : MH} {Q : Int32 → MH → Prop}
theorem MW.mono {Q' : Int32 → MH → Prop} (k : MW d M pc ls st h Q) (hq : ∀ r h', Q r h' → Q' r h') : MW d M pc ls st h Q' := by
  intro p l e s m args below meth c D ρ ca A C H locs la hP hS hl T hT X
  obtain ⟨t, g1, o, g2, g3, g4, g5⟩ := k p l e s m args below meth c D ρ ca A C H locs la hP hS hl T hT X
  refine ⟨t, g1, o, g2, g3, ?_, g5⟩
  unfold mmQc at g4 ⊢
  cases hM : M.2.2.2 with
  | none =>
    rw [hM] at g4
    obtain ⟨⟨u, e1, e2, e3⟩, e4⟩ := g4
    exact ⟨⟨u, e1, hq _ _ e2, e3⟩, e4⟩
  | some ty =>
    rw [hM] at g4
    obtain ⟨⟨r, u, e1, e2, e3⟩, e4⟩ := g4
    exact ⟨⟨r, u, e1, hq _ _ e2, e3⟩, e4⟩
/-- fewer locals known, or the same ones -/
theorem MW.locals {ls' : List (Option MV)} (hs : ∀ (i : Nat) (v : MV), ls'[i]? = some (some v) → ls[i]? = some (some v)) (k : MW d M pc ls' st h Q) : MW d M pc ls st h Q := by
  intro p l e s m args below meth c D ρ ca A C H locs la hP hS hl
  refine k p l e s m args below meth c D ρ ca A C H locs la hP hS ⟨hl.1, hl.2.1, fun q hq => ?_⟩
  obtain ⟨v, h1, h2⟩ := mmLv_mem.mp hq
  exact hl.2.2 q (mmLv_mem.mpr ⟨v, hs _ _ h1, h2⟩)
theorem MW.iconst {n : Int} {v : Int32} (hd : decode M.2.1 pc = .ok (.iconst n, 1)) (hv : Int32.ofInt n = v) (k : MW d M (pc + 1) ls (.inl v :: st) h Q) : MW d M pc ls st h Q :=
  fun p l e s m args below meth c D ρ ca A C H locs la hP hS hl => lv_iconst C.1 C.2.1 hd hv (k p l e s m args below meth c D ρ ca A C H locs la hP hS hl)
theorem MW.bipush {n : Int} {v : Int32} (hd : decode M.2.1 pc = .ok (.bipush n, 2)) (hv : (Int8.ofInt n).toInt32 = v) (k : MW d M (pc + 2) ls (.inl v :: st) h Q) : MW d M pc ls st h Q :=
  fun p l e s m args below meth c D ρ ca A C H locs la hP hS hl => lv_bipush C.1 C.2.1 hd hv (k p l e s m args below meth c D ρ ca A C H locs la hP hS hl)
theorem MW.sipush {n : Int} {v : Int32} (hd : decode M.2.1 pc = .ok (.sipush n, 3)) (hv : (Int16.ofInt n).toInt32 = v) (k : MW d M (pc + 3) ls (.inl v :: st) h Q) : MW d M pc ls st h Q :=
  fun p l e s m args below meth c D ρ ca A C H locs la hP hS hl => lv_sipush C.1 C.2.1 hd hv (k p l e s m args below meth c D ρ ca A C H locs la hP hS hl)
theorem MW.ldcw {ix : Nat} {v : Int32} (hd : decode M.2.1 pc = .ok (.ldc_w ix, 3)) (hw : Cond.constant M.1.cls ix v ∈ mmWall) (k : MW d M (pc + 3) ls (.inl v :: st) h Q) : MW d M pc ls st h Q :=
  fun p l e s m args below meth c D ρ ca A C H locs la hP hS hl => lv_ldcw C.1 C.2.1 C.2.2.2.1 (C.2.2.2.2.1 _ hw) hd (k p l e s m args below meth c D ρ ca A C H locs la hP hS hl)
theorem MW.iload_n {i : Fin 4} {v : Int32} (hd : decode M.2.1 pc = .ok (.iload_n i, 1)) (hv : ls[(i : Nat)]? = some (some (.inl v))) (k : MW d M (pc + 1) ls (.inl v :: st) h Q) : MW d M pc ls st h Q :=
  fun p l e s m args below meth c D ρ ca A C H locs la hP hS hl => lv_iload_n C.1 C.2.1 hd rfl (mmL_get hl hv) (k p l e s m args below meth c D ρ ca A C H locs la hP hS hl)
theorem MW.iload {i : Nat} {v : Int32} (hd : decode M.2.1 pc = .ok (.iload i, 2)) (hv : ls[i]? = some (some (.inl v))) (k : MW d M (pc + 2) ls (.inl v :: st) h Q) : MW d M pc ls st h Q :=
  fun p l e s m args below meth c D ρ ca A C H locs la hP hS hl => lv_iload C.1 C.2.1 hd (mmL_get hl hv) (k p l e s m args below meth c D ρ ca A C H locs la hP hS hl)
theorem MW.aload_n {i : Fin 4} {v : Nat} (hd : decode M.2.1 pc = .ok (.aload_n i, 1)) (hv : ls[(i : Nat)]? = some (some (.inr v))) (k : MW d M (pc + 1) ls (.inr v :: st) h Q) : MW d M pc ls st h Q :=
  fun p l e s m args below meth c D ρ ca A C H locs la hP hS hl => lv_aload_n C.1 C.2.1 hd rfl (mmL_get hl hv) (k p l e s m args below meth c D ρ ca A C H locs la hP hS hl)
theorem MW.istore_n {i : Fin 4} {v : Int32} (hd : decode M.2.1 pc = .ok (.istore_n i, 1)) (hn : (i : Nat) < M.2.2.1) {ls' : List (Option MV)} (hs : ls.set i (some (.inl v)) = ls') (k : MW d M (pc + 1) ls' st h Q) : MW d M pc ls (.inl v :: st) h Q := by
  subst hs
  exact fun p l e s m args below meth c D ρ ca A C H locs la hP hS hl => lv_istore_n C.1 C.2.1 hd rfl hl hn rfl (fun la' hl' => k p l e s m args below meth c D ρ ca A C H locs la' hP hS (mmL_set (v := .inl v) hl'))
theorem MW.istore {i : Nat} {v : Int32} (hd : decode M.2.1 pc = .ok (.istore i, 2)) (hn : i < M.2.2.1) {ls' : List (Option MV)} (hs : ls.set i (some (.inl v)) = ls') (k : MW d M (pc + 2) ls' st h Q) : MW d M pc ls (.inl v :: st) h Q := by
  subst hs
  exact fun p l e s m args below meth c D ρ ca A C H locs la hP hS hl => lv_istore C.1 C.2.1 hd hl hn rfl (fun la' hl' => k p l e s m args below meth c D ρ ca A C H locs la' hP hS (mmL_set (v := .inl v) hl'))
theorem mmLv_pos {ρ : Nat → Nat} {i : Nat} {v : MV} (hv : ls[i]? = some (some v)) : ∃ k : Nat, (mmLv ρ ls)[k]? = some (i, mmV ρ v) := List.getElem?_of_mem (mmLv_mem.mpr ⟨v, hv, rfl⟩)
theorem MW.iinc {i : Nat} {n : Int} {x v : Int32} (hd : decode M.2.1 pc = .ok (.iinc i n, 3)) (hv : ls[i]? = some (some (.inl x))) (hx : x + Int32.ofInt n = v) (hn : i < M.2.2.1) {ls' : List (Option MV)} (hs : ls.set i (some (.inl v)) = ls') (k : MW d M (pc + 3) ls' st h Q) : MW d M pc ls st h Q := by
  subst hs
  intro p l e s m args below meth c D ρ ca A C H locs la hP hS hl
  obtain ⟨j, hj⟩ := mmLv_pos (ρ := ρ) hv
  exact lv_iinc C.1 C.2.1 hd hl hj hx hn rfl (fun la' hl' => k p l e s m args below meth c D ρ ca A C H locs la' hP hS (mmL_set (v := .inl v) hl'))
theorem MW.iadd {x y v : Int32} (hd : decode M.2.1 pc = .ok (.iadd, 1)) (hv : x + y = v) (k : MW d M (pc + 1) ls (.inl v :: st) h Q) : MW d M pc ls (.inl y :: .inl x :: st) h Q := by
  subst hv
  exact fun p l e s m args below meth c D ρ ca A C H locs la hP hS hl => lv_iadd C.1 C.2.1 hd (k p l e s m args below meth c D ρ ca A C H locs la hP hS hl)
theorem MW.isub {x y v : Int32} (hd : decode M.2.1 pc = .ok (.isub, 1)) (hv : x - y = v) (k : MW d M (pc + 1) ls (.inl v :: st) h Q) : MW d M pc ls (.inl y :: .inl x :: st) h Q := by
  subst hv
  exact fun p l e s m args below meth c D ρ ca A C H locs la hP hS hl => lv_isub C.1 C.2.1 hd (k p l e s m args below meth c D ρ ca A C H locs la hP hS hl)
theorem MW.imul {x y v : Int32} (hd : decode M.2.1 pc = .ok (.imul, 1)) (hv : x * y = v) (k : MW d M (pc + 1) ls (.inl v :: st) h Q) : MW d M pc ls (.inl y :: .inl x :: st) h Q := by
  subst hv
  exact fun p l e s m args below meth c D ρ ca A C H locs la hP hS hl => lv_imul C.1 C.2.1 hd (k p l e s m args below meth c D ρ ca A C H locs la hP hS hl)
theorem MW.iand {x y v : Int32} (hd : decode M.2.1 pc = .ok (.iand, 1)) (hv : x &&& y = v) (k : MW d M (pc + 1) ls (.inl v :: st) h Q) : MW d M pc ls (.inl y :: .inl x :: st) h Q := by
  subst hv
  exact fun p l e s m args below meth c D ρ ca A C H locs la hP hS hl => lv_iand C.1 C.2.1 hd (k p l e s m args below meth c D ρ ca A C H locs la hP hS hl)
theorem MW.ixor {x y v : Int32} (hd : decode M.2.1 pc = .ok (.ixor, 1)) (hv : x ^^^ y = v) (k : MW d M (pc + 1) ls (.inl v :: st) h Q) : MW d M pc ls (.inl y :: .inl x :: st) h Q := by
  subst hv
  exact fun p l e s m args below meth c D ρ ca A C H locs la hP hS hl => lv_ixor C.1 C.2.1 hd (k p l e s m args below meth c D ρ ca A C H locs la hP hS hl)
theorem MW.idiv {x y v : Int32} (hd : decode M.2.1 pc = .ok (.idiv, 1)) (hne : ¬ y = 0) (hv : x / y = v) (k : MW d M (pc + 1) ls (.inl v :: st) h Q) : MW d M pc ls (.inl y :: .inl x :: st) h Q := by
  subst hv
  exact fun p l e s m args below meth c D ρ ca A C H locs la hP hS hl => lv_idiv C.1 C.2.1 hd hne (k p l e s m args below meth c D ρ ca A C H locs la hP hS hl)
theorem MW.irem {x y v : Int32} (hd : decode M.2.1 pc = .ok (.irem, 1)) (hne : ¬ y = 0) (hv : x - x / y * y = v) (k : MW d M (pc + 1) ls (.inl v :: st) h Q) : MW d M pc ls (.inl y :: .inl x :: st) h Q := by
  subst hv
  exact fun p l e s m args below meth c D ρ ca A C H locs la hP hS hl => lv_irem C.1 C.2.1 hd hne (k p l e s m args below meth c D ρ ca A C H locs la hP hS hl)
theorem MW.ineg {x v : Int32} (hd : decode M.2.1 pc = .ok (.ineg, 1)) (hv : -x = v) (k : MW d M (pc + 1) ls (.inl v :: st) h Q) : MW d M pc ls (.inl x :: st) h Q := by
  subst hv
  exact fun p l e s m args below meth c D ρ ca A C H locs la hP hS hl => lv_ineg C.1 C.2.1 hd (k p l e s m args below meth c D ρ ca A C H locs la hP hS hl)
theorem MW.ishl {x y v : Int32} (hd : decode M.2.1 pc = .ok (.ishl, 1)) (hv : x <<< (y &&& 31) = v) (k : MW d M (pc + 1) ls (.inl v :: st) h Q) : MW d M pc ls (.inl y :: .inl x :: st) h Q := by
  subst hv
  exact fun p l e s m args below meth c D ρ ca A C H locs la hP hS hl => lv_ishl C.1 C.2.1 hd (k p l e s m args below meth c D ρ ca A C H locs la hP hS hl)
theorem MW.ishr {x y v : Int32} (hd : decode M.2.1 pc = .ok (.ishr, 1)) (hv : x >>> (y &&& 31) = v) (k : MW d M (pc + 1) ls (.inl v :: st) h Q) : MW d M pc ls (.inl y :: .inl x :: st) h Q := by
  subst hv
  exact fun p l e s m args below meth c D ρ ca A C H locs la hP hS hl => lv_ishr C.1 C.2.1 hd (k p l e s m args below meth c D ρ ca A C H locs la hP hS hl)
theorem MW.iushr {x y v : Int32} (hd : decode M.2.1 pc = .ok (.iushr, 1)) (hv : (x.toUInt32 >>> (y.toUInt32 &&& Int32.toUInt32 31)).toInt32 = v) (k : MW d M (pc + 1) ls (.inl v :: st) h Q) : MW d M pc ls (.inl y :: .inl x :: st) h Q :=
  fun p l e s m args below meth c D ρ ca A C H locs la hP hS hl => lv_iushr C.1 C.2.1 hd hv (k p l e s m args below meth c D ρ ca A C H locs la hP hS hl)
theorem MW.i2c {x v : Int32} (hd : decode M.2.1 pc = .ok (.i2c, 1)) (hv : (x.toUInt32 % 65536).toInt32 = v) (k : MW d M (pc + 1) ls (.inl v :: st) h Q) : MW d M pc ls (.inl x :: st) h Q :=
  fun p l e s m args below meth c D ρ ca A C H locs la hP hS hl => lv_i2c C.1 C.2.1 hd hv (k p l e s m args below meth c D ρ ca A C H locs la hP hS hl)
theorem MW.dup {v : MV} (hd : decode M.2.1 pc = .ok (.dup, 1)) (k : MW d M (pc + 1) ls (v :: v :: st) h Q) : MW d M pc ls (v :: st) h Q :=
  fun p l e s m args below meth c D ρ ca A C H locs la hP hS hl => lv_dup C.1 C.2.1 hd (mmV_cat ρ v) (k p l e s m args below meth c D ρ ca A C H locs la hP hS hl)
theorem MW.dup2 {v w : MV} (hd : decode M.2.1 pc = .ok (.dup2, 1)) (k : MW d M (pc + 1) ls (v :: w :: v :: w :: st) h Q) : MW d M pc ls (v :: w :: st) h Q :=
  fun p l e s m args below meth c D ρ ca A C H locs la hP hS hl => lv_dup2_11 C.1 C.2.1 hd (mmV_cat ρ v) (mmV_cat ρ w) (k p l e s m args below meth c D ρ ca A C H locs la hP hS hl)
theorem MW.pop {v : MV} (hd : decode M.2.1 pc = .ok (.pop, 1)) (k : MW d M (pc + 1) ls st h Q) : MW d M pc ls (v :: st) h Q :=
  fun p l e s m args below meth c D ρ ca A C H locs la hP hS hl => lv_pop C.1 C.2.1 hd (mmV_cat ρ v) (k p l e s m args below meth c D ρ ca A C H locs la hP hS hl)
theorem MW.goto {off : Int} {tgt : Nat} (hd : decode M.2.1 pc = .ok (.goto off, 3)) (ht : (pc : Int) + off = (tgt : Int)) (k : MW d M tgt ls st h Q) : MW d M pc ls st h Q :=
  fun p l e s m args below meth c D ρ ca A C H locs la hP hS hl => lv_goto C.1 C.2.1 hd ht (k p l e s m args below meth c D ρ ca A C H locs la hP hS hl)
end MM
end
section
section MMB
variable {d : Nat} {M : MMeth} {pc : Nat} {ls : List (Option MV)} {st : List MV} {h : MH} {Q : Int32 → MH → Prop}
theorem MW.if_eq {x : Int32} {off : Int} {tgt : Nat} (hd : decode M.2.1 pc = .ok (.ifCond .eq off, 3)) (ht : (pc : Int) + off = (tgt : Int)) (kt : x = 0 → MW d M tgt ls st h Q) (kf : ¬ x = 0 → MW d M (pc + 3) ls st h Q) : MW d M pc ls (.inl x :: st) h Q :=
  fun p l e s m args below meth c D ρ ca A C H locs la hP hS hl => lv_if_eq C.1 C.2.1 hd ht (fun hc => kt hc p l e s m args below meth c D ρ ca A C H locs la hP hS hl) (fun hc => kf hc p l e s m args below meth c D ρ ca A C H locs la hP hS hl)
theorem MW.icmp_eq {x y : Int32} {off : Int} {tgt : Nat} (hd : decode M.2.1 pc = .ok (.if_icmp .eq off, 3)) (ht : (pc : Int) + off = (tgt : Int)) (kt : x = y → MW d M tgt ls st h Q) (kf : ¬ x = y → MW d M (pc + 3) ls st h Q) : MW d M pc ls (.inl y :: .inl x :: st) h Q :=
  fun p l e s m args below meth c D ρ ca A C H locs la hP hS hl => lv_icmp_eq C.1 C.2.1 hd ht (fun hc => kt hc p l e s m args below meth c D ρ ca A C H locs la hP hS hl) (fun hc => kf hc p l e s m args below meth c D ρ ca A C H locs la hP hS hl)
theorem MW.if_ne {x : Int32} {off : Int} {tgt : Nat} (hd : decode M.2.1 pc = .ok (.ifCond .ne off, 3)) (ht : (pc : Int) + off = (tgt : Int)) (kt : ¬ x = 0 → MW d M tgt ls st h Q) (kf : x = 0 → MW d M (pc + 3) ls st h Q) : MW d M pc ls (.inl x :: st) h Q :=
  fun p l e s m args below meth c D ρ ca A C H locs la hP hS hl => lv_if_ne C.1 C.2.1 hd ht (fun hc => kt hc p l e s m args below meth c D ρ ca A C H locs la hP hS hl) (fun hc => kf hc p l e s m args below meth c D ρ ca A C H locs la hP hS hl)
theorem MW.icmp_ne {x y : Int32} {off : Int} {tgt : Nat} (hd : decode M.2.1 pc = .ok (.if_icmp .ne off, 3)) (ht : (pc : Int) + off = (tgt : Int)) (kt : ¬ x = y → MW d M tgt ls st h Q) (kf : x = y → MW d M (pc + 3) ls st h Q) : MW d M pc ls (.inl y :: .inl x :: st) h Q :=
  fun p l e s m args below meth c D ρ ca A C H locs la hP hS hl => lv_icmp_ne C.1 C.2.1 hd ht (fun hc => kt hc p l e s m args below meth c D ρ ca A C H locs la hP hS hl) (fun hc => kf hc p l e s m args below meth c D ρ ca A C H locs la hP hS hl)
theorem MW.if_lt {x : Int32} {off : Int} {tgt : Nat} (hd : decode M.2.1 pc = .ok (.ifCond .lt off, 3)) (ht : (pc : Int) + off = (tgt : Int)) (kt : x < 0 → MW d M tgt ls st h Q) (kf : ¬ x < 0 → MW d M (pc + 3) ls st h Q) : MW d M pc ls (.inl x :: st) h Q :=
  fun p l e s m args below meth c D ρ ca A C H locs la hP hS hl => lv_if_lt C.1 C.2.1 hd ht (fun hc => kt hc p l e s m args below meth c D ρ ca A C H locs la hP hS hl) (fun hc => kf hc p l e s m args below meth c D ρ ca A C H locs la hP hS hl)
theorem MW.icmp_lt {x y : Int32} {off : Int} {tgt : Nat} (hd : decode M.2.1 pc = .ok (.if_icmp .lt off, 3)) (ht : (pc : Int) + off = (tgt : Int)) (kt : x < y → MW d M tgt ls st h Q) (kf : ¬ x < y → MW d M (pc + 3) ls st h Q) : MW d M pc ls (.inl y :: .inl x :: st) h Q :=
  fun p l e s m args below meth c D ρ ca A C H locs la hP hS hl => lv_icmp_lt C.1 C.2.1 hd ht (fun hc => kt hc p l e s m args below meth c D ρ ca A C H locs la hP hS hl) (fun hc => kf hc p l e s m args below meth c D ρ ca A C H locs la hP hS hl)
theorem MW.if_ge {x : Int32} {off : Int} {tgt : Nat} (hd : decode M.2.1 pc = .ok (.ifCond .ge off, 3)) (ht : (pc : Int) + off = (tgt : Int)) (kt : 0 ≤ x → MW d M tgt ls st h Q) (kf : ¬ 0 ≤ x → MW d M (pc + 3) ls st h Q) : MW d M pc ls (.inl x :: st) h Q :=
  fun p l e s m args below meth c D ρ ca A C H locs la hP hS hl => lv_if_ge C.1 C.2.1 hd ht (fun hc => kt hc p l e s m args below meth c D ρ ca A C H locs la hP hS hl) (fun hc => kf hc p l e s m args below meth c D ρ ca A C H locs la hP hS hl)
theorem MW.icmp_ge {x y : Int32} {off : Int} {tgt : Nat} (hd : decode M.2.1 pc = .ok (.if_icmp .ge off, 3)) (ht : (pc : Int) + off = (tgt : Int)) (kt : y ≤ x → MW d M tgt ls st h Q) (kf : ¬ y ≤ x → MW d M (pc + 3) ls st h Q) : MW d M pc ls (.inl y :: .inl x :: st) h Q :=
  fun p l e s m args below meth c D ρ ca A C H locs la hP hS hl => lv_icmp_ge C.1 C.2.1 hd ht (fun hc => kt hc p l e s m args below meth c D ρ ca A C H locs la hP hS hl) (fun hc => kf hc p l e s m args below meth c D ρ ca A C H locs la hP hS hl)
theorem MW.if_gt {x : Int32} {off : Int} {tgt : Nat} (hd : decode M.2.1 pc = .ok (.ifCond .gt off, 3)) (ht : (pc : Int) + off = (tgt : Int)) (kt : 0 < x → MW d M tgt ls st h Q) (kf : ¬ 0 < x → MW d M (pc + 3) ls st h Q) : MW d M pc ls (.inl x :: st) h Q :=
  fun p l e s m args below meth c D ρ ca A C H locs la hP hS hl => lv_if_gt C.1 C.2.1 hd ht (fun hc => kt hc p l e s m args below meth c D ρ ca A C H locs la hP hS hl) (fun hc => kf hc p l e s m args below meth c D ρ ca A C H locs la hP hS hl)
theorem MW.icmp_gt {x y : Int32} {off : Int} {tgt : Nat} (hd : decode M.2.1 pc = .ok (.if_icmp .gt off, 3)) (ht : (pc : Int) + off = (tgt : Int)) (kt : y < x → MW d M tgt ls st h Q) (kf : ¬ y < x → MW d M (pc + 3) ls st h Q) : MW d M pc ls (.inl y :: .inl x :: st) h Q :=
  fun p l e s m args below meth c D ρ ca A C H locs la hP hS hl => lv_icmp_gt C.1 C.2.1 hd ht (fun hc => kt hc p l e s m args below meth c D ρ ca A C H locs la hP hS hl) (fun hc => kf hc p l e s m args below meth c D ρ ca A C H locs la hP hS hl)
theorem MW.if_le {x : Int32} {off : Int} {tgt : Nat} (hd : decode M.2.1 pc = .ok (.ifCond .le off, 3)) (ht : (pc : Int) + off = (tgt : Int)) (kt : x ≤ 0 → MW d M tgt ls st h Q) (kf : ¬ x ≤ 0 → MW d M (pc + 3) ls st h Q) : MW d M pc ls (.inl x :: st) h Q :=
  fun p l e s m args below meth c D ρ ca A C H locs la hP hS hl => lv_if_le C.1 C.2.1 hd ht (fun hc => kt hc p l e s m args below meth c D ρ ca A C H locs la hP hS hl) (fun hc => kf hc p l e s m args below meth c D ρ ca A C H locs la hP hS hl)
theorem MW.icmp_le {x y : Int32} {off : Int} {tgt : Nat} (hd : decode M.2.1 pc = .ok (.if_icmp .le off, 3)) (ht : (pc : Int) + off = (tgt : Int)) (kt : x ≤ y → MW d M tgt ls st h Q) (kf : ¬ x ≤ y → MW d M (pc + 3) ls st h Q) : MW d M pc ls (.inl y :: .inl x :: st) h Q :=
  fun p l e s m args below meth c D ρ ca A C H locs la hP hS hl => lv_icmp_le C.1 C.2.1 hd ht (fun hc => kt hc p l e s m args below meth c D ρ ca A C H locs la hP hS hl) (fun hc => kf hc p l e s m args below meth c D ρ ca A C H locs la hP hS hl)
end MMB
end
section
-- rows that read and write cells
/-- the pool's entry ix of the class own names the field f of the class number ci -/
def mmFL (own : String) (ix ci f : Nat) : Prop := ∃ (C : String) (T : u_T) (N : Nat), vwCl[ci]? = some (C, T, N) ∧ f < N ∧ (∀ w ∈ u_ws C T N, w ∈ mmWall) ∧ Cond.fieldLink own ix (T f).1 (T f).2.1 (T f).2.2.1 ∈ mmWall
/-- the same of a field that is no final one and holds whole numbers of the type ty -/
def mmFP (own : String) (ix ci f : Nat) (ty : FieldType) : Prop := ∃ (C : String) (T : u_T) (N : Nat), vwCl[ci]? = some (C, T, N) ∧ f < N ∧ (∀ w ∈ u_ws C T N, w ∈ mmWall) ∧ Cond.fieldLink own ix (T f).1 (T f).2.1 (T f).2.2.1 ∈ mmWall ∧ (T f).2.2.2 = false ∧ parseFieldDescriptor (T f).2.2.1 = some ty ∧ (∃ ty0 : Nat → FieldType, ∀ k, k < N → parseFieldDescriptor (T k).2.2.1 = some (ty0 k)) ∧ (∀ a, a < N → ∀ b, b < N → a ≠ b → (T a).2.1 ≠ (T b).2.1)
/-- the cell k is an object of the class number ci; its field f holds a whole number (none), or the cell j for ever (some j) -/
def mmFk (k ci f : Nat) (o : Option Nat) : Prop := ∃ fk : List (Option Nat), mmLay[k]? = some (.inl (ci, fk)) ∧ fk[f]? = some o
def mmIsObj (k ci : Nat) : Prop := ∃ fk : List (Option Nat), mmLay[k]? = some (.inl (ci, fk))
def mmAr (k ti n : Nat) : Prop := mmLay[k]? = some (.inr (ti, n, none))
section MMH
variable {d : Nat} {M : MMeth} {pc : Nat} {ls : List (Option MV)} {st : List MV} {h : MH} {Q : Int32 → MH → Prop}
theorem MW.getI {ix k ci f : Nat} {v : Int32} (hd : decode M.2.1 pc = .ok (.getfield ix, 3)) (hf : mmFL M.1.cls ix ci f) (hk : mmFk k ci f none) (hv : h k f = v) (kk : MW d M (pc + 3) ls (.inl v :: st) h Q) : MW d M pc ls (.inr k :: st) h Q := by
  subst hv
  intro p l e s m args below meth c D ρ ca A C H locs la hP hS hl
  obtain ⟨Cn, T, N, h1, h2, h3, h4⟩ := hf
  obtain ⟨fk, h5, h6⟩ := hk
  refine va_get C.1 C.2.1 C.2.2.2.2.1 h3 C.2.2.2.1 C.2.2.2.2.2.2.2.1 hP k (mmWorld_get h5) h1 f h2 (C.2.2.2.2.1 _ h4) (fun _ hx => hx) (v := .int (h k f)) ?_ hd (kk p l e s m args below meth c D ρ ca A C H locs la hP hS hl)
  simp [List.getElem?_mapIdx, h6, mmFv]
theorem MW.getR {ix k ci f j : Nat} (hd : decode M.2.1 pc = .ok (.getfield ix, 3)) (hf : mmFL M.1.cls ix ci f) (hk : mmFk k ci f (some j)) (kk : MW d M (pc + 3) ls (.inr j :: st) h Q) : MW d M pc ls (.inr k :: st) h Q := by
  intro p l e s m args below meth c D ρ ca A C H locs la hP hS hl
  obtain ⟨Cn, T, N, h1, h2, h3, h4⟩ := hf
  obtain ⟨fk, h5, h6⟩ := hk
  refine va_get C.1 C.2.1 C.2.2.2.2.1 h3 C.2.2.2.1 C.2.2.2.2.2.2.2.1 hP k (mmWorld_get h5) h1 f h2 (C.2.2.2.2.1 _ h4) (fun _ hx => hx) (v := .ref (ρ j)) ?_ hd (kk p l e s m args below meth c D ρ ca A C H locs la hP hS hl)
  simp [List.getElem?_mapIdx, h6, mmFv]
theorem mm_mapIdx_set {ρ : Nat → Nat} {g : Nat → Int32} {fk : List (Option Nat)} {f : Nat} {v : Int32} (hf : fk[f]? = some none) : (fk.mapIdx (fun i o => mmFv ρ (g i) o)).set f (.int v) = fk.mapIdx (fun i o => mmFv ρ (upd g f v i) o) := by
  apply List.ext_getElem?
  intro j
  rw [List.getElem?_set]
  have hlt : f < fk.length := (List.getElem?_eq_some_iff.mp hf).1
  by_cases hj : f = j
  · subst hj
    rw [if_pos rfl, if_pos (by simpa using hlt)]
    simp [List.getElem?_mapIdx, hf, mmFv, upd]
  · rw [if_neg hj]
    simp only [List.getElem?_mapIdx]
    cases fk[j]? with
    | none => rfl
    | some o => simp [upd, if_neg (fun q => hj (Eq.symm q) : ¬ j = f)]
theorem MW.put {ix k ci f : Nat} {ty : FieldType} {v : Int32} (hd : decode M.2.1 pc = .ok (.putfield ix, 3)) (hf : mmFP M.1.cls ix ci f ty) (hk : mmFk k ci f none) (hn : narrow ty (.int v) = .int v) (hfit : fits ty (.int v) = true) (kk : MW d M (pc + 3) ls st (mmSet h k f v) Q) : MW d M pc ls (.inl v :: .inr k :: st) h Q := by
  intro p l e s m args below meth c D ρ ca A C H locs la hP hS hl
  obtain ⟨Cn, T, N, h1, h2, h3, h4, h7, h8, ⟨ty0, h9⟩, h10⟩ := hf
  obtain ⟨fk, h5, h6⟩ := hk
  have hlt : f < fk.length := (List.getElem?_eq_some_iff.mp h6).1
  refine va_put C.1 C.2.1 C.2.2.2.2.1 h3 ty0 h9 h10 C.2.2.2.1 C.2.2.2.2.2.2.2.1 hP (C.2.2.2.2.2.2.2.2.1 h) hS k (mmWorld_get h5) h1 f h2 (C.2.2.2.2.1 _ h4) (fun _ hx => hx) h7 h8 hn hfit (by simpa using hlt) hd (fun H1 locs1 hP1 _ hS1 => ?_)
  have e1 : (mmWorld ρ ca h).set k (ρ k, .inr (ci, (fk.mapIdx (fun f o => mmFv ρ (h k f) o)).set f (.int v))) = mmWorld ρ ca (mmSet h k f v) := mmWorld_set h5 (by show Sum.inr (ci, fk.mapIdx _) = Sum.inr (ci, _); rw [← mm_mapIdx_set h6])
  have hP1 : va_P D vwCl ((mmWorld ρ ca h).set k (ρ k, .inr (ci, (fk.mapIdx (fun f o => mmFv ρ (h k f) o)).set f (.int v)))) H1 := hP1
  rw [e1] at hP1
  exact kk p l e s m args below meth c D ρ ca A C H1 locs1 la hP1 hS1 hl
theorem MW.iald {k n : Nat} {i v : Int32} (hd : decode M.2.1 pc = .ok (.iaload, 1)) (hk : mmAr k 0 n) (hi : vp_in i n) (hv : h k i.toNatClampNeg = v) (kk : MW d M (pc + 1) ls (.inl v :: st) h Q) : MW d M pc ls (.inl i :: .inr k :: st) h Q := by
  subst hv
  exact fun p l e s m args below meth c D ρ ca A C H locs la hP hS hl => va_iald C.1 C.2.1 C.2.2.2.2.2.2.2.1 hP k 0 (mmWorld_get hk) rfl hi hd (kk p l e s m args below meth c D ρ ca A C H locs la hP hS hl)
theorem MW.cald {k n : Nat} {i v : Int32} (hd : decode M.2.1 pc = .ok (.caload, 1)) (hk : mmAr k 1 n) (hi : vp_in i n) (hv : h k i.toNatClampNeg = v) (kk : MW d M (pc + 1) ls (.inl v :: st) h Q) : MW d M pc ls (.inl i :: .inr k :: st) h Q := by
  subst hv
  exact fun p l e s m args below meth c D ρ ca A C H locs la hP hS hl => va_cald C.1 C.2.1 C.2.2.2.2.2.2.2.1 hP k 1 (mmWorld_get hk) rfl hi hd (kk p l e s m args below meth c D ρ ca A C H locs la hP hS hl)
theorem MW.zald {k n : Nat} {i v : Int32} (hd : decode M.2.1 pc = .ok (.baload, 1)) (hk : mmAr k 2 n) (hi : vp_in i n) (hv : h k i.toNatClampNeg = v) (kk : MW d M (pc + 1) ls (.inl v :: st) h Q) : MW d M pc ls (.inl i :: .inr k :: st) h Q := by
  subst hv
  exact fun p l e s m args below meth c D ρ ca A C H locs la hP hS hl => va_zald C.1 C.2.1 C.2.2.2.2.2.2.2.1 hP k 2 (mmWorld_get hk) rfl hi hd (kk p l e s m args below meth c D ρ ca A C H locs la hP hS hl)
theorem MW.aald {k n j : Nat} {rs : List Nat} {i : Int32} (hd : decode M.2.1 pc = .ok (.aaload, 1)) (hk : mmLay[k]? = some (.inr (3, n, some rs))) (hi : vp_in i n) (hj : rs[i.toNatClampNeg]? = some j) (kk : MW d M (pc + 1) ls (.inr j :: st) h Q) : MW d M pc ls (.inl i :: .inr k :: st) h Q := by
  intro p l e s m args below meth c D ρ ca A C H locs la hP hS hl
  refine va_aldq C.1 C.2.1 C.2.2.2.2.2.2.2.1 hP k 3 (mmWorld_get hk) rfl hi hd ?_
  simp only [hj, Option.map_some]
  exact kk p l e s m args below meth c D ρ ca A C H locs la hP hS hl
theorem MW.alen {k ti n : Nat} {v : Int32} {ty : FieldType} (hd : decode M.2.1 pc = .ok (.arraylength, 1)) (hk : mmAr k ti n) (ht : ti = 0) (hv : Int32.ofNat n = v) (kk : MW d M (pc + 1) ls (.inl v :: st) h Q) : MW d M pc ls (.inr k :: st) h Q := by
  subst ht
  exact fun p l e s m args below meth c D ρ ca A C H locs la hP hS hl => va_alen C.1 C.2.1 C.2.2.2.2.2.2.2.1 hP k 0 (mmWorld_get hk) (ty := .int) rfl hv hd (kk p l e s m args below meth c D ρ ca A C H locs la hP hS hl)
theorem MW.iast {k n : Nat} {i v : Int32} (hd : decode M.2.1 pc = .ok (.iastore, 1)) (hk : mmAr k 0 n) (hi : vp_in i n) (kk : MW d M (pc + 1) ls st (mmSet h k i.toNatClampNeg v) Q) : MW d M pc ls (.inl v :: .inl i :: .inr k :: st) h Q := by
  intro p l e s m args below meth c D ρ ca A C H locs la hP hS hl
  refine va_iast C.1 C.2.1 C.2.2.2.2.2.2.2.1 hP (C.2.2.2.2.2.2.2.2.1 h) hS k 0 (mmWorld_get hk) rfl hi hd (fun H1 locs1 hP1 _ hS1 => ?_)
  have e1 : (mmWorld ρ ca h).set k (ρ k, .inl (ca 0, n, .inl (upd (h k) i.toNatClampNeg v))) = mmWorld ρ ca (mmSet h k i.toNatClampNeg v) := mmWorld_set hk rfl
  rw [e1] at hP1
  exact kk p l e s m args below meth c D ρ ca A C H1 locs1 la hP1 hS1 hl
theorem MW.cast {k n : Nat} {i v w : Int32} (hd : decode M.2.1 pc = .ok (.castore, 1)) (hk : mmAr k 1 n) (hi : vp_in i n) (hw : vp_nar .char v = w) (kk : MW d M (pc + 1) ls st (mmSet h k i.toNatClampNeg w) Q) : MW d M pc ls (.inl v :: .inl i :: .inr k :: st) h Q := by
  subst hw
  intro p l e s m args below meth c D ρ ca A C H locs la hP hS hl
  refine va_cast C.1 C.2.1 C.2.2.2.2.2.2.2.1 hP (C.2.2.2.2.2.2.2.2.1 h) hS k 1 (mmWorld_get hk) rfl hi hd (fun H1 locs1 hP1 _ hS1 => ?_)
  have e1 : (mmWorld ρ ca h).set k (ρ k, .inl (ca 1, n, .inl (upd (h k) i.toNatClampNeg (vp_nar .char v)))) = mmWorld ρ ca (mmSet h k i.toNatClampNeg (vp_nar .char v)) := mmWorld_set hk rfl
  rw [e1] at hP1
  exact kk p l e s m args below meth c D ρ ca A C H1 locs1 la hP1 hS1 hl
theorem MW.zast {k n : Nat} {i v w : Int32} (hd : decode M.2.1 pc = .ok (.bastore, 1)) (hk : mmAr k 2 n) (hi : vp_in i n) (hw : vp_nar .boolean v = w) (kk : MW d M (pc + 1) ls st (mmSet h k i.toNatClampNeg w) Q) : MW d M pc ls (.inl v :: .inl i :: .inr k :: st) h Q := by
  subst hw
  intro p l e s m args below meth c D ρ ca A C H locs la hP hS hl
  refine va_zast C.1 C.2.1 C.2.2.2.2.2.2.2.1 hP (C.2.2.2.2.2.2.2.2.1 h) hS k 2 (mmWorld_get hk) rfl hi hd (fun H1 locs1 hP1 _ hS1 => ?_)
  have e1 : (mmWorld ρ ca h).set k (ρ k, .inl (ca 2, n, .inl (upd (h k) i.toNatClampNeg (vp_nar .boolean v)))) = mmWorld ρ ca (mmSet h k i.toNatClampNeg (vp_nar .boolean v)) := mmWorld_set hk rfl
  rw [e1] at hP1
  exact kk p l e s m args below meth c D ρ ca A C H1 locs1 la hP1 hS1 hl
theorem MW.iret {v : Int32} {ty : FieldType} (hd : decode M.2.1 pc = .ok (.ireturn, 1)) (hr : M.2.2.2 = some ty) (hn : narrow ty (.int v) = .int v) (hq : Q v h) : MW d M pc ls (.inl v :: []) h Q := by
  intro p l e s m args below meth c D ρ ca A C H locs la hP hS hl
  have hlocks : meth.locks = false := C.2.2.2.2.2.2.1
  have hK : va_K D vwCl (mmTys ca) s := C.2.2.2.2.2.2.2.1
  refine W.zret C.1 C.2.1 (C.2.2.2.2.2.1.trans hr) hn (fun t ht hW => ?_) hS.2.2 hd
  unfold mmQc
  rw [hr]
  exact ⟨⟨v, h, rfl, hq, by unfold mmB; rw [ht]; exact ⟨hP, va_K.moved hW.alike hK⟩⟩, hS.F ht⟩
theorem MW.vret (hd : decode M.2.1 pc = .ok (.return_, 1)) (hr : M.2.2.2 = none) (hq : Q 0 h) : MW d M pc ls [] h Q := by
  intro p l e s m args below meth c D ρ ca A C H locs la hP hS hl
  have hlocks : meth.locks = false := C.2.2.2.2.2.2.1
  have hK : va_K D vwCl (mmTys ca) s := C.2.2.2.2.2.2.2.1
  refine W.vret C.1 C.2.1 (C.2.2.2.2.2.1.trans hr) (fun t ht hW => ?_) hS.2.2 hd
  unfold mmQc
  rw [hr]
  exact ⟨⟨h, rfl, hq, by unfold mmB; rw [ht]; exact ⟨hP, va_K.moved hW.alike hK⟩⟩, hS.F ht⟩
theorem MW.tableOut {dflt lo hi : Int} {offs : Array Int} {len tgt : Nat} {x : Int32} (hd : decode M.2.1 pc = .ok (.tableswitch dflt lo hi offs, len)) (hx : x.toInt < lo ∨ hi < x.toInt) (ht : (pc : Int) + dflt = (tgt : Int)) (k : MW d M tgt ls st h Q) : MW d M pc ls (.inl x :: st) h Q :=
  fun p l e s m args below meth c D ρ ca A C H locs la hP hS hl => lv_tableOut C.1 C.2.1 hd hx ht (k p l e s m args below meth c D ρ ca A C H locs la hP hS hl)
theorem MW.tableIn {dflt lo hi off : Int} {offs : Array Int} {len tgt : Nat} {x : Int32} (hd : decode M.2.1 pc = .ok (.tableswitch dflt lo hi offs, len)) (h1 : ¬ x.toInt < lo) (h2 : ¬ hi < x.toInt) (ho : offs[(x.toInt - lo).toNat]? = some off) (ht : (pc : Int) + off = (tgt : Int)) (k : MW d M tgt ls st h Q) : MW d M pc ls (.inl x :: st) h Q :=
  fun p l e s m args below meth c D ρ ca A C H locs la hP hS hl => lv_tableIn C.1 C.2.1 hd h1 h2 ho ht (k p l e s m args below meth c D ρ ca A C H locs la hP hS hl)
end MMH
end
section
-- calls
/-- the pool's entry ix of the class own calls the method M2 with n arguments: a static one -/
def mmCS (own : String) (ix : Nat) (M2 : MMeth) (n : Nat) : Prop := Cond.methodLink own ix M2.1 ∈ mmWall ∧ Cond.initialized M2.1.cls ∈ mmWall ∧ Cond.code M2.1 M2.2.1 M2.2.2.1 M2.2.2.2 ∈ mmWall ∧ (M2.1.cls ≠ "java/lang/invoke/MethodHandle" ∧ M2.1.cls ≠ "java/lang/invoke/VarHandle") ∧ (parseMethodDescriptor M2.1.desc).map (fun z => z.parameters.length) = some n ∧ M2.2.2.1 ≤ 13 ∧ Cond.static M2.1 ∈ mmWall
/-- one of an object, of the class number ci -/
def mmCV (own : String) (ix : Nat) (M2 : MMeth) (n ci : Nat) : Prop := Cond.methodLink own ix M2.1 ∈ mmWall ∧ Cond.initialized M2.1.cls ∈ mmWall ∧ Cond.code M2.1 M2.2.1 M2.2.2.1 M2.2.2.2 ∈ mmWall ∧ (M2.1.cls ≠ "java/lang/invoke/MethodHandle" ∧ M2.1.cls ≠ "java/lang/invoke/VarHandle") ∧ (parseMethodDescriptor M2.1.desc).map (fun z => z.parameters.length) = some n ∧ M2.2.2.1 ≤ 13 ∧ Cond.instanceMethod M2.1 ∈ mmWall ∧ Cond.selects M2.1.cls M2.1 M2.1 ∈ mmWall ∧ ∃ (T : u_T) (N : Nat), vwCl[ci]? = some (M2.1.cls, T, N)
section MMC
variable {d : Nat} {M : MMeth} {pc : Nat} {ls : List (Option MV)} {st : List MV} {h : MH} {Q : Int32 → MH → Prop}
theorem mm_callB {d2 n : Nat} {own : String} {ix : Nat} {M2 : MMeth} {s : State} {args : Array Value} (hts : ∀ w ∈ mmWall, w.before args s = true) (h1 : Cond.methodLink own ix M2.1 ∈ mmWall) (h2 : Cond.initialized M2.1.cls ∈ mmWall) (h3 : Cond.code M2.1 M2.2.1 M2.2.2.1 M2.2.2.2 ∈ mmWall) (h4 : M2.1.cls ≠ "java/lang/invoke/MethodHandle" ∧ M2.1.cls ≠ "java/lang/invoke/VarHandle") (h5 : (parseMethodDescriptor M2.1.desc).map (fun z => z.parameters.length) = some n) (h6 : M2.2.2.1 ≤ 13) (hdd : d2 + 1 ≤ d) :
    CallB (mmRoom d) s args own ix M2.1 M2.2.1 M2.2.2.1 M2.2.2.2 (mmWs M2) (mmRoom d2) 0 0 n := by
  refine ⟨rfl, rfl, hdd, ?_, ?_, List.mem_cons_self, hts _ h3, hts _ h2, h4, fun sig h => ?_, hts _ h1⟩
  · show 8 + (M2.2.2.1 + 11) + 32 * d2 ≤ 32 * d
    omega
  · intro w hw a' U hW
    have hwm : w ∈ mmWall := by
      rcases List.mem_cons.mp hw with rfl | hw
      · exact h3
      · exact hw
    exact word_at hW (mmW_good hwm) (hts w hwm)
  · rw [h] at h5
    exact (Option.some.inj h5).symm
theorem mm_pc {vs : List MV} {ρ : Nat → Nat} {D : va_G} {ca : Nat → ClassId} {sz : Nat} : FrameBlind (va_Pc (vs.map (mmV ρ)) (fun U => U.heap.size = sz ∧ mmB D ρ ca h U)) := by
  intro a U g mk q
  obtain ⟨q1, q2, q3, q4⟩ := q
  exact ⟨q1, q2, q3, va_K.moved (u := U) (U := U.calling g mk a) (Vm.Alike.refl U.vm) q4⟩
theorem mm_pre {vs : List MV} {ρ : Nat → Nat} {D : va_G} {ca : Nat → ClassId} {s : State} {H : Heap} (hP : va_P D vwCl (mmWorld ρ ca h) H) (hK : va_K D vwCl (mmTys ca) s) : PreS s H (va_Pc (vs.map (mmV ρ)) (fun U => U.heap.size = H.size ∧ mmB D ρ ca h U)) (vs.map (mmV ρ)) :=
  ⟨mm_pc, fun U hU hW => ⟨rfl, by rw [hU], by unfold mmB; rw [hU]; exact ⟨hP, va_K.moved hW.alike hK⟩⟩⟩
theorem mm_free {ρ : Nat → Nat} {ca : Nat → ClassId} {A : Nat → Prop} {H0 H : Heap} {locs : List Loc} (hD : va_D A (mmWorld ρ ca h)) (hS : va_S A H0 H locs) (hA : ∀ q, H0.size ≤ q → A q) : ∀ q, va_A (mmWorld ρ ca h) H.size q → A q := by
  intro q hq
  rcases hq with ⟨k, e, hk⟩ | hq
  · exact hD.2 k (q, e) hk
  · exact hA q (Nat.le_trans hS.1 hq)
theorem mm_sum (ρ : Nat → Nat) (st : List MV) : ((st.map (mmV ρ)).map fun v => v.category).sum = st.length := by
  induction st with
  | nil => rfl
  | cons a t ih =>
    simp only [List.map_cons, List.sum_cons, List.length_cons, mmV_cat, ih]
    omega
theorem mm_room {m : MethodId} {pc : Nat} {la : Array Slot} {stk : List Value} (ρ : Nat → Nat) (st : List MV) (hs : st.length ≤ 8) : 2 * (F0 m pc la stk).monitorRoom + ((st.map (mmV ρ)).map fun v => v.category).sum ≤ 8 :=
  lv_room (by rw [mm_sum]; exact hs)
theorem MW.callS {d2 ix : Nat} {M2 : MMeth} {as : List MV} {st0 : List MV} {Q2 : Int32 → MH → Prop} {ty : FieldType} (hd : decode M.2.1 pc = .ok (.invokestatic ix, 3)) (hl2 : mmCS M.1.cls ix M2 as.length) (hr2 : M2.2.2.2 = some ty) (hdd : d2 + 1 ≤ d) (hst : st.length ≤ 8) (hs : st0 = as.reverse ++ st) (hc : MC d2 M2 as h Q2) (kk : ∀ r h', Q2 r h' → MW d M (pc + 3) ls (.inl r :: st) h' Q) : MW d M pc ls st0 h Q := by
  subst hs
  intro p l e s m args below meth c D ρ ca A C H locs la hP hS hl
  obtain ⟨c1, c2, c3, c4, c5, c6, c7⟩ := hl2
  have hM := hc l D ρ ca H.size ((C.2.2.2.2.2.2.2.2.1 h).weaken (fun _ _ _ _ => trivial))
  have hF := mm_free (C.2.2.2.2.2.2.2.2.1 h) hS C.2.2.2.2.2.2.2.2.2
  have hrun := va_runS (H := H) (locs := locs) (cells := 0) (slots := 0) (e := e) (below := below) (meth := meth) (rest := st.map (mmV ρ)) (g := F0 m pc la ((as.reverse ++ st).map (mmV ρ))) ⟨C.1, C.2.1, C.2.2.1, C.2.2.2.1, C.2.2.2.2.1⟩ hM ⟨mm_callB C.2.2.2.2.1 c1 c2 c3 c4 c5 c6 hdd, C.2.2.2.2.1 _ c7⟩ (mm_pre hP C.2.2.2.2.2.2.2.1) rfl (by simp) hl.1 (by simp) (mm_room ρ st hst) hd ⟨Nat.zero_le _, Nat.zero_le _⟩
  unfold mmQc at hrun
  rw [hr2] at hrun
  exact va_calli hrun hS (fun q _ hq => hF q hq) hF (fun r u t H1 locs1 ht hvm hw hB hz1 hk1 hS1 => kk r u hw p l e s m args below meth c D ρ ca A C H1 locs1 la (ht ▸ hB.1) hS1 hl)
theorem MW.callSv {d2 ix : Nat} {M2 : MMeth} {as : List MV} {st0 : List MV} {Q2 : Int32 → MH → Prop} (hd : decode M.2.1 pc = .ok (.invokestatic ix, 3)) (hl2 : mmCS M.1.cls ix M2 as.length) (hr2 : M2.2.2.2 = none) (hdd : d2 + 1 ≤ d) (hst : st.length ≤ 8) (hs : st0 = as.reverse ++ st) (hc : MC d2 M2 as h Q2) (kk : ∀ h', Q2 0 h' → MW d M (pc + 3) ls st h' Q) : MW d M pc ls st0 h Q := by
  subst hs
  intro p l e s m args below meth c D ρ ca A C H locs la hP hS hl
  obtain ⟨c1, c2, c3, c4, c5, c6, c7⟩ := hl2
  have hM := hc l D ρ ca H.size ((C.2.2.2.2.2.2.2.2.1 h).weaken (fun _ _ _ _ => trivial))
  have hF := mm_free (C.2.2.2.2.2.2.2.2.1 h) hS C.2.2.2.2.2.2.2.2.2
  have hrun := va_runS (H := H) (locs := locs) (cells := 0) (slots := 0) (e := e) (below := below) (meth := meth) (rest := st.map (mmV ρ)) (g := F0 m pc la ((as.reverse ++ st).map (mmV ρ))) ⟨C.1, C.2.1, C.2.2.1, C.2.2.2.1, C.2.2.2.2.1⟩ hM ⟨mm_callB C.2.2.2.2.1 c1 c2 c3 c4 c5 c6 hdd, C.2.2.2.2.1 _ c7⟩ (mm_pre hP C.2.2.2.2.2.2.2.1) rfl (by simp) hl.1 (by simp) (mm_room ρ st hst) hd ⟨Nat.zero_le _, Nat.zero_le _⟩
  unfold mmQc at hrun
  rw [hr2] at hrun
  exact va_callv hrun hS (fun q _ hq => hF q hq) hF (fun u t H1 locs1 ht hvm hw hB hz1 hk1 hS1 => kk u hw p l e s m args below meth c D ρ ca A C H1 locs1 la (ht ▸ hB.1) hS1 hl)
theorem MW.callV {d2 ix k ci : Nat} {M2 : MMeth} {as : List MV} {st0 : List MV} {Q2 : Int32 → MH → Prop} {ty : FieldType} (hd : decode M.2.1 pc = .ok (.invokevirtual ix, 3)) (hl2 : mmCV M.1.cls ix M2 as.length ci) (hk : mmIsObj k ci) (hr2 : M2.2.2.2 = some ty) (hdd : d2 + 1 ≤ d) (hst : st.length ≤ 8) (hs : st0 = as.reverse ++ .inr k :: st) (hc : MC d2 M2 (.inr k :: as) h Q2) (kk : ∀ r h', Q2 r h' → MW d M (pc + 3) ls (.inl r :: st) h' Q) : MW d M pc ls st0 h Q := by
  subst hs
  intro p l e s m args below meth c D ρ ca A C H locs la hP hS hl
  obtain ⟨c1, c2, c3, c4, c5, c6, c7, c8, T, N, c9⟩ := hl2
  obtain ⟨fk, hk⟩ := hk
  have hM := hc l D ρ ca H.size ((C.2.2.2.2.2.2.2.2.1 h).weaken (fun _ _ _ _ => trivial))
  have hF := mm_free (C.2.2.2.2.2.2.2.2.1 h) hS C.2.2.2.2.2.2.2.2.2
  have hpre := mm_pre (vs := .inr k :: as) hP C.2.2.2.2.2.2.2.1
  have hrun := va_runV (H := H) (locs := locs) (cells := 0) (slots := 0) (e := e) (below := below) (meth := meth) (As := as.map (mmV ρ)) (b := ρ k) (C := M2.1.cls) (rest := st.map (mmV ρ)) (g := F0 m pc la ((as.reverse ++ .inr k :: st).map (mmV ρ))) ⟨C.1, C.2.1, C.2.2.1, C.2.2.2.1, C.2.2.2.2.1⟩ hM ⟨mm_callB C.2.2.2.2.1 c1 c2 c3 c4 c5 c6 hdd, C.2.2.2.2.1 _ c7, C.2.2.2.2.1 _ c8⟩ ⟨hpre.1, va_recv C.2.2.2.2.2.2.2.1 hP c9 (mmWorld_get hk), hpre.2⟩ rfl (by simp) hl.1 (by simp [mmV]) (mm_room ρ st hst) hd ⟨Nat.zero_le _, Nat.zero_le _⟩
  unfold mmQc at hrun
  rw [hr2] at hrun
  exact va_calli hrun hS (fun q _ hq => hF q hq) hF (fun r u t H1 locs1 ht hvm hw hB hz1 hk1 hS1 => kk r u hw p l e s m args below meth c D ρ ca A C H1 locs1 la (ht ▸ hB.1) hS1 hl)
theorem MW.callVv {d2 ix k ci : Nat} {M2 : MMeth} {as : List MV} {st0 : List MV} {Q2 : Int32 → MH → Prop} (hd : decode M.2.1 pc = .ok (.invokevirtual ix, 3)) (hl2 : mmCV M.1.cls ix M2 as.length ci) (hk : mmIsObj k ci) (hr2 : M2.2.2.2 = none) (hdd : d2 + 1 ≤ d) (hst : st.length ≤ 8) (hs : st0 = as.reverse ++ .inr k :: st) (hc : MC d2 M2 (.inr k :: as) h Q2) (kk : ∀ h', Q2 0 h' → MW d M (pc + 3) ls st h' Q) : MW d M pc ls st0 h Q := by
  subst hs
  intro p l e s m args below meth c D ρ ca A C H locs la hP hS hl
  obtain ⟨c1, c2, c3, c4, c5, c6, c7, c8, T, N, c9⟩ := hl2
  obtain ⟨fk, hk⟩ := hk
  have hM := hc l D ρ ca H.size ((C.2.2.2.2.2.2.2.2.1 h).weaken (fun _ _ _ _ => trivial))
  have hF := mm_free (C.2.2.2.2.2.2.2.2.1 h) hS C.2.2.2.2.2.2.2.2.2
  have hpre := mm_pre (vs := .inr k :: as) hP C.2.2.2.2.2.2.2.1
  have hrun := va_runV (H := H) (locs := locs) (cells := 0) (slots := 0) (e := e) (below := below) (meth := meth) (As := as.map (mmV ρ)) (b := ρ k) (C := M2.1.cls) (rest := st.map (mmV ρ)) (g := F0 m pc la ((as.reverse ++ .inr k :: st).map (mmV ρ))) ⟨C.1, C.2.1, C.2.2.1, C.2.2.2.1, C.2.2.2.2.1⟩ hM ⟨mm_callB C.2.2.2.2.1 c1 c2 c3 c4 c5 c6 hdd, C.2.2.2.2.1 _ c7, C.2.2.2.2.1 _ c8⟩ ⟨hpre.1, va_recv C.2.2.2.2.2.2.2.1 hP c9 (mmWorld_get hk), hpre.2⟩ rfl (by simp) hl.1 (by simp [mmV]) (mm_room ρ st hst) hd ⟨Nat.zero_le _, Nat.zero_le _⟩
  unfold mmQc at hrun
  rw [hr2] at hrun
  exact va_callv hrun hS (fun q _ hq => hF q hq) hF (fun u t H1 locs1 ht hvm hw hB hz1 hk1 hS1 => kk u hw p l e s m args below meth c D ρ ca A C H1 locs1 la (ht ▸ hB.1) hS1 hl)
/-- System.arraycopy over rows of ints -/
theorem MW.copy {ix k0 k1 n0 n1 : Nat} {sp dp n : Int32} (hd : decode M.2.1 pc = .ok (.invokestatic ix, 3)) (h1 : Cond.methodLink M.1.cls ix arraycopyName ∈ mmWall) (h2 : Cond.native arraycopyName ∈ mmWall) (h3 : Cond.static arraycopyName ∈ mmWall) (h4 : Cond.initialized "java/lang/System" ∈ mmWall) (hk0 : mmAr k0 0 n0) (hk1 : mmAr k1 0 n1) (g1 : ¬ sp < 0) (g2 : ¬ dp < 0) (g3 : ¬ n < 0) (g4 : sp.toNatClampNeg + n.toNatClampNeg ≤ n0) (g5 : dp.toNatClampNeg + n.toNatClampNeg ≤ n1) (hdd : 2 ≤ d) (hst : st.length ≤ 8) (kk : MW d M (pc + 3) ls st (mmUp h k1 (va_cpy (h k0) (h k1) sp.toNatClampNeg dp.toNatClampNeg n.toNatClampNeg)) Q) : MW d M pc ls (.inl n :: .inl dp :: .inr k1 :: .inl sp :: .inr k0 :: st) h Q := by
  intro p l e s m args below meth c D ρ ca A C H locs la hP hS hl
  refine va_copyi C.1 C.2.1 (C.2.2.1.trans hl.1.symm) C.2.2.2.1 (C.2.2.2.2.1 _ h1) (C.2.2.2.2.1 _ h2) (C.2.2.2.2.1 _ h3) (C.2.2.2.2.1 _ h4) C.2.2.2.2.2.2.2.1 hP (C.2.2.2.2.2.2.2.2.1 h) hS k0 k1 0 0 (mmWorld_get hk0) (mmWorld_get hk1) rfl rfl rfl g1 g2 g3 g4 g5 (fun _ _ => rfl) (by show 1 ≤ d; omega) ?_ hd (fun H1 locs1 hP1 _ hS1 => ?_)
  · rw [mm_sum]
    have e1 : nativeFrameWords "java/lang/System" "arraycopy" 5 ≤ 40 := by decide
    show st.length + (nativeFrameWords "java/lang/System" "arraycopy" 5 + 11) ≤ 32 * d
    omega
  · have e1 : (mmWorld ρ ca h).set k1 (ρ k1, .inl (ca 0, n1, .inl (va_cpy (h k0) (h k1) sp.toNatClampNeg dp.toNatClampNeg n.toNatClampNeg))) = mmWorld ρ ca (mmUp h k1 (va_cpy (h k0) (h k1) sp.toNatClampNeg dp.toNatClampNeg n.toNatClampNeg)) := mmWorld_set hk1 rfl
    rw [e1] at hP1
    exact kk p l e s m args below meth c D ρ ca A C H1 locs1 la hP1 hS1 hl
theorem MW.mmax {ix : Nat} {x y v : Int32} (hd : decode M.2.1 pc = .ok (.invokestatic ix, 3)) (h1 : Cond.methodLink M.1.cls ix Lib.Math.max.name ∈ mmWall) (h2 : Cond.static Lib.Math.max.name ∈ mmWall) (h3 : Cond.initialized "java/lang/Math" ∈ mmWall) (h4 : Cond.code Lib.Math.max.name Lib.Math.max.code 2 (some .int) ∈ mmWall) (hdd : 1 ≤ d) (hst : st.length ≤ 8) (hv : (if x < y then y else x) = v) (kk : MW d M (pc + 3) ls (.inl v :: st) h Q) : MW d M pc ls (.inl y :: .inl x :: st) h Q := by
  subst hv
  intro p l e s m args below meth c D ρ ca A C H locs la hP hS hl
  exact va_mmax C.1 C.2.1 (C.2.2.1.trans hl.1.symm) C.2.2.2.1 (C.2.2.2.2.1 _ h1) (C.2.2.2.2.1 _ h2) (C.2.2.2.2.1 _ h3) (C.2.2.2.2.1 _ h4) (by show 1 ≤ d; omega) (by rw [mm_sum]; show st.length + 13 ≤ 32 * d; omega) (Nat.zero_le _) (Nat.zero_le _) hd (kk p l e s m args below meth c D ρ ca A C H locs la hP hS hl)
theorem MW.mmin {ix : Nat} {x y v : Int32} (hd : decode M.2.1 pc = .ok (.invokestatic ix, 3)) (h1 : Cond.methodLink M.1.cls ix Lib.Math.min.name ∈ mmWall) (h2 : Cond.static Lib.Math.min.name ∈ mmWall) (h3 : Cond.initialized "java/lang/Math" ∈ mmWall) (h4 : Cond.code Lib.Math.min.name Lib.Math.min.code 2 (some .int) ∈ mmWall) (hdd : 1 ≤ d) (hst : st.length ≤ 8) (hv : (if y < x then y else x) = v) (kk : MW d M (pc + 3) ls (.inl v :: st) h Q) : MW d M pc ls (.inl y :: .inl x :: st) h Q := by
  subst hv
  intro p l e s m args below meth c D ρ ca A C H locs la hP hS hl
  exact va_mmin C.1 C.2.1 (C.2.2.1.trans hl.1.symm) C.2.2.2.1 (C.2.2.2.2.1 _ h1) (C.2.2.2.2.1 _ h2) (C.2.2.2.2.1 _ h3) (C.2.2.2.2.1 _ h4) (by show 1 ≤ d; omega) (by rw [mm_sum]; show st.length + 13 ≤ 32 * d; omega) (Nat.zero_le _) (Nat.zero_le _) hd (kk p l e s m args below meth c D ρ ca A C H locs la hP hS hl)
theorem MW.mabs {ix : Nat} {x v : Int32} (hd : decode M.2.1 pc = .ok (.invokestatic ix, 3)) (h1 : Cond.methodLink M.1.cls ix Lib.Math.abs.name ∈ mmWall) (h2 : Cond.static Lib.Math.abs.name ∈ mmWall) (h3 : Cond.initialized "java/lang/Math" ∈ mmWall) (h4 : Cond.code Lib.Math.abs.name Lib.Math.abs.code 1 (some .int) ∈ mmWall) (hdd : 1 ≤ d) (hst : st.length ≤ 8) (hv : (if 0 ≤ x then x else 0 - x) = v) (kk : MW d M (pc + 3) ls (.inl v :: st) h Q) : MW d M pc ls (.inl x :: st) h Q := by
  subst hv
  intro p l e s m args below meth c D ρ ca A C H locs la hP hS hl
  exact va_mabs C.1 C.2.1 (C.2.2.1.trans hl.1.symm) C.2.2.2.1 (C.2.2.2.2.1 _ h1) (C.2.2.2.2.1 _ h2) (C.2.2.2.2.1 _ h3) (C.2.2.2.2.1 _ h4) (by show 1 ≤ d; omega) (by rw [mm_sum]; show st.length + 13 ≤ 32 * d; omega) (Nat.zero_le _) (Nat.zero_le _) hd (kk p l e s m args below meth c D ρ ca A C H locs la hP hS hl)
end MMC
end
section
-- THE SAME OVER Int: a whole number is iI z; a row is a function of Int; ZW, ZC as MW, MC
def iI (z : Int) : Int32 := Int32.ofInt z
abbrev zR (z : Int) : Prop := -2147483648 ≤ z ∧ z < 2147483648
abbrev ZV : Type := Int ⊕ Nat
abbrev ZH : Type := Nat → Int → Int
def zV : ZV → MV
  | .inl z => .inl (iI z)
  | .inr k => .inr k
def zH (g : ZH) : MH := fun k i => iI (g k (i : Int))
def zUp (f : Int → Int) (i v : Int) : Int → Int := fun x => if x = i then v else f x
def zSet (g : ZH) (k : Nat) (i v : Int) : ZH := fun j => if j = k then zUp (g k) i v else g j
def zCpy (f f2 : Int → Int) (sp dp n : Int) : Int → Int := fun x => if dp ≤ x ∧ x < dp + n then f (sp + (x - dp)) else f2 x
def zRow (g : ZH) (k : Nat) (f : Int → Int) : ZH := fun j => if j = k then f else g j
theorem zSet_row (g : ZH) (k : Nat) (i v : Int) : zSet g k i v = zRow g k (zUp (g k) i v) := rfl
theorem zRow_same (g : ZH) (k : Nat) (f : Int → Int) : zRow g k f k = f := if_pos rfl
theorem zRow_ne (g : ZH) {j k : Nat} (f : Int → Int) (hj : j ≠ k) : zRow g k f j = g j := if_neg hj
theorem zUp_same (f : Int → Int) (i v : Int) : zUp f i v i = v := if_pos rfl
theorem zUp_ne (f : Int → Int) {i x : Int} (v : Int) (hx : x ≠ i) : zUp f i v x = f x := if_neg hx
theorem zRow_row (g : ZH) (k : Nat) (f f2 : Int → Int) : zRow (zRow g k f) k f2 = zRow g k f2 := by
  funext j
  unfold zRow
  split <;> rfl
theorem zRow_self (g : ZH) (k : Nat) : zRow g k (g k) = g := by
  funext j
  unfold zRow
  split
  · next hj => rw [hj]
  · rfl
theorem iI_nat (n : Nat) : iI (n : Int) = nI n := rfl
theorem fb_bmod2 {z : Int} (h1 : -2147483648 ≤ z) (h2 : z < 2147483648) : z.bmod (2 ^ 32) = z := by
  rw [Int.bmod_def]
  omega
theorem iI_toInt {z : Int} (h : zR z) : (iI z).toInt = z := by
  unfold iI
  rw [Int32.toInt_ofInt]
  exact fb_bmod2 h.1 h.2
theorem iI_self (x : Int32) : iI x.toInt = x := Int32.ofInt_toInt x
theorem iI_R (x : Int32) : zR x.toInt := ⟨Int32.le_toInt x, Int32.toInt_lt x⟩
theorem iI_inj {a b : Int} (ha : zR a) (hb : zR b) : iI a = iI b ↔ a = b := ⟨fun h => by rw [← iI_toInt ha, ← iI_toInt hb, h], fun h => by rw [h]⟩
theorem iI_lt {a b : Int} (ha : zR a) (hb : zR b) : iI a < iI b ↔ a < b := by rw [Int32.lt_iff_toInt_lt, iI_toInt ha, iI_toInt hb]
theorem iI_le {a b : Int} (ha : zR a) (hb : zR b) : iI a ≤ iI b ↔ a ≤ b := by rw [Int32.le_iff_toInt_le, iI_toInt ha, iI_toInt hb]
theorem zR_0 : zR 0 := ⟨by decide, by decide⟩
theorem iI_0 : iI 0 = 0 := rfl
theorem iI_add (a b : Int) : iI a + iI b = iI (a + b) := (Int32.ofInt_add a b).symm
theorem iI_mul (a b : Int) : iI a * iI b = iI (a * b) := (Int32.ofInt_mul a b).symm
theorem iI_neg (a : Int) : -iI a = iI (-a) := (Int32.ofInt_neg a).symm
theorem iI_sub (a b : Int) : iI a - iI b = iI (a - b) := (Int32.ofInt_sub a b).symm
theorem iI_ix {z : Int} {n : Nat} (h0 : 0 ≤ z) (h : z < n) (hn : n < 2147483648) : vp_in (iI z) n := by
  rw [vp_in_iff, iI_toInt ⟨by omega, by omega⟩]
  exact ⟨h0, h⟩
theorem iI_cl {z : Int} (h0 : 0 ≤ z) (h : z < 2147483648) : (iI z).toNatClampNeg = z.toNat := by
  show (iI z).toInt.toNat = z.toNat
  rw [iI_toInt ⟨by omega, by omega⟩]
theorem iI_div {a b : Int} (h0 : 0 ≤ a) (ha : a < 2147483648) (h1 : 0 < b) (hb : b < 2147483648) : iI a / iI b = iI (a / b) := by
  obtain ⟨m, rfl⟩ := Int.eq_ofNat_of_zero_le h0
  obtain ⟨n, rfl⟩ := Int.eq_ofNat_of_zero_le (Int.le_of_lt h1)
  rw [iI_nat, iI_nat, pk_div (by omega) (by omega) (by omega)]
  rfl
theorem iI_rem {a b : Int} (h0 : 0 ≤ a) (ha : a < 2147483648) (h1 : 0 < b) (hb : b < 2147483648) : iI a - iI a / iI b * iI b = iI (a % b) := by
  obtain ⟨m, rfl⟩ := Int.eq_ofNat_of_zero_le h0
  obtain ⟨n, rfl⟩ := Int.eq_ofNat_of_zero_le (Int.le_of_lt h1)
  rw [iI_nat, iI_nat, pk_rem (by omega) (by omega) (by omega)]
  rfl
theorem zH_up (g : ZH) (k : Nat) (f : Nat → Int32) (f2 : Int → Int) (hf : ∀ n : Nat, f n = iI (f2 n)) : mmUp (zH g) k f = zH (zRow g k f2) := by
  funext j n
  unfold mmUp zH zRow
  by_cases hj : j = k
  · subst hj
    simp [hf]
  · simp [hj]
theorem zH_set (g : ZH) (k : Nat) {i : Int} (v : Int) (hi : 0 ≤ i) : mmSet (zH g) k i.toNat (iI v) = zH (zSet g k i v) := by
  refine zH_up g k _ _ (fun n => ?_)
  unfold upd zUp zH
  by_cases hn : n = i.toNat
  · rw [if_pos hn, if_pos (by omega)]
  · rw [if_neg hn, if_neg (by omega)]
theorem zH_get (g : ZH) (k : Nat) {i : Int} (hi : 0 ≤ i) (h : i < 2147483648) : zH g k (iI i).toNatClampNeg = iI (g k i) := by
  rw [iI_cl hi h]
  unfold zH
  rw [Int.toNat_of_nonneg hi]
def absF (x : Int) : Int := if 0 ≤ x then x else -x
def maxF (x y : Int) : Int := if x < y then y else x
def minF (x y : Int) : Int := if y < x then y else x
theorem zH_out (H : MH) : ∃ g : ZH, zH g = H ∧ ∀ k i, zR (g k i) := ⟨fun k i => (H k i.toNat).toInt, by funext k i; unfold zH; rw [iI_self]; simp, fun k i => iI_R _⟩
def zQ (Q : Int → ZH → Prop) : Int32 → MH → Prop := fun r h' => ∃ r' g', r = iI r' ∧ h' = zH g' ∧ Q r' g'
def zL (ls : List (Option ZV)) : List (Option MV) := ls.map (Option.map zV)
def ZW (d : Nat) (M : MMeth) (pc : Nat) (ls : List (Option ZV)) (st : List ZV) (g : ZH) (Q : Int → ZH → Prop) : Prop := MW d M pc (zL ls) (st.map zV) (zH g) (zQ Q)
def ZC (d : Nat) (M : MMeth) (vs : List ZV) (g : ZH) (Q : Int → ZH → Prop) : Prop := MC d M (vs.map zV) (zH g) (zQ Q)
def zStart (n : Nat) (vs : List ZV) : List (Option ZV) := vs.map some ++ List.replicate (n - vs.length) none
theorem zL_start (n : Nat) (vs : List ZV) : zL (zStart n vs) = mmStart n (vs.map zV) := by
  unfold zL zStart mmStart
  simp [Function.comp_def]
theorem zL_get {ls : List (Option ZV)} {i : Nat} {v : ZV} (h : ls[i]? = some (some v)) : (zL ls)[i]? = some (some (zV v)) := by
  unfold zL
  rw [List.getElem?_map, h]
  rfl
theorem zL_set {ls ls' : List (Option ZV)} {i : Nat} {v : ZV} (h : ls.set i (some v) = ls') : (zL ls).set i (some (zV v)) = zL ls' := by
  subst h
  unfold zL
  rw [List.map_set]
  rfl
theorem ZC.of {d : Nat} {M : MMeth} {vs : List ZV} {g : ZH} {Q : Int → ZH → Prop} (hy : plainName M.1.cls = true) (hn : vs.length ≤ M.2.2.1) (k : ZW d M 0 (zStart M.2.2.1 vs) [] g Q) : ZC d M vs g Q :=
  MC.of hy (by simpa using hn) (by rw [← zL_start]; exact k)
theorem ZC.mono {d : Nat} {M : MMeth} {vs : List ZV} {g : ZH} {Q Q' : Int → ZH → Prop} (hc : ZC d M vs g Q) (hq : ∀ r g', Q r g' → Q' r g') : ZC d M vs g Q' :=
  MC.mono hc (fun r h' ⟨r', g', e1, e2, e3⟩ => ⟨r', g', e1, e2, hq _ _ e3⟩)
section ZZ
variable {d : Nat} {M : MMeth} {pc : Nat} {ls : List (Option ZV)} {st : List ZV} {g : ZH} {Q : Int → ZH → Prop}
theorem ZW.mono {Q' : Int → ZH → Prop} (k : ZW d M pc ls st g Q) (hq : ∀ r g', Q r g' → Q' r g') : ZW d M pc ls st g Q' :=
  MW.mono k (fun r h' ⟨r', g', e1, e2, e3⟩ => ⟨r', g', e1, e2, hq _ _ e3⟩)
/-- fewer locals known: each place holds the same, or none -/
theorem ZW.locals {ls' : List (Option ZV)} (hs : ∀ (i : Nat) (v : ZV), ls'[i]? = some (some v) → ls[i]? = some (some v)) (k : ZW d M pc ls' st g Q) : ZW d M pc ls st g Q :=
  MW.locals (fun i v hv => by
    unfold zL at hv
    rw [List.getElem?_map] at hv
    cases hq : ls'[i]? with
    | none => rw [hq] at hv; cases hv
    | some o =>
      cases o with
      | none => rw [hq] at hv; cases hv
      | some w =>
        rw [hq] at hv
        have h1 := zL_get (hs i w hq)
        rw [h1]
        exact hv) k
/-- the local i is forgotten -/
theorem ZW.drop (i : Nat) {ls' : List (Option ZV)} (hs : ls.set i none = ls') (k : ZW d M pc ls' st g Q) : ZW d M pc ls st g Q :=
  ZW.locals (fun j v hv => by
    subst hs
    rw [List.getElem?_set] at hv
    split at hv
    · split at hv <;> cases hv
    · exact hv) k
theorem ZW.iconst {n : Int} (hd : decode M.2.1 pc = .ok (.iconst n, 1)) (k : ZW d M (pc + 1) ls (.inl n :: st) g Q) : ZW d M pc ls st g Q := MW.iconst hd rfl k
theorem ZW.bipush {n : Int} (hd : decode M.2.1 pc = .ok (.bipush n, 2)) (hv : (Int8.ofInt n).toInt32 = iI n) (k : ZW d M (pc + 2) ls (.inl n :: st) g Q) : ZW d M pc ls st g Q := MW.bipush hd hv k
theorem ZW.sipush {n : Int} (hd : decode M.2.1 pc = .ok (.sipush n, 3)) (hv : (Int16.ofInt n).toInt32 = iI n) (k : ZW d M (pc + 3) ls (.inl n :: st) g Q) : ZW d M pc ls st g Q := MW.sipush hd hv k
theorem ZW.ldcw {ix : Nat} {v : Int32} {n : Int} (hd : decode M.2.1 pc = .ok (.ldc_w ix, 3)) (hw : Cond.constant M.1.cls ix v ∈ mmWall) (hv : v = iI n) (k : ZW d M (pc + 3) ls (.inl n :: st) g Q) : ZW d M pc ls st g Q := MW.ldcw hd (hv ▸ hw) k
theorem ZW.iload_n {i : Fin 4} {v : Int} (hd : decode M.2.1 pc = .ok (.iload_n i, 1)) (hv : ls[(i : Nat)]? = some (some (.inl v))) (k : ZW d M (pc + 1) ls (.inl v :: st) g Q) : ZW d M pc ls st g Q := MW.iload_n hd (zL_get hv) k
theorem ZW.iload {i : Nat} {v : Int} (hd : decode M.2.1 pc = .ok (.iload i, 2)) (hv : ls[i]? = some (some (.inl v))) (k : ZW d M (pc + 2) ls (.inl v :: st) g Q) : ZW d M pc ls st g Q := MW.iload hd (zL_get hv) k
theorem ZW.aload_n {i : Fin 4} {v : Nat} (hd : decode M.2.1 pc = .ok (.aload_n i, 1)) (hv : ls[(i : Nat)]? = some (some (.inr v))) (k : ZW d M (pc + 1) ls (.inr v :: st) g Q) : ZW d M pc ls st g Q := MW.aload_n hd (zL_get hv) k
theorem ZW.istore_n {i : Fin 4} {v : Int} (hd : decode M.2.1 pc = .ok (.istore_n i, 1)) (hn : (i : Nat) < M.2.2.1) {ls' : List (Option ZV)} (hs : ls.set i (some (.inl v)) = ls') (k : ZW d M (pc + 1) ls' st g Q) : ZW d M pc ls (.inl v :: st) g Q := MW.istore_n hd hn (zL_set hs) k
theorem ZW.istore {i : Nat} {v : Int} (hd : decode M.2.1 pc = .ok (.istore i, 2)) (hn : i < M.2.2.1) {ls' : List (Option ZV)} (hs : ls.set i (some (.inl v)) = ls') (k : ZW d M (pc + 2) ls' st g Q) : ZW d M pc ls (.inl v :: st) g Q := MW.istore hd hn (zL_set hs) k
theorem ZW.iinc {i : Nat} {n x : Int} (hd : decode M.2.1 pc = .ok (.iinc i n, 3)) (hv : ls[i]? = some (some (.inl x))) (hn : i < M.2.2.1) {ls' : List (Option ZV)} (hs : ls.set i (some (.inl (x + n))) = ls') (k : ZW d M (pc + 3) ls' st g Q) : ZW d M pc ls st g Q := MW.iinc hd (zL_get hv) (iI_add x n) hn (zL_set hs) k
theorem ZW.iadd {x y : Int} (hd : decode M.2.1 pc = .ok (.iadd, 1)) (k : ZW d M (pc + 1) ls (.inl (x + y) :: st) g Q) : ZW d M pc ls (.inl y :: .inl x :: st) g Q := MW.iadd hd (iI_add x y) k
theorem ZW.isub {x y : Int} (hd : decode M.2.1 pc = .ok (.isub, 1)) (k : ZW d M (pc + 1) ls (.inl (x - y) :: st) g Q) : ZW d M pc ls (.inl y :: .inl x :: st) g Q := MW.isub hd (iI_sub x y) k
theorem ZW.imul {x y : Int} (hd : decode M.2.1 pc = .ok (.imul, 1)) (k : ZW d M (pc + 1) ls (.inl (x * y) :: st) g Q) : ZW d M pc ls (.inl y :: .inl x :: st) g Q := MW.imul hd (iI_mul x y) k
theorem ZW.ineg {x : Int} (hd : decode M.2.1 pc = .ok (.ineg, 1)) (k : ZW d M (pc + 1) ls (.inl (-x) :: st) g Q) : ZW d M pc ls (.inl x :: st) g Q := MW.ineg hd (iI_neg x) k
theorem ZW.idiv {x y : Int} (hd : decode M.2.1 pc = .ok (.idiv, 1)) (h : 0 ≤ x ∧ x < 2147483648 ∧ 0 < y ∧ y < 2147483648) (k : ZW d M (pc + 1) ls (.inl (x / y) :: st) g Q) : ZW d M pc ls (.inl y :: .inl x :: st) g Q :=
  MW.idiv hd (fun q => by have h1 := (iI_inj (a := y) (b := 0) ⟨by omega, by omega⟩ zR_0).mp q; omega) (iI_div h.1 h.2.1 h.2.2.1 h.2.2.2) k
theorem ZW.irem {x y : Int} (hd : decode M.2.1 pc = .ok (.irem, 1)) (h : 0 ≤ x ∧ x < 2147483648 ∧ 0 < y ∧ y < 2147483648) (k : ZW d M (pc + 1) ls (.inl (x % y) :: st) g Q) : ZW d M pc ls (.inl y :: .inl x :: st) g Q :=
  MW.irem hd (fun q => by have h1 := (iI_inj (a := y) (b := 0) ⟨by omega, by omega⟩ zR_0).mp q; omega) (iI_rem h.1 h.2.1 h.2.2.1 h.2.2.2) k
theorem ZW.iand {x y v : Int} (hd : decode M.2.1 pc = .ok (.iand, 1)) (hv : iI x &&& iI y = iI v) (k : ZW d M (pc + 1) ls (.inl v :: st) g Q) : ZW d M pc ls (.inl y :: .inl x :: st) g Q := MW.iand hd hv k
theorem ZW.ixor {x y v : Int} (hd : decode M.2.1 pc = .ok (.ixor, 1)) (hv : iI x ^^^ iI y = iI v) (k : ZW d M (pc + 1) ls (.inl v :: st) g Q) : ZW d M pc ls (.inl y :: .inl x :: st) g Q := MW.ixor hd hv k
theorem ZW.ishl {x y v : Int} (hd : decode M.2.1 pc = .ok (.ishl, 1)) (hv : iI x <<< (iI y &&& 31) = iI v) (k : ZW d M (pc + 1) ls (.inl v :: st) g Q) : ZW d M pc ls (.inl y :: .inl x :: st) g Q := MW.ishl hd hv k
theorem ZW.ishr {x y v : Int} (hd : decode M.2.1 pc = .ok (.ishr, 1)) (hv : iI x >>> (iI y &&& 31) = iI v) (k : ZW d M (pc + 1) ls (.inl v :: st) g Q) : ZW d M pc ls (.inl y :: .inl x :: st) g Q := MW.ishr hd hv k
theorem ZW.iushr {x y v : Int} (hd : decode M.2.1 pc = .ok (.iushr, 1)) (hv : ((iI x).toUInt32 >>> ((iI y).toUInt32 &&& Int32.toUInt32 31)).toInt32 = iI v) (k : ZW d M (pc + 1) ls (.inl v :: st) g Q) : ZW d M pc ls (.inl y :: .inl x :: st) g Q := MW.iushr hd hv k
theorem ZW.dup {v : ZV} (hd : decode M.2.1 pc = .ok (.dup, 1)) (k : ZW d M (pc + 1) ls (v :: v :: st) g Q) : ZW d M pc ls (v :: st) g Q := MW.dup hd k
theorem ZW.dup2 {v w : ZV} (hd : decode M.2.1 pc = .ok (.dup2, 1)) (k : ZW d M (pc + 1) ls (v :: w :: v :: w :: st) g Q) : ZW d M pc ls (v :: w :: st) g Q := MW.dup2 hd k
theorem ZW.pop {v : ZV} (hd : decode M.2.1 pc = .ok (.pop, 1)) (k : ZW d M (pc + 1) ls st g Q) : ZW d M pc ls (v :: st) g Q := MW.pop hd k
theorem ZW.goto {off : Int} {tgt : Nat} (hd : decode M.2.1 pc = .ok (.goto off, 3)) (ht : (pc : Int) + off = (tgt : Int)) (k : ZW d M tgt ls st g Q) : ZW d M pc ls st g Q := MW.goto hd ht k
theorem ZW.top {x y : Int} (hx : x = y) (k : ZW d M pc ls (.inl y :: st) g Q) : ZW d M pc ls (.inl x :: st) g Q := hx ▸ k
theorem ZW.icmp_eq {x y : Int} {off : Int} {tgt : Nat} (hd : decode M.2.1 pc = .ok (.if_icmp .eq off, 3)) (ht : (pc : Int) + off = (tgt : Int)) (hx : zR x) (hy : zR y) (kt : x = y → ZW d M tgt ls st g Q) (kf : x ≠ y → ZW d M (pc + 3) ls st g Q) : ZW d M pc ls (.inl y :: .inl x :: st) g Q :=
  MW.icmp_eq hd ht (fun hc => kt (by first | exact (iI_inj hx hy).mp hc | exact fun q => hc ((iI_inj hx hy).mpr q) | exact (iI_lt hx hy).mp hc | exact (iI_lt hy hx).mp hc | exact (iI_le hx hy).mp hc | exact (iI_le hy hx).mp hc | exact Int.not_lt.mp (fun q => hc ((iI_lt hx hy).mpr q)) | exact Int.not_lt.mp (fun q => hc ((iI_lt hy hx).mpr q)) | exact Int.not_le.mp (fun q => hc ((iI_le hx hy).mpr q)) | exact Int.not_le.mp (fun q => hc ((iI_le hy hx).mpr q)))) (fun hc => kf (by first | exact (iI_inj hx hy).mp hc | exact fun q => hc ((iI_inj hx hy).mpr q) | exact (iI_lt hx hy).mp hc | exact (iI_lt hy hx).mp hc | exact (iI_le hx hy).mp hc | exact (iI_le hy hx).mp hc | exact Int.not_lt.mp (fun q => hc ((iI_lt hx hy).mpr q)) | exact Int.not_lt.mp (fun q => hc ((iI_lt hy hx).mpr q)) | exact Int.not_le.mp (fun q => hc ((iI_le hx hy).mpr q)) | exact Int.not_le.mp (fun q => hc ((iI_le hy hx).mpr q))))
theorem ZW.if_eq {x : Int} {off : Int} {tgt : Nat} (hd : decode M.2.1 pc = .ok (.ifCond .eq off, 3)) (ht : (pc : Int) + off = (tgt : Int)) (hx : zR x) (kt : x = 0 → ZW d M tgt ls st g Q) (kf : x ≠ 0 → ZW d M (pc + 3) ls st g Q) : ZW d M pc ls (.inl x :: st) g Q :=
  MW.if_eq hd ht (fun hc => kt (by first | exact (iI_inj hx zR_0).mp hc | exact fun q => hc ((iI_inj hx zR_0).mpr q) | exact (iI_lt hx zR_0).mp hc | exact (iI_lt zR_0 hx).mp hc | exact (iI_le hx zR_0).mp hc | exact (iI_le zR_0 hx).mp hc | exact Int.not_lt.mp (fun q => hc ((iI_lt hx zR_0).mpr q)) | exact Int.not_lt.mp (fun q => hc ((iI_lt zR_0 hx).mpr q)) | exact Int.not_le.mp (fun q => hc ((iI_le hx zR_0).mpr q)) | exact Int.not_le.mp (fun q => hc ((iI_le zR_0 hx).mpr q)))) (fun hc => kf (by first | exact (iI_inj hx zR_0).mp hc | exact fun q => hc ((iI_inj hx zR_0).mpr q) | exact (iI_lt hx zR_0).mp hc | exact (iI_lt zR_0 hx).mp hc | exact (iI_le hx zR_0).mp hc | exact (iI_le zR_0 hx).mp hc | exact Int.not_lt.mp (fun q => hc ((iI_lt hx zR_0).mpr q)) | exact Int.not_lt.mp (fun q => hc ((iI_lt zR_0 hx).mpr q)) | exact Int.not_le.mp (fun q => hc ((iI_le hx zR_0).mpr q)) | exact Int.not_le.mp (fun q => hc ((iI_le zR_0 hx).mpr q))))
theorem ZW.icmp_ne {x y : Int} {off : Int} {tgt : Nat} (hd : decode M.2.1 pc = .ok (.if_icmp .ne off, 3)) (ht : (pc : Int) + off = (tgt : Int)) (hx : zR x) (hy : zR y) (kt : x ≠ y → ZW d M tgt ls st g Q) (kf : x = y → ZW d M (pc + 3) ls st g Q) : ZW d M pc ls (.inl y :: .inl x :: st) g Q :=
  MW.icmp_ne hd ht (fun hc => kt (by first | exact (iI_inj hx hy).mp hc | exact fun q => hc ((iI_inj hx hy).mpr q) | exact (iI_lt hx hy).mp hc | exact (iI_lt hy hx).mp hc | exact (iI_le hx hy).mp hc | exact (iI_le hy hx).mp hc | exact Int.not_lt.mp (fun q => hc ((iI_lt hx hy).mpr q)) | exact Int.not_lt.mp (fun q => hc ((iI_lt hy hx).mpr q)) | exact Int.not_le.mp (fun q => hc ((iI_le hx hy).mpr q)) | exact Int.not_le.mp (fun q => hc ((iI_le hy hx).mpr q)))) (fun hc => kf (by first | exact (iI_inj hx hy).mp hc | exact fun q => hc ((iI_inj hx hy).mpr q) | exact (iI_lt hx hy).mp hc | exact (iI_lt hy hx).mp hc | exact (iI_le hx hy).mp hc | exact (iI_le hy hx).mp hc | exact Int.not_lt.mp (fun q => hc ((iI_lt hx hy).mpr q)) | exact Int.not_lt.mp (fun q => hc ((iI_lt hy hx).mpr q)) | exact Int.not_le.mp (fun q => hc ((iI_le hx hy).mpr q)) | exact Int.not_le.mp (fun q => hc ((iI_le hy hx).mpr q))))
theorem ZW.if_ne {x : Int} {off : Int} {tgt : Nat} (hd : decode M.2.1 pc = .ok (.ifCond .ne off, 3)) (ht : (pc : Int) + off = (tgt : Int)) (hx : zR x) (kt : x ≠ 0 → ZW d M tgt ls st g Q) (kf : x = 0 → ZW d M (pc + 3) ls st g Q) : ZW d M pc ls (.inl x :: st) g Q :=
  MW.if_ne hd ht (fun hc => kt (by first | exact (iI_inj hx zR_0).mp hc | exact fun q => hc ((iI_inj hx zR_0).mpr q) | exact (iI_lt hx zR_0).mp hc | exact (iI_lt zR_0 hx).mp hc | exact (iI_le hx zR_0).mp hc | exact (iI_le zR_0 hx).mp hc | exact Int.not_lt.mp (fun q => hc ((iI_lt hx zR_0).mpr q)) | exact Int.not_lt.mp (fun q => hc ((iI_lt zR_0 hx).mpr q)) | exact Int.not_le.mp (fun q => hc ((iI_le hx zR_0).mpr q)) | exact Int.not_le.mp (fun q => hc ((iI_le zR_0 hx).mpr q)))) (fun hc => kf (by first | exact (iI_inj hx zR_0).mp hc | exact fun q => hc ((iI_inj hx zR_0).mpr q) | exact (iI_lt hx zR_0).mp hc | exact (iI_lt zR_0 hx).mp hc | exact (iI_le hx zR_0).mp hc | exact (iI_le zR_0 hx).mp hc | exact Int.not_lt.mp (fun q => hc ((iI_lt hx zR_0).mpr q)) | exact Int.not_lt.mp (fun q => hc ((iI_lt zR_0 hx).mpr q)) | exact Int.not_le.mp (fun q => hc ((iI_le hx zR_0).mpr q)) | exact Int.not_le.mp (fun q => hc ((iI_le zR_0 hx).mpr q))))
theorem ZW.icmp_lt {x y : Int} {off : Int} {tgt : Nat} (hd : decode M.2.1 pc = .ok (.if_icmp .lt off, 3)) (ht : (pc : Int) + off = (tgt : Int)) (hx : zR x) (hy : zR y) (kt : x < y → ZW d M tgt ls st g Q) (kf : y ≤ x → ZW d M (pc + 3) ls st g Q) : ZW d M pc ls (.inl y :: .inl x :: st) g Q :=
  MW.icmp_lt hd ht (fun hc => kt (by first | exact (iI_inj hx hy).mp hc | exact fun q => hc ((iI_inj hx hy).mpr q) | exact (iI_lt hx hy).mp hc | exact (iI_lt hy hx).mp hc | exact (iI_le hx hy).mp hc | exact (iI_le hy hx).mp hc | exact Int.not_lt.mp (fun q => hc ((iI_lt hx hy).mpr q)) | exact Int.not_lt.mp (fun q => hc ((iI_lt hy hx).mpr q)) | exact Int.not_le.mp (fun q => hc ((iI_le hx hy).mpr q)) | exact Int.not_le.mp (fun q => hc ((iI_le hy hx).mpr q)))) (fun hc => kf (by first | exact (iI_inj hx hy).mp hc | exact fun q => hc ((iI_inj hx hy).mpr q) | exact (iI_lt hx hy).mp hc | exact (iI_lt hy hx).mp hc | exact (iI_le hx hy).mp hc | exact (iI_le hy hx).mp hc | exact Int.not_lt.mp (fun q => hc ((iI_lt hx hy).mpr q)) | exact Int.not_lt.mp (fun q => hc ((iI_lt hy hx).mpr q)) | exact Int.not_le.mp (fun q => hc ((iI_le hx hy).mpr q)) | exact Int.not_le.mp (fun q => hc ((iI_le hy hx).mpr q))))
theorem ZW.if_lt {x : Int} {off : Int} {tgt : Nat} (hd : decode M.2.1 pc = .ok (.ifCond .lt off, 3)) (ht : (pc : Int) + off = (tgt : Int)) (hx : zR x) (kt : x < 0 → ZW d M tgt ls st g Q) (kf : 0 ≤ x → ZW d M (pc + 3) ls st g Q) : ZW d M pc ls (.inl x :: st) g Q :=
  MW.if_lt hd ht (fun hc => kt (by first | exact (iI_inj hx zR_0).mp hc | exact fun q => hc ((iI_inj hx zR_0).mpr q) | exact (iI_lt hx zR_0).mp hc | exact (iI_lt zR_0 hx).mp hc | exact (iI_le hx zR_0).mp hc | exact (iI_le zR_0 hx).mp hc | exact Int.not_lt.mp (fun q => hc ((iI_lt hx zR_0).mpr q)) | exact Int.not_lt.mp (fun q => hc ((iI_lt zR_0 hx).mpr q)) | exact Int.not_le.mp (fun q => hc ((iI_le hx zR_0).mpr q)) | exact Int.not_le.mp (fun q => hc ((iI_le zR_0 hx).mpr q)))) (fun hc => kf (by first | exact (iI_inj hx zR_0).mp hc | exact fun q => hc ((iI_inj hx zR_0).mpr q) | exact (iI_lt hx zR_0).mp hc | exact (iI_lt zR_0 hx).mp hc | exact (iI_le hx zR_0).mp hc | exact (iI_le zR_0 hx).mp hc | exact Int.not_lt.mp (fun q => hc ((iI_lt hx zR_0).mpr q)) | exact Int.not_lt.mp (fun q => hc ((iI_lt zR_0 hx).mpr q)) | exact Int.not_le.mp (fun q => hc ((iI_le hx zR_0).mpr q)) | exact Int.not_le.mp (fun q => hc ((iI_le zR_0 hx).mpr q))))
theorem ZW.icmp_ge {x y : Int} {off : Int} {tgt : Nat} (hd : decode M.2.1 pc = .ok (.if_icmp .ge off, 3)) (ht : (pc : Int) + off = (tgt : Int)) (hx : zR x) (hy : zR y) (kt : y ≤ x → ZW d M tgt ls st g Q) (kf : x < y → ZW d M (pc + 3) ls st g Q) : ZW d M pc ls (.inl y :: .inl x :: st) g Q :=
  MW.icmp_ge hd ht (fun hc => kt (by first | exact (iI_inj hx hy).mp hc | exact fun q => hc ((iI_inj hx hy).mpr q) | exact (iI_lt hx hy).mp hc | exact (iI_lt hy hx).mp hc | exact (iI_le hx hy).mp hc | exact (iI_le hy hx).mp hc | exact Int.not_lt.mp (fun q => hc ((iI_lt hx hy).mpr q)) | exact Int.not_lt.mp (fun q => hc ((iI_lt hy hx).mpr q)) | exact Int.not_le.mp (fun q => hc ((iI_le hx hy).mpr q)) | exact Int.not_le.mp (fun q => hc ((iI_le hy hx).mpr q)))) (fun hc => kf (by first | exact (iI_inj hx hy).mp hc | exact fun q => hc ((iI_inj hx hy).mpr q) | exact (iI_lt hx hy).mp hc | exact (iI_lt hy hx).mp hc | exact (iI_le hx hy).mp hc | exact (iI_le hy hx).mp hc | exact Int.not_lt.mp (fun q => hc ((iI_lt hx hy).mpr q)) | exact Int.not_lt.mp (fun q => hc ((iI_lt hy hx).mpr q)) | exact Int.not_le.mp (fun q => hc ((iI_le hx hy).mpr q)) | exact Int.not_le.mp (fun q => hc ((iI_le hy hx).mpr q))))
theorem ZW.if_ge {x : Int} {off : Int} {tgt : Nat} (hd : decode M.2.1 pc = .ok (.ifCond .ge off, 3)) (ht : (pc : Int) + off = (tgt : Int)) (hx : zR x) (kt : 0 ≤ x → ZW d M tgt ls st g Q) (kf : x < 0 → ZW d M (pc + 3) ls st g Q) : ZW d M pc ls (.inl x :: st) g Q :=
  MW.if_ge hd ht (fun hc => kt (by first | exact (iI_inj hx zR_0).mp hc | exact fun q => hc ((iI_inj hx zR_0).mpr q) | exact (iI_lt hx zR_0).mp hc | exact (iI_lt zR_0 hx).mp hc | exact (iI_le hx zR_0).mp hc | exact (iI_le zR_0 hx).mp hc | exact Int.not_lt.mp (fun q => hc ((iI_lt hx zR_0).mpr q)) | exact Int.not_lt.mp (fun q => hc ((iI_lt zR_0 hx).mpr q)) | exact Int.not_le.mp (fun q => hc ((iI_le hx zR_0).mpr q)) | exact Int.not_le.mp (fun q => hc ((iI_le zR_0 hx).mpr q)))) (fun hc => kf (by first | exact (iI_inj hx zR_0).mp hc | exact fun q => hc ((iI_inj hx zR_0).mpr q) | exact (iI_lt hx zR_0).mp hc | exact (iI_lt zR_0 hx).mp hc | exact (iI_le hx zR_0).mp hc | exact (iI_le zR_0 hx).mp hc | exact Int.not_lt.mp (fun q => hc ((iI_lt hx zR_0).mpr q)) | exact Int.not_lt.mp (fun q => hc ((iI_lt zR_0 hx).mpr q)) | exact Int.not_le.mp (fun q => hc ((iI_le hx zR_0).mpr q)) | exact Int.not_le.mp (fun q => hc ((iI_le zR_0 hx).mpr q))))
theorem ZW.icmp_gt {x y : Int} {off : Int} {tgt : Nat} (hd : decode M.2.1 pc = .ok (.if_icmp .gt off, 3)) (ht : (pc : Int) + off = (tgt : Int)) (hx : zR x) (hy : zR y) (kt : y < x → ZW d M tgt ls st g Q) (kf : x ≤ y → ZW d M (pc + 3) ls st g Q) : ZW d M pc ls (.inl y :: .inl x :: st) g Q :=
  MW.icmp_gt hd ht (fun hc => kt (by first | exact (iI_inj hx hy).mp hc | exact fun q => hc ((iI_inj hx hy).mpr q) | exact (iI_lt hx hy).mp hc | exact (iI_lt hy hx).mp hc | exact (iI_le hx hy).mp hc | exact (iI_le hy hx).mp hc | exact Int.not_lt.mp (fun q => hc ((iI_lt hx hy).mpr q)) | exact Int.not_lt.mp (fun q => hc ((iI_lt hy hx).mpr q)) | exact Int.not_le.mp (fun q => hc ((iI_le hx hy).mpr q)) | exact Int.not_le.mp (fun q => hc ((iI_le hy hx).mpr q)))) (fun hc => kf (by first | exact (iI_inj hx hy).mp hc | exact fun q => hc ((iI_inj hx hy).mpr q) | exact (iI_lt hx hy).mp hc | exact (iI_lt hy hx).mp hc | exact (iI_le hx hy).mp hc | exact (iI_le hy hx).mp hc | exact Int.not_lt.mp (fun q => hc ((iI_lt hx hy).mpr q)) | exact Int.not_lt.mp (fun q => hc ((iI_lt hy hx).mpr q)) | exact Int.not_le.mp (fun q => hc ((iI_le hx hy).mpr q)) | exact Int.not_le.mp (fun q => hc ((iI_le hy hx).mpr q))))
theorem ZW.if_gt {x : Int} {off : Int} {tgt : Nat} (hd : decode M.2.1 pc = .ok (.ifCond .gt off, 3)) (ht : (pc : Int) + off = (tgt : Int)) (hx : zR x) (kt : 0 < x → ZW d M tgt ls st g Q) (kf : x ≤ 0 → ZW d M (pc + 3) ls st g Q) : ZW d M pc ls (.inl x :: st) g Q :=
  MW.if_gt hd ht (fun hc => kt (by first | exact (iI_inj hx zR_0).mp hc | exact fun q => hc ((iI_inj hx zR_0).mpr q) | exact (iI_lt hx zR_0).mp hc | exact (iI_lt zR_0 hx).mp hc | exact (iI_le hx zR_0).mp hc | exact (iI_le zR_0 hx).mp hc | exact Int.not_lt.mp (fun q => hc ((iI_lt hx zR_0).mpr q)) | exact Int.not_lt.mp (fun q => hc ((iI_lt zR_0 hx).mpr q)) | exact Int.not_le.mp (fun q => hc ((iI_le hx zR_0).mpr q)) | exact Int.not_le.mp (fun q => hc ((iI_le zR_0 hx).mpr q)))) (fun hc => kf (by first | exact (iI_inj hx zR_0).mp hc | exact fun q => hc ((iI_inj hx zR_0).mpr q) | exact (iI_lt hx zR_0).mp hc | exact (iI_lt zR_0 hx).mp hc | exact (iI_le hx zR_0).mp hc | exact (iI_le zR_0 hx).mp hc | exact Int.not_lt.mp (fun q => hc ((iI_lt hx zR_0).mpr q)) | exact Int.not_lt.mp (fun q => hc ((iI_lt zR_0 hx).mpr q)) | exact Int.not_le.mp (fun q => hc ((iI_le hx zR_0).mpr q)) | exact Int.not_le.mp (fun q => hc ((iI_le zR_0 hx).mpr q))))
theorem ZW.icmp_le {x y : Int} {off : Int} {tgt : Nat} (hd : decode M.2.1 pc = .ok (.if_icmp .le off, 3)) (ht : (pc : Int) + off = (tgt : Int)) (hx : zR x) (hy : zR y) (kt : x ≤ y → ZW d M tgt ls st g Q) (kf : y < x → ZW d M (pc + 3) ls st g Q) : ZW d M pc ls (.inl y :: .inl x :: st) g Q :=
  MW.icmp_le hd ht (fun hc => kt (by first | exact (iI_inj hx hy).mp hc | exact fun q => hc ((iI_inj hx hy).mpr q) | exact (iI_lt hx hy).mp hc | exact (iI_lt hy hx).mp hc | exact (iI_le hx hy).mp hc | exact (iI_le hy hx).mp hc | exact Int.not_lt.mp (fun q => hc ((iI_lt hx hy).mpr q)) | exact Int.not_lt.mp (fun q => hc ((iI_lt hy hx).mpr q)) | exact Int.not_le.mp (fun q => hc ((iI_le hx hy).mpr q)) | exact Int.not_le.mp (fun q => hc ((iI_le hy hx).mpr q)))) (fun hc => kf (by first | exact (iI_inj hx hy).mp hc | exact fun q => hc ((iI_inj hx hy).mpr q) | exact (iI_lt hx hy).mp hc | exact (iI_lt hy hx).mp hc | exact (iI_le hx hy).mp hc | exact (iI_le hy hx).mp hc | exact Int.not_lt.mp (fun q => hc ((iI_lt hx hy).mpr q)) | exact Int.not_lt.mp (fun q => hc ((iI_lt hy hx).mpr q)) | exact Int.not_le.mp (fun q => hc ((iI_le hx hy).mpr q)) | exact Int.not_le.mp (fun q => hc ((iI_le hy hx).mpr q))))
theorem ZW.if_le {x : Int} {off : Int} {tgt : Nat} (hd : decode M.2.1 pc = .ok (.ifCond .le off, 3)) (ht : (pc : Int) + off = (tgt : Int)) (hx : zR x) (kt : x ≤ 0 → ZW d M tgt ls st g Q) (kf : 0 < x → ZW d M (pc + 3) ls st g Q) : ZW d M pc ls (.inl x :: st) g Q :=
  MW.if_le hd ht (fun hc => kt (by first | exact (iI_inj hx zR_0).mp hc | exact fun q => hc ((iI_inj hx zR_0).mpr q) | exact (iI_lt hx zR_0).mp hc | exact (iI_lt zR_0 hx).mp hc | exact (iI_le hx zR_0).mp hc | exact (iI_le zR_0 hx).mp hc | exact Int.not_lt.mp (fun q => hc ((iI_lt hx zR_0).mpr q)) | exact Int.not_lt.mp (fun q => hc ((iI_lt zR_0 hx).mpr q)) | exact Int.not_le.mp (fun q => hc ((iI_le hx zR_0).mpr q)) | exact Int.not_le.mp (fun q => hc ((iI_le zR_0 hx).mpr q)))) (fun hc => kf (by first | exact (iI_inj hx zR_0).mp hc | exact fun q => hc ((iI_inj hx zR_0).mpr q) | exact (iI_lt hx zR_0).mp hc | exact (iI_lt zR_0 hx).mp hc | exact (iI_le hx zR_0).mp hc | exact (iI_le zR_0 hx).mp hc | exact Int.not_lt.mp (fun q => hc ((iI_lt hx zR_0).mpr q)) | exact Int.not_lt.mp (fun q => hc ((iI_lt zR_0 hx).mpr q)) | exact Int.not_le.mp (fun q => hc ((iI_le hx zR_0).mpr q)) | exact Int.not_le.mp (fun q => hc ((iI_le zR_0 hx).mpr q))))
theorem ZW.getI {ix k ci f : Nat} {fz : Int} (hd : decode M.2.1 pc = .ok (.getfield ix, 3)) (hf : mmFL M.1.cls ix ci f) (hk : mmFk k ci f none) (hz : (f : Int) = fz) {v : Int} (hv : g k fz = v) (kk : ZW d M (pc + 3) ls (.inl v :: st) g Q) : ZW d M pc ls (.inr k :: st) g Q := MW.getI hd hf hk (v := iI v) (by rw [← hv, ← hz]; rfl) kk
theorem ZW.getR {ix k ci f j : Nat} (hd : decode M.2.1 pc = .ok (.getfield ix, 3)) (hf : mmFL M.1.cls ix ci f) (hk : mmFk k ci f (some j)) (kk : ZW d M (pc + 3) ls (.inr j :: st) g Q) : ZW d M pc ls (.inr k :: st) g Q := MW.getR hd hf hk kk
theorem ZW.puti {ix k ci f : Nat} {v fz : Int} (hd : decode M.2.1 pc = .ok (.putfield ix, 3)) (hf : mmFP M.1.cls ix ci f .int) (hk : mmFk k ci f none) (hz : (f : Int) = fz) (kk : ZW d M (pc + 3) ls st (zSet g k fz v) Q) : ZW d M pc ls (.inl v :: .inr k :: st) g Q :=
  MW.put hd hf hk rfl rfl (by subst hz; rw [show mmSet (zH g) k f (iI v) = zH (zSet g k (f : Int) v) from zH_set g k (i := (f : Int)) v (Int.natCast_nonneg f)]; exact kk)
theorem ZW.putz {ix k ci f : Nat} {v fz : Int} (hd : decode M.2.1 pc = .ok (.putfield ix, 3)) (hf : mmFP M.1.cls ix ci f .boolean) (hk : mmFk k ci f none) (hz : (f : Int) = fz) (hb : v = 0 ∨ v = 1) (kk : ZW d M (pc + 3) ls st (zSet g k fz v) Q) : ZW d M pc ls (.inl v :: .inr k :: st) g Q :=
  MW.put hd hf hk (by rcases hb with rfl | rfl <;> rfl) (by rcases hb with rfl | rfl <;> rfl) (by subst hz; rw [show mmSet (zH g) k f (iI v) = zH (zSet g k (f : Int) v) from zH_set g k (i := (f : Int)) v (Int.natCast_nonneg f)]; exact kk)
theorem iI_char {v : Int} (h0 : 0 ≤ v) (h : v < 65536) : narrow .char (.int (iI v)) = .int (iI v) ∧ fits .char (.int (iI v)) = true := by
  obtain ⟨n, rfl⟩ := Int.eq_ofNat_of_zero_le h0
  exact pk_charN (by omega)
theorem ZW.putc {ix k ci f : Nat} {v fz : Int} (hd : decode M.2.1 pc = .ok (.putfield ix, 3)) (hf : mmFP M.1.cls ix ci f .char) (hk : mmFk k ci f none) (hz : (f : Int) = fz) (hb : 0 ≤ v ∧ v < 65536) (kk : ZW d M (pc + 3) ls st (zSet g k fz v) Q) : ZW d M pc ls (.inl v :: .inr k :: st) g Q :=
  MW.put hd hf hk (iI_char hb.1 hb.2).1 (iI_char hb.1 hb.2).2 (by subst hz; rw [show mmSet (zH g) k f (iI v) = zH (zSet g k (f : Int) v) from zH_set g k (i := (f : Int)) v (Int.natCast_nonneg f)]; exact kk)
theorem ZW.iald {k n : Nat} {i v : Int} (hd : decode M.2.1 pc = .ok (.iaload, 1)) (hk : mmAr k 0 n) (hn : n < 2147483648) (hi : 0 ≤ i ∧ i < (n : Int)) (hv : g k i = v) (kk : ZW d M (pc + 1) ls (.inl v :: st) g Q) : ZW d M pc ls (.inl i :: .inr k :: st) g Q :=
  MW.iald (v := iI v) hd hk (iI_ix hi.1 hi.2 hn) (by rw [zH_get g k hi.1 (by omega), hv]) kk
theorem ZW.cald {k n : Nat} {i v : Int} (hd : decode M.2.1 pc = .ok (.caload, 1)) (hk : mmAr k 1 n) (hn : n < 2147483648) (hi : 0 ≤ i ∧ i < (n : Int)) (hv : g k i = v) (kk : ZW d M (pc + 1) ls (.inl v :: st) g Q) : ZW d M pc ls (.inl i :: .inr k :: st) g Q :=
  MW.cald (v := iI v) hd hk (iI_ix hi.1 hi.2 hn) (by rw [zH_get g k hi.1 (by omega), hv]) kk
theorem ZW.zald {k n : Nat} {i v : Int} (hd : decode M.2.1 pc = .ok (.baload, 1)) (hk : mmAr k 2 n) (hn : n < 2147483648) (hi : 0 ≤ i ∧ i < (n : Int)) (hv : g k i = v) (kk : ZW d M (pc + 1) ls (.inl v :: st) g Q) : ZW d M pc ls (.inl i :: .inr k :: st) g Q :=
  MW.zald (v := iI v) hd hk (iI_ix hi.1 hi.2 hn) (by rw [zH_get g k hi.1 (by omega), hv]) kk
theorem ZW.aald {k n j : Nat} {rs : List Nat} {i : Int} (hd : decode M.2.1 pc = .ok (.aaload, 1)) (hk : mmLay[k]? = some (.inr (3, n, some rs))) (hn : n < 2147483648) (hi : 0 ≤ i ∧ i < (n : Int)) (hj : rs[i.toNat]? = some j) (kk : ZW d M (pc + 1) ls (.inr j :: st) g Q) : ZW d M pc ls (.inl i :: .inr k :: st) g Q :=
  MW.aald hd hk (iI_ix hi.1 hi.2 hn) (by rw [iI_cl hi.1 (by omega)]; exact hj) kk
theorem ZW.alen {k n : Nat} {v : Int} (hd : decode M.2.1 pc = .ok (.arraylength, 1)) (hk : mmAr k 0 n) (hv : (n : Int) = v) (kk : ZW d M (pc + 1) ls (.inl v :: st) g Q) : ZW d M pc ls (.inr k :: st) g Q :=
  MW.alen (v := iI v) (ty := .int) hd hk rfl (by rw [← hv]; rfl) kk
theorem ZW.iast {k n : Nat} {i v : Int} (hd : decode M.2.1 pc = .ok (.iastore, 1)) (hk : mmAr k 0 n) (hn : n < 2147483648) (hi : 0 ≤ i ∧ i < (n : Int)) (kk : ZW d M (pc + 1) ls st (zSet g k i v) Q) : ZW d M pc ls (.inl v :: .inl i :: .inr k :: st) g Q :=
  MW.iast hd hk (iI_ix hi.1 hi.2 hn) (by rw [iI_cl hi.1 (by omega), zH_set g k v hi.1]; exact kk)
theorem vp_nar_c {v : Int} (h0 : 0 ≤ v) (h : v < 65536) : vp_nar .char (iI v) = iI v := by
  unfold vp_nar
  rw [(iI_char h0 h).1]
theorem ZW.cast {k n : Nat} {i v : Int} (hd : decode M.2.1 pc = .ok (.castore, 1)) (hk : mmAr k 1 n) (hn : n < 2147483648) (hi : 0 ≤ i ∧ i < (n : Int)) (hb : 0 ≤ v ∧ v < 65536) (kk : ZW d M (pc + 1) ls st (zSet g k i v) Q) : ZW d M pc ls (.inl v :: .inl i :: .inr k :: st) g Q :=
  MW.cast (w := iI v) hd hk (iI_ix hi.1 hi.2 hn) (vp_nar_c hb.1 hb.2) (by rw [iI_cl hi.1 (by omega), zH_set g k v hi.1]; exact kk)
theorem ZW.zast {k n : Nat} {i v : Int} (hd : decode M.2.1 pc = .ok (.bastore, 1)) (hk : mmAr k 2 n) (hn : n < 2147483648) (hi : 0 ≤ i ∧ i < (n : Int)) (hb : v = 0 ∨ v = 1) (kk : ZW d M (pc + 1) ls st (zSet g k i v) Q) : ZW d M pc ls (.inl v :: .inl i :: .inr k :: st) g Q :=
  MW.zast (w := iI v) hd hk (iI_ix hi.1 hi.2 hn) (by rcases hb with rfl | rfl <;> rfl) (by rw [iI_cl hi.1 (by omega), zH_set g k v hi.1]; exact kk)
theorem ZW.ireti {v : Int} (hd : decode M.2.1 pc = .ok (.ireturn, 1)) (hr : M.2.2.2 = some .int) (hq : Q v g) : ZW d M pc ls (.inl v :: []) g Q := MW.iret hd hr rfl ⟨v, g, rfl, rfl, hq⟩
theorem ZW.iretz {v : Int} (hd : decode M.2.1 pc = .ok (.ireturn, 1)) (hr : M.2.2.2 = some .boolean) (hb : v = 0 ∨ v = 1) (hq : Q v g) : ZW d M pc ls (.inl v :: []) g Q := MW.iret hd hr (by rcases hb with rfl | rfl <;> rfl) ⟨v, g, rfl, rfl, hq⟩
theorem ZW.vret (hd : decode M.2.1 pc = .ok (.return_, 1)) (hr : M.2.2.2 = none) (hq : Q 0 g) : ZW d M pc ls [] g Q := MW.vret hd hr ⟨0, g, rfl, rfl, hq⟩
theorem ZW.tableOut {dflt lo hi : Int} {offs : Array Int} {len tgt : Nat} {x : Int} (hd : decode M.2.1 pc = .ok (.tableswitch dflt lo hi offs, len)) (hr : zR x) (hx : x < lo ∨ hi < x) (ht : (pc : Int) + dflt = (tgt : Int)) (k : ZW d M tgt ls st g Q) : ZW d M pc ls (.inl x :: st) g Q := MW.tableOut hd (by rw [iI_toInt hr]; exact hx) ht k
theorem ZW.tableIn {dflt lo hi off : Int} {offs : Array Int} {len tgt : Nat} {x : Int} (hd : decode M.2.1 pc = .ok (.tableswitch dflt lo hi offs, len)) (hr : zR x) (hx : lo ≤ x ∧ x ≤ hi) (ho : offs[(x - lo).toNat]? = some off) (ht : (pc : Int) + off = (tgt : Int)) (k : ZW d M tgt ls st g Q) : ZW d M pc ls (.inl x :: st) g Q := MW.tableIn hd (by rw [iI_toInt hr]; omega) (by rw [iI_toInt hr]; omega) (by rw [iI_toInt hr]; exact ho) ht k
theorem ZW.callS {d2 ix : Nat} {M2 : MMeth} {as : List ZV} {st0 : List ZV} {Q2 : Int → ZH → Prop} {ty : FieldType} (hd : decode M.2.1 pc = .ok (.invokestatic ix, 3)) (hl2 : mmCS M.1.cls ix M2 as.length) (hr2 : M2.2.2.2 = some ty) (hdd : d2 + 1 ≤ d) (hst : st.length ≤ 8) (hs : st0 = as.reverse ++ st) (hc : ZC d2 M2 as g Q2) (kk : ∀ r g', Q2 r g' → ZW d M (pc + 3) ls (.inl r :: st) g' Q) : ZW d M pc ls st0 g Q := by
  subst hs
  refine MW.callS (as := as.map zV) (st := st.map zV) hd (by rw [List.length_map]; exact hl2) hr2 hdd (by rw [List.length_map]; exact hst) (by simp [zV]) hc (fun r h' ⟨r', g', e1, e2, e3⟩ => by subst e1; subst e2; exact kk r' g' e3)
theorem ZW.callSv {d2 ix : Nat} {M2 : MMeth} {as : List ZV} {st0 : List ZV} {Q2 : Int → ZH → Prop} (hd : decode M.2.1 pc = .ok (.invokestatic ix, 3)) (hl2 : mmCS M.1.cls ix M2 as.length) (hr2 : M2.2.2.2 = none) (hdd : d2 + 1 ≤ d) (hst : st.length ≤ 8) (hs : st0 = as.reverse ++ st) (h0 : ∀ r g', Q2 r g' → 0 = iI r → Q2 0 g') (hc : ZC d2 M2 as g Q2) (kk : ∀ g', Q2 0 g' → ZW d M (pc + 3) ls st g' Q) : ZW d M pc ls st0 g Q := by
  subst hs
  refine MW.callSv (as := as.map zV) (st := st.map zV) hd (by rw [List.length_map]; exact hl2) hr2 hdd (by rw [List.length_map]; exact hst) (by simp [zV]) hc (fun h' ⟨r', g', e1, e2, e3⟩ => by subst e2; exact kk g' (h0 r' g' e3 e1))
theorem ZW.callV {d2 ix : Nat} {k ci : Nat} {M2 : MMeth} {as : List ZV} {st0 : List ZV} {Q2 : Int → ZH → Prop} {ty : FieldType} (hd : decode M.2.1 pc = .ok (.invokevirtual ix, 3)) (hl2 : mmCV M.1.cls ix M2 as.length ci) (hk : mmIsObj k ci) (hr2 : M2.2.2.2 = some ty) (hdd : d2 + 1 ≤ d) (hst : st.length ≤ 8) (hs : st0 = as.reverse ++ .inr k :: st) (hc : ZC d2 M2 (.inr k :: as) g Q2) (kk : ∀ r g', Q2 r g' → ZW d M (pc + 3) ls (.inl r :: st) g' Q) : ZW d M pc ls st0 g Q := by
  subst hs
  refine MW.callV (as := as.map zV) (st := st.map zV) hd (by rw [List.length_map]; exact hl2) hk hr2 hdd (by rw [List.length_map]; exact hst) (by simp [zV]) hc (fun r h' ⟨r', g', e1, e2, e3⟩ => by subst e1; subst e2; exact kk r' g' e3)
theorem ZW.callVv {d2 ix : Nat} {k ci : Nat} {M2 : MMeth} {as : List ZV} {st0 : List ZV} {Q2 : Int → ZH → Prop} (hd : decode M.2.1 pc = .ok (.invokevirtual ix, 3)) (hl2 : mmCV M.1.cls ix M2 as.length ci) (hk : mmIsObj k ci) (hr2 : M2.2.2.2 = none) (hdd : d2 + 1 ≤ d) (hst : st.length ≤ 8) (hs : st0 = as.reverse ++ .inr k :: st) (h0 : ∀ r g', Q2 r g' → 0 = iI r → Q2 0 g') (hc : ZC d2 M2 (.inr k :: as) g Q2) (kk : ∀ g', Q2 0 g' → ZW d M (pc + 3) ls st g' Q) : ZW d M pc ls st0 g Q := by
  subst hs
  refine MW.callVv (as := as.map zV) (st := st.map zV) hd (by rw [List.length_map]; exact hl2) hk hr2 hdd (by rw [List.length_map]; exact hst) (by simp [zV]) hc (fun h' ⟨r', g', e1, e2, e3⟩ => by subst e2; exact kk g' (h0 r' g' e3 e1))
theorem zH_cpy (g : ZH) (k0 k1 : Nat) {sp dp n : Int} (h0 : 0 ≤ sp) (h1 : 0 ≤ dp) (h2 : 0 ≤ n) : mmUp (zH g) k1 (va_cpy (zH g k0) (zH g k1) sp.toNat dp.toNat n.toNat) = zH (zRow g k1 (zCpy (g k0) (g k1) sp dp n)) := by
  refine zH_up g k1 _ _ (fun j => ?_)
  unfold va_cpy zCpy zH
  by_cases hj : dp.toNat ≤ j ∧ j < dp.toNat + n.toNat
  · rw [if_pos hj, if_pos (by omega)]
    congr 2
    omega
  · rw [if_neg hj, if_neg (by omega)]
theorem ZW.copy {ix k0 k1 n0 n1 : Nat} {sp dp n : Int} (hd : decode M.2.1 pc = .ok (.invokestatic ix, 3)) (h1 : Cond.methodLink M.1.cls ix arraycopyName ∈ mmWall) (h2 : Cond.native arraycopyName ∈ mmWall) (h3 : Cond.static arraycopyName ∈ mmWall) (h4 : Cond.initialized "java/lang/System" ∈ mmWall) (hk0 : mmAr k0 0 n0) (hk1 : mmAr k1 0 n1) (hn : n0 < 2147483648 ∧ n1 < 2147483648) (hg : 0 ≤ sp ∧ 0 ≤ dp ∧ 0 ≤ n ∧ sp + n ≤ n0 ∧ dp + n ≤ n1) (hdd : 2 ≤ d) (hst : st.length ≤ 8) (kk : ZW d M (pc + 3) ls st (zRow g k1 (zCpy (g k0) (g k1) sp dp n)) Q) : ZW d M pc ls (.inl n :: .inl dp :: .inr k1 :: .inl sp :: .inr k0 :: st) g Q := by
  obtain ⟨g1, g2, g3, g4, g5⟩ := hg
  have neg : ∀ z : Int, 0 ≤ z → z < 2147483648 → ¬ iI z < 0 := fun z hz hz2 q => by
    have q1 := (iI_lt (b := 0) ⟨by omega, by omega⟩ zR_0).mp q
    omega
  refine MW.copy (st := st.map zV) hd h1 h2 h3 h4 hk0 hk1 (neg sp g1 (by omega)) (neg dp g2 (by omega)) (neg n g3 (by omega)) (by rw [iI_cl g1 (by omega), iI_cl g3 (by omega)]; omega) (by rw [iI_cl g2 (by omega), iI_cl g3 (by omega)]; omega) hdd (by rw [List.length_map]; exact hst) ?_
  rw [iI_cl g1 (by omega), iI_cl g2 (by omega), iI_cl g3 (by omega), zH_cpy g k0 k1 g1 g2 g3]
  exact kk

theorem ZW.mmax {ix : Nat} {x y : Int} (hd : decode M.2.1 pc = .ok (.invokestatic ix, 3)) (h1 : Cond.methodLink M.1.cls ix Lib.Math.max.name ∈ mmWall) (h2 : Cond.static Lib.Math.max.name ∈ mmWall) (h3 : Cond.initialized "java/lang/Math" ∈ mmWall) (h4 : Cond.code Lib.Math.max.name Lib.Math.max.code 2 (some .int) ∈ mmWall) (hdd : 1 ≤ d) (hst : st.length ≤ 8) (hx : zR x) (hy : zR y) (kk : ZW d M (pc + 3) ls (.inl (maxF x y) :: st) g Q) : ZW d M pc ls (.inl y :: .inl x :: st) g Q := by
  refine MW.mmax (st := st.map zV) (v := iI (maxF x y)) hd h1 h2 h3 h4 hdd (by rw [List.length_map]; exact hst) ?_ kk
  · unfold maxF
    by_cases q : x < y
    · rw [if_pos q, if_pos ((iI_lt hx hy).mpr q)]
    · rw [if_neg q, if_neg (fun z => q ((iI_lt hx hy).mp z))]
theorem ZW.mmin {ix : Nat} {x y : Int} (hd : decode M.2.1 pc = .ok (.invokestatic ix, 3)) (h1 : Cond.methodLink M.1.cls ix Lib.Math.min.name ∈ mmWall) (h2 : Cond.static Lib.Math.min.name ∈ mmWall) (h3 : Cond.initialized "java/lang/Math" ∈ mmWall) (h4 : Cond.code Lib.Math.min.name Lib.Math.min.code 2 (some .int) ∈ mmWall) (hdd : 1 ≤ d) (hst : st.length ≤ 8) (hx : zR x) (hy : zR y) (kk : ZW d M (pc + 3) ls (.inl (minF x y) :: st) g Q) : ZW d M pc ls (.inl y :: .inl x :: st) g Q := by
  refine MW.mmin (st := st.map zV) (v := iI (minF x y)) hd h1 h2 h3 h4 hdd (by rw [List.length_map]; exact hst) ?_ kk
  · unfold minF
    by_cases q : y < x
    · rw [if_pos q, if_pos ((iI_lt hy hx).mpr q)]
    · rw [if_neg q, if_neg (fun z => q ((iI_lt hy hx).mp z))]
theorem ZW.mabs {ix : Nat} {x : Int} (hd : decode M.2.1 pc = .ok (.invokestatic ix, 3)) (h1 : Cond.methodLink M.1.cls ix Lib.Math.abs.name ∈ mmWall) (h2 : Cond.static Lib.Math.abs.name ∈ mmWall) (h3 : Cond.initialized "java/lang/Math" ∈ mmWall) (h4 : Cond.code Lib.Math.abs.name Lib.Math.abs.code 1 (some .int) ∈ mmWall) (hdd : 1 ≤ d) (hst : st.length ≤ 8) (hx : zR x) (kk : ZW d M (pc + 3) ls (.inl (absF x) :: st) g Q) : ZW d M pc ls (.inl x :: st) g Q := by
  refine MW.mabs (st := st.map zV) (v := iI (absF x)) hd h1 h2 h3 h4 hdd (by rw [List.length_map]; exact hst) ?_ kk
  · unfold absF
    by_cases q : 0 ≤ x
    · rw [if_pos q, if_pos (show (0 : Int32) ≤ iI x from (iI_le zR_0 hx).mpr q)]
    · rw [if_neg q, if_neg (show ¬ (0 : Int32) ≤ iI x from fun z => q ((iI_le zR_0 hx).mp z)), show (0 : Int32) - iI x = iI 0 - iI x from rfl, iI_sub]
      congr 1
      omega
end ZZ
end
section
abbrev mX0_init : MMeth := (yX0_init, cX0_init, 3, none)
abbrev mX0_isHex : MMeth := (yX0_isHex, cX0_isHex, 1, some .boolean)
abbrev mX0_isDirection : MMeth := (yX0_isDirection, cX0_isDirection, 1, some .boolean)
abbrev mX0_opposite : MMeth := (yX0_opposite, cX0_opposite, 1, some .int)
abbrev mX0_stepFrom : MMeth := (yX0_stepFrom, cX0_stepFrom, 7, some .int)
abbrev mX0_stepsBetween : MMeth := (yX0_stepsBetween, cX0_stepsBetween, 4, some .int)
abbrev mX0_slantOf : MMeth := (yX0_slantOf, cX0_slantOf, 1, some .int)
abbrev mX0_neighbourCount : MMeth := (yX0_neighbourCount, cX0_neighbourCount, 4, some .int)
abbrev mX0_directionTo : MMeth := (yX0_directionTo, cX0_directionTo, 4, some .int)
abbrev mX1_init : MMeth := (yX1_init, cX1_init, 3, none)
abbrev mX1_weigh : MMeth := (yX1_weigh, cX1_weigh, 5, none)
abbrev mX1_powerOfAttack : MMeth := (yX1_powerOfAttack, cX1_powerOfAttack, 7, some .int)
abbrev mX1_powerOfDefence : MMeth := (yX1_powerOfDefence, cX1_powerOfDefence, 5, some .int)
abbrev mX2_init : MMeth := (yX2_init, cX2_init, 3, none)
abbrev mX2_record : MMeth := (yX2_record, cX2_record, 2, none)
abbrev mX2_takeBack : MMeth := (yX2_takeBack, cX2_takeBack, 2, some .boolean)
abbrev mX3_init : MMeth := (yX3_init, cX3_init, 1, none)
abbrev mX3_append : MMeth := (yX3_append, cX3_append, 2, some .boolean)
abbrev mX3_read : MMeth := (yX3_read, cX3_read, 3, some .int)
abbrev mX3_stageAfter : MMeth := (yX3_stageAfter, cX3_stageAfter, 3, some .int)
abbrev mX3_isIn : MMeth := (yX3_isIn, cX3_isIn, 3, some .boolean)
abbrev mX3_readFirst : MMeth := (yX3_readFirst, cX3_readFirst, 3, some .int)
abbrev mX3_readUnit : MMeth := (yX3_readUnit, cX3_readUnit, 2, some .int)
abbrev mX3_readSign : MMeth := (yX3_readSign, cX3_readSign, 2, some .int)
abbrev mX3_readColumn : MMeth := (yX3_readColumn, cX3_readColumn, 2, some .int)
abbrev mX3_readRow : MMeth := (yX3_readRow, cX3_readRow, 3, some .int)
abbrev mX3_addOrder : MMeth := (yX3_addOrder, cX3_addOrder, 2, some .int)
abbrev mX4_init : MMeth := (yX4_init, cX4_init, 2, none)
abbrev mX4_copyFrom : MMeth := (yX4_copyFrom, cX4_copyFrom, 2, none)
abbrev mX4_sideInTurn : MMeth := (yX4_sideInTurn, cX4_sideInTurn, 1, some .int)
abbrev mX4_isUnit : MMeth := (yX4_isUnit, cX4_isUnit, 2, some .boolean)
abbrev mX4_isUnitOf : MMeth := (yX4_isUnitOf, cX4_isUnitOf, 3, some .boolean)
abbrev mX4_sideOn : MMeth := (yX4_sideOn, cX4_sideOn, 3, some .int)
abbrev mX4_hasFort : MMeth := (yX4_hasFort, cX4_hasFort, 2, some .boolean)
abbrev mX4_hasRiver : MMeth := (yX4_hasRiver, cX4_hasRiver, 3, some .boolean)
abbrev mX4_addUnit : MMeth := (yX4_addUnit, cX4_addUnit, 5, some .int)
abbrev mX4_shift : MMeth := (yX4_shift, cX4_shift, 3, none)
abbrev mX4_stand : MMeth := (yX4_stand, cX4_stand, 3, none)
abbrev mX4_giveFortToUnit : MMeth := (yX4_giveFortToUnit, cX4_giveFortToUnit, 2, none)
abbrev mX4_setStrength : MMeth := (yX4_setStrength, cX4_setStrength, 3, none)
abbrev mX4_refresh : MMeth := (yX4_refresh, cX4_refresh, 3, none)
abbrev mX4_inZone : MMeth := (yX4_inZone, cX4_inZone, 5, some .boolean)
abbrev mX4_isSeen : MMeth := (yX4_isSeen, cX4_isSeen, 3, some .boolean)
abbrev mX4_isSeenByUnit : MMeth := (yX4_isSeenByUnit, cX4_isSeenByUnit, 5, some .boolean)
abbrev mX4_isSeenByFort : MMeth := (yX4_isSeenByFort, cX4_isSeenByFort, 5, some .boolean)
abbrev mX4_seenCount : MMeth := (yX4_seenCount, cX4_seenCount, 4, some .int)
abbrev mX4_unitCount : MMeth := (yX4_unitCount, cX4_unitCount, 4, some .int)
abbrev mX4_strengthOf : MMeth := (yX4_strengthOf, cX4_strengthOf, 4, some .int)
abbrev mX4_fortCount : MMeth := (yX4_fortCount, cX4_fortCount, 4, some .int)
abbrev mX4_riverCount : MMeth := (yX4_riverCount, cX4_riverCount, 3, some .int)
abbrev mX5_init : MMeth := (yX5_init, cX5_init, 2, none)
abbrev mX5_measure : MMeth := (yX5_measure, cX5_measure, 5, none)
abbrev mX5_spread : MMeth := (yX5_spread, cX5_spread, 4, none)
abbrev mX5_isFree : MMeth := (yX5_isFree, cX5_isFree, 4, some .boolean)
abbrev mX5_reaches : MMeth := (yX5_reaches, cX5_reaches, 2, some .boolean)
abbrev mX6_init : MMeth := (yX6_init, cX6_init, 2, none)
abbrev mX6_measure : MMeth := (yX6_measure, cX6_measure, 7, none)
abbrev mX6_goOn : MMeth := (yX6_goOn, cX6_goOn, 7, none)
abbrev mX6_costOfStep : MMeth := (yX6_costOfStep, cX6_costOfStep, 5, some .int)
abbrev mX6_canEndOn : MMeth := (yX6_canEndOn, cX6_canEndOn, 3, some .boolean)
abbrev mX6_endCount : MMeth := (yX6_endCount, cX6_endCount, 4, some .int)
abbrev mX7_init : MMeth := (yX7_init, cX7_init, 1, none)
abbrev mX7_ground : MMeth := (yX7_ground, cX7_ground, 4, some .int)
abbrev mX7_river : MMeth := (yX7_river, cX7_river, 5, some .int)
abbrev mX7_fort : MMeth := (yX7_fort, cX7_fort, 4, some .int)
abbrev mX7_base : MMeth := (yX7_base, cX7_base, 4, some .int)
abbrev mX7_place : MMeth := (yX7_place, cX7_place, 4, some .int)
abbrev mX7_move : MMeth := (yX7_move, cX7_move, 3, some .int)
abbrev mX7_attack : MMeth := (yX7_attack, cX7_attack, 3, some .int)
abbrev mX7_endTurn : MMeth := (yX7_endTurn, cX7_endTurn, 1, some .int)
abbrev mX7_perform : MMeth := (yX7_perform, cX7_perform, 4, some .int)
abbrev mX7_recordedIfDone : MMeth := (yX7_recordedIfDone, cX7_recordedIfDone, 2, some .int)
abbrev mX7_moveUnit : MMeth := (yX7_moveUnit, cX7_moveUnit, 3, some .int)
abbrev mX7_strike : MMeth := (yX7_strike, cX7_strike, 4, some .int)
abbrev mX7_canFight : MMeth := (yX7_canFight, cX7_canFight, 3, some .boolean)
abbrev mX7_finishTurn : MMeth := (yX7_finishTurn, cX7_finishTurn, 2, some .int)
abbrev mX7_starve : MMeth := (yX7_starve, cX7_starve, 4, some .int)
abbrev mX7_type : MMeth := (yX7_type, cX7_type, 2, some .int)
abbrev mX7_clearText : MMeth := (yX7_clearText, cX7_clearText, 2, some .int)
abbrev mX7_undo : MMeth := (yX7_undo, cX7_undo, 1, some .int)
abbrev mX7_keep : MMeth := (yX7_keep, cX7_keep, 1, some .int)
abbrev mX7_restore : MMeth := (yX7_restore, cX7_restore, 1, some .int)
abbrev mX7_hex : MMeth := (yX7_hex, cX7_hex, 3, some .int)
abbrev mX7_beside : MMeth := (yX7_beside, cX7_beside, 4, some .int)
abbrev mX7_distance : MMeth := (yX7_distance, cX7_distance, 3, some .int)
abbrev mX7_unit : MMeth := (yX7_unit, cX7_unit, 5, some .int)
abbrev mX7_cost : MMeth := (yX7_cost, cX7_cost, 3, some .int)
abbrev mX7_would : MMeth := (yX7_would, cX7_would, 4, some .int)
abbrev mX7_besieged : MMeth := (yX7_besieged, cX7_besieged, 5, some .int)
abbrev mX7_count : MMeth := (yX7_count, cX7_count, 2, some .int)
abbrev mX7_isSide : MMeth := (yX7_isSide, cX7_isSide, 1, some .boolean)
abbrev mX7_oneIf : MMeth := (yX7_oneIf, cX7_oneIf, 1, some .int)
abbrev mX8_init : MMeth := (yX8_init, cX8_init, 1, none)
abbrev mX8_in : MMeth := (yX8_in, cX8_in, 3, some .boolean)
abbrev mX8_isHex : MMeth := (yX8_isHex, cX8_isHex, 1, some .boolean)
abbrev mX8_of : MMeth := (yX8_of, cX8_of, 3, some .int)
abbrev mX8_lay : MMeth := (yX8_lay, cX8_lay, 4, none)
abbrev mX8_isUnit : MMeth := (yX8_isUnit, cX8_isUnit, 2, some .boolean)
abbrev mX8_records : MMeth := (yX8_records, cX8_records, 2, none)
abbrev mX8_putAside : MMeth := (yX8_putAside, cX8_putAside, 2, none)
abbrev mX8_takeBack : MMeth := (yX8_takeBack, cX8_takeBack, 2, none)
abbrev mX8_next : MMeth := (yX8_next, cX8_next, 5, some .int)
abbrev mX8_directionTo : MMeth := (yX8_directionTo, cX8_directionTo, 3, some .int)
abbrev mX8_hasRiver : MMeth := (yX8_hasRiver, cX8_hasRiver, 3, some .boolean)
abbrev mX8_unitOn : MMeth := (yX8_unitOn, cX8_unitOn, 3, some .int)
abbrev mX8_isOn : MMeth := (yX8_isOn, cX8_isOn, 4, some .boolean)
abbrev mX8_isInZone : MMeth := (yX8_isInZone, cX8_isInZone, 6, some .boolean)
abbrev mX8_laysZone : MMeth := (yX8_laysZone, cX8_laysZone, 3, none)
abbrev mX8_laysDistances : MMeth := (yX8_laysDistances, cX8_laysDistances, 6, none)
abbrev mX8_stands : MMeth := (yX8_stands, cX8_stands, 3, none)
abbrev mX8_entering : MMeth := (yX8_entering, cX8_entering, 4, some .int)
abbrev mX8_laysWays : MMeth := (yX8_laysWays, cX8_laysWays, 8, none)
abbrev mX8_cheapest : MMeth := (yX8_cheapest, cX8_cheapest, 3, some .int)
abbrev mX8_canReach : MMeth := (yX8_canReach, cX8_canReach, 3, some .boolean)
abbrev mX8_isSource : MMeth := (yX8_isSource, cX8_isSource, 3, some .boolean)
abbrev mX8_isFree : MMeth := (yX8_isFree, cX8_isFree, 3, some .boolean)
abbrev mX8_toSource : MMeth := (yX8_toSource, cX8_toSource, 7, some .int)
abbrev mX8_isSupplied : MMeth := (yX8_isSupplied, cX8_isSupplied, 2, some .boolean)
abbrev mX8_sees : MMeth := (yX8_sees, cX8_sees, 6, some .boolean)
abbrev mX8_power : MMeth := (yX8_power, cX8_power, 4, some .int)
abbrev mX8_defence : MMeth := (yX8_defence, cX8_defence, 4, some .int)
abbrev mX8_weakened : MMeth := (yX8_weakened, cX8_weakened, 4, some .int)
abbrev mX8_canFight : MMeth := (yX8_canFight, cX8_canFight, 3, some .boolean)
abbrev mX8_fights : MMeth := (yX8_fights, cX8_fights, 6, some .int)
abbrev mX8_ground : MMeth := (yX8_ground, cX8_ground, 4, some .int)
abbrev mX8_rivers : MMeth := (yX8_rivers, cX8_rivers, 4, some .int)
abbrev mX8_river : MMeth := (yX8_river, cX8_river, 5, some .int)
abbrev mX8_forts : MMeth := (yX8_forts, cX8_forts, 4, some .int)
abbrev mX8_fort : MMeth := (yX8_fort, cX8_fort, 4, some .int)
abbrev mX8_base : MMeth := (yX8_base, cX8_base, 4, some .int)
abbrev mX8_place : MMeth := (yX8_place, cX8_place, 5, some .int)
abbrev mX8_isAtTurn : MMeth := (yX8_isAtTurn, cX8_isAtTurn, 2, some .boolean)
abbrev mX8_refusesMove : MMeth := (yX8_refusesMove, cX8_refusesMove, 3, some .int)
abbrev mX8_moves : MMeth := (yX8_moves, cX8_moves, 3, some .int)
abbrev mX8_move : MMeth := (yX8_move, cX8_move, 4, some .int)
abbrev mX8_refusesAttack : MMeth := (yX8_refusesAttack, cX8_refusesAttack, 3, some .int)
abbrev mX8_attack : MMeth := (yX8_attack, cX8_attack, 4, some .int)
abbrev mX8_ends : MMeth := (yX8_ends, cX8_ends, 4, some .int)
abbrev mX8_endTurn : MMeth := (yX8_endTurn, cX8_endTurn, 1, some .int)
abbrev mX8_type : MMeth := (yX8_type, cX8_type, 2, some .int)
abbrev mX8_clearText : MMeth := (yX8_clearText, cX8_clearText, 2, some .int)
abbrev mX8_sign : MMeth := (yX8_sign, cX8_sign, 1, some .int)
abbrev mX8_takes : MMeth := (yX8_takes, cX8_takes, 4, some .int)
abbrev mX8_readsOrder : MMeth := (yX8_readsOrder, cX8_readsOrder, 5, none)
abbrev mX8_reads : MMeth := (yX8_reads, cX8_reads, 1, some .int)
abbrev mX8_does : MMeth := (yX8_does, cX8_does, 5, some .int)
abbrev mX8_perform : MMeth := (yX8_perform, cX8_perform, 4, some .int)
abbrev mX8_undo : MMeth := (yX8_undo, cX8_undo, 2, some .int)
abbrev mX8_keep : MMeth := (yX8_keep, cX8_keep, 2, some .int)
abbrev mX8_restore : MMeth := (yX8_restore, cX8_restore, 2, some .int)
abbrev mX8_besides : MMeth := (yX8_besides, cX8_besides, 4, some .int)
abbrev mX8_hex : MMeth := (yX8_hex, cX8_hex, 3, some .int)
abbrev mX8_beside : MMeth := (yX8_beside, cX8_beside, 3, some .int)
abbrev mX8_distance : MMeth := (yX8_distance, cX8_distance, 3, some .int)
abbrev mX8_reaches : MMeth := (yX8_reaches, cX8_reaches, 4, some .int)
abbrev mX8_unit : MMeth := (yX8_unit, cX8_unit, 3, some .int)
abbrev mX8_cost : MMeth := (yX8_cost, cX8_cost, 3, some .int)
abbrev mX8_would : MMeth := (yX8_would, cX8_would, 7, some .int)
abbrev mX8_besieged : MMeth := (yX8_besieged, cX8_besieged, 6, some .int)
abbrev mX8_unitsOf : MMeth := (yX8_unitsOf, cX8_unitsOf, 6, some .int)
abbrev mX8_seen : MMeth := (yX8_seen, cX8_seen, 4, some .int)
abbrev mX8_count : MMeth := (yX8_count, cX8_count, 2, some .int)
abbrev mJ6_bitCount_0f7a4 : MMeth := (yJ6_bitCount_0f7a4, cJ6_bitCount_0f7a4, 1, some .int)
abbrev mJ9_abs_0f7a4 : MMeth := (yJ9_abs_0f7a4, cJ9_abs_0f7a4, 1, some .int)
abbrev mJ9_max_7cf53 : MMeth := (yJ9_max_7cf53, cJ9_max_7cf53, 2, some .int)
abbrev mJ9_min_7cf53 : MMeth := (yJ9_min_7cf53, cJ9_min_7cf53, 2, some .int)
abbrev mJ7_fill_53178 : MMeth := (yJ7_fill_53178, cJ7_fill_53178, 4, none)
theorem fl_X0_9 : mmFL RX0 9 0 0 := ⟨RX0, TX0, 1, rfl, by decide, inX0, mmW_1 37 rfl rfl⟩
theorem fl_X5_39 : mmFL RX5 39 0 0 := ⟨RX0, TX0, 1, rfl, by decide, inX0, mmW_1 38 rfl rfl⟩
theorem fl_X6_44 : mmFL RX6 44 0 0 := ⟨RX0, TX0, 1, rfl, by decide, inX0, mmW_1 39 rfl rfl⟩
theorem fl_X7_83 : mmFL RX7 83 0 0 := ⟨RX0, TX0, 1, rfl, by decide, inX0, mmW_1 40 rfl rfl⟩
theorem fl_X4_97 : mmFL RX4 97 0 0 := ⟨RX0, TX0, 1, rfl, by decide, inX0, mmW_1 41 rfl rfl⟩
theorem fl_X4_45 : mmFL RX4 45 4 0 := ⟨RX4, TX4, 14, rfl, by decide, inX4, mmW_1 55 rfl rfl⟩
theorem fl_X4_9 : mmFL RX4 9 4 1 := ⟨RX4, TX4, 14, rfl, by decide, inX4, mmW_1 56 rfl rfl⟩
theorem fl_X7_72 : mmFL RX7 72 4 1 := ⟨RX4, TX4, 14, rfl, by decide, inX4, mmW_1 57 rfl rfl⟩
theorem fl_X6_59 : mmFL RX6 59 4 1 := ⟨RX4, TX4, 14, rfl, by decide, inX4, mmW_1 58 rfl rfl⟩
theorem fl_X1_82 : mmFL RX1 82 4 1 := ⟨RX4, TX4, 14, rfl, by decide, inX4, mmW_1 59 rfl rfl⟩
theorem fl_X4_15 : mmFL RX4 15 4 2 := ⟨RX4, TX4, 14, rfl, by decide, inX4, mmW_1 60 rfl rfl⟩
theorem fl_X7_90 : mmFL RX7 90 4 2 := ⟨RX4, TX4, 14, rfl, by decide, inX4, mmW_1 61 rfl rfl⟩
theorem fl_X4_18 : mmFL RX4 18 4 3 := ⟨RX4, TX4, 14, rfl, by decide, inX4, mmW_1 62 rfl rfl⟩
theorem fl_X5_32 : mmFL RX5 32 4 3 := ⟨RX4, TX4, 14, rfl, by decide, inX4, mmW_1 63 rfl rfl⟩
theorem fl_X7_107 : mmFL RX7 107 4 3 := ⟨RX4, TX4, 14, rfl, by decide, inX4, mmW_1 64 rfl rfl⟩
theorem fl_X4_21 : mmFL RX4 21 4 4 := ⟨RX4, TX4, 14, rfl, by decide, inX4, mmW_1 65 rfl rfl⟩
theorem fl_X7_196 : mmFL RX7 196 4 4 := ⟨RX4, TX4, 14, rfl, by decide, inX4, mmW_1 66 rfl rfl⟩
theorem fl_X4_24 : mmFL RX4 24 4 5 := ⟨RX4, TX4, 14, rfl, by decide, inX4, mmW_1 67 rfl rfl⟩
theorem fl_X5_27 : mmFL RX5 27 4 5 := ⟨RX4, TX4, 14, rfl, by decide, inX4, mmW_1 68 rfl rfl⟩
theorem fl_X7_117 : mmFL RX7 117 4 5 := ⟨RX4, TX4, 14, rfl, by decide, inX4, mmW_1 69 rfl rfl⟩
theorem fl_X4_61 : mmFL RX4 61 4 6 := ⟨RX4, TX4, 14, rfl, by decide, inX4, mmW_1 70 rfl rfl⟩
theorem fp_X4_61 : mmFP RX4 61 4 6 .int := ⟨RX4, TX4, 14, rfl, by decide, inX4, mmW_1 70 rfl rfl, rfl, tyX4_ok 6 (by decide), ⟨tyX4, tyX4_ok⟩, nmX4⟩
theorem fl_X7_120 : mmFL RX7 120 4 6 := ⟨RX4, TX4, 14, rfl, by decide, inX4, mmW_1 71 rfl rfl⟩
theorem fp_X7_120 : mmFP RX7 120 4 6 .int := ⟨RX4, TX4, 14, rfl, by decide, inX4, mmW_1 71 rfl rfl, rfl, tyX4_ok 6 (by decide), ⟨tyX4, tyX4_ok⟩, nmX4⟩
theorem fl_X4_27 : mmFL RX4 27 4 7 := ⟨RX4, TX4, 14, rfl, by decide, inX4, mmW_1 72 rfl rfl⟩
theorem fl_X1_17 : mmFL RX1 17 4 7 := ⟨RX4, TX4, 14, rfl, by decide, inX4, mmW_1 73 rfl rfl⟩
theorem fl_X6_24 : mmFL RX6 24 4 7 := ⟨RX4, TX4, 14, rfl, by decide, inX4, mmW_1 74 rfl rfl⟩
theorem fl_X7_165 : mmFL RX7 165 4 7 := ⟨RX4, TX4, 14, rfl, by decide, inX4, mmW_1 75 rfl rfl⟩
theorem fl_X4_30 : mmFL RX4 30 4 8 := ⟨RX4, TX4, 14, rfl, by decide, inX4, mmW_1 76 rfl rfl⟩
theorem fl_X1_47 : mmFL RX1 47 4 8 := ⟨RX4, TX4, 14, rfl, by decide, inX4, mmW_1 77 rfl rfl⟩
theorem fl_X7_234 : mmFL RX7 234 4 8 := ⟨RX4, TX4, 14, rfl, by decide, inX4, mmW_1 78 rfl rfl⟩
theorem fl_X4_33 : mmFL RX4 33 4 9 := ⟨RX4, TX4, 14, rfl, by decide, inX4, mmW_1 79 rfl rfl⟩
theorem fl_X6_19 : mmFL RX6 19 4 9 := ⟨RX4, TX4, 14, rfl, by decide, inX4, mmW_1 80 rfl rfl⟩
theorem fl_X1_29 : mmFL RX1 29 4 9 := ⟨RX4, TX4, 14, rfl, by decide, inX4, mmW_1 81 rfl rfl⟩
theorem fl_X7_171 : mmFL RX7 171 4 9 := ⟨RX4, TX4, 14, rfl, by decide, inX4, mmW_1 82 rfl rfl⟩
theorem fl_X4_36 : mmFL RX4 36 4 10 := ⟨RX4, TX4, 14, rfl, by decide, inX4, mmW_1 83 rfl rfl⟩
theorem fl_X6_33 : mmFL RX6 33 4 10 := ⟨RX4, TX4, 14, rfl, by decide, inX4, mmW_1 84 rfl rfl⟩
theorem fl_X7_180 : mmFL RX7 180 4 10 := ⟨RX4, TX4, 14, rfl, by decide, inX4, mmW_1 85 rfl rfl⟩
theorem fl_X4_39 : mmFL RX4 39 4 11 := ⟨RX4, TX4, 14, rfl, by decide, inX4, mmW_1 86 rfl rfl⟩
theorem fl_X7_190 : mmFL RX7 190 4 11 := ⟨RX4, TX4, 14, rfl, by decide, inX4, mmW_1 87 rfl rfl⟩
theorem fl_X4_42 : mmFL RX4 42 4 12 := ⟨RX4, TX4, 14, rfl, by decide, inX4, mmW_1 88 rfl rfl⟩
theorem fl_X7_231 : mmFL RX7 231 4 12 := ⟨RX4, TX4, 14, rfl, by decide, inX4, mmW_1 89 rfl rfl⟩
theorem fl_X4_65 : mmFL RX4 65 4 13 := ⟨RX4, TX4, 14, rfl, by decide, inX4, mmW_1 90 rfl rfl⟩
theorem fp_X4_65 : mmFP RX4 65 4 13 .int := ⟨RX4, TX4, 14, rfl, by decide, inX4, mmW_1 90 rfl rfl, rfl, tyX4_ok 13 (by decide), ⟨tyX4, tyX4_ok⟩, nmX4⟩
theorem fl_X7_215 : mmFL RX7 215 4 13 := ⟨RX4, TX4, 14, rfl, by decide, inX4, mmW_1 91 rfl rfl⟩
theorem fp_X7_215 : mmFP RX7 215 4 13 .int := ⟨RX4, TX4, 14, rfl, by decide, inX4, mmW_1 91 rfl rfl, rfl, tyX4_ok 13 (by decide), ⟨tyX4, tyX4_ok⟩, nmX4⟩
theorem fl_X2_11 : mmFL RX2 11 2 0 := ⟨RX2, TX2, 3, rfl, by decide, inX2, mmW_1 130 rfl rfl⟩
theorem fl_X2_18 : mmFL RX2 18 2 1 := ⟨RX2, TX2, 3, rfl, by decide, inX2, mmW_1 131 rfl rfl⟩
theorem fp_X2_18 : mmFP RX2 18 2 1 .int := ⟨RX2, TX2, 3, rfl, by decide, inX2, mmW_1 131 rfl rfl, rfl, tyX2_ok 1 (by decide), ⟨tyX2, tyX2_ok⟩, nmX2⟩
theorem fl_X2_26 : mmFL RX2 26 2 2 := ⟨RX2, TX2, 3, rfl, by decide, inX2, mmW_1 132 rfl rfl⟩
theorem fp_X2_26 : mmFP RX2 26 2 2 .int := ⟨RX2, TX2, 3, rfl, by decide, inX2, mmW_1 132 rfl rfl, rfl, tyX2_ok 2 (by decide), ⟨tyX2, tyX2_ok⟩, nmX2⟩
theorem fl_X7_248 : mmFL RX7 248 2 2 := ⟨RX2, TX2, 3, rfl, by decide, inX2, mmW_1 133 rfl rfl⟩
theorem fp_X7_248 : mmFP RX7 248 2 2 .int := ⟨RX2, TX2, 3, rfl, by decide, inX2, mmW_1 133 rfl rfl, rfl, tyX2_ok 2 (by decide), ⟨tyX2, tyX2_ok⟩, nmX2⟩
theorem fl_X3_9 : mmFL RX3 9 3 0 := ⟨RX3, TX3, 9, rfl, by decide, inX3, mmW_1 147 rfl rfl⟩
theorem fl_X3_23 : mmFL RX3 23 3 1 := ⟨RX3, TX3, 9, rfl, by decide, inX3, mmW_1 148 rfl rfl⟩
theorem fp_X3_23 : mmFP RX3 23 3 1 .int := ⟨RX3, TX3, 9, rfl, by decide, inX3, mmW_1 148 rfl rfl, rfl, tyX3_ok 1 (by decide), ⟨tyX3, tyX3_ok⟩, nmX3⟩
theorem fl_X7_241 : mmFL RX7 241 3 1 := ⟨RX3, TX3, 9, rfl, by decide, inX3, mmW_1 149 rfl rfl⟩
theorem fp_X7_241 : mmFP RX7 241 3 1 .int := ⟨RX3, TX3, 9, rfl, by decide, inX3, mmW_1 149 rfl rfl, rfl, tyX3_ok 1 (by decide), ⟨tyX3, tyX3_ok⟩, nmX3⟩
theorem fl_X3_27 : mmFL RX3 27 3 2 := ⟨RX3, TX3, 9, rfl, by decide, inX3, mmW_1 150 rfl rfl⟩
theorem fp_X3_27 : mmFP RX3 27 3 2 .int := ⟨RX3, TX3, 9, rfl, by decide, inX3, mmW_1 150 rfl rfl, rfl, tyX3_ok 2 (by decide), ⟨tyX3, tyX3_ok⟩, nmX3⟩
theorem fl_X7_150 : mmFL RX7 150 3 2 := ⟨RX3, TX3, 9, rfl, by decide, inX3, mmW_1 151 rfl rfl⟩
theorem fp_X7_150 : mmFP RX7 150 3 2 .int := ⟨RX3, TX3, 9, rfl, by decide, inX3, mmW_1 151 rfl rfl, rfl, tyX3_ok 2 (by decide), ⟨tyX3, tyX3_ok⟩, nmX3⟩
theorem fl_X3_13 : mmFL RX3 13 3 3 := ⟨RX3, TX3, 9, rfl, by decide, inX3, mmW_1 152 rfl rfl⟩
theorem fl_X7_153 : mmFL RX7 153 3 3 := ⟨RX3, TX3, 9, rfl, by decide, inX3, mmW_1 153 rfl rfl⟩
theorem fl_X3_16 : mmFL RX3 16 3 4 := ⟨RX3, TX3, 9, rfl, by decide, inX3, mmW_1 154 rfl rfl⟩
theorem fl_X7_157 : mmFL RX7 157 3 4 := ⟨RX3, TX3, 9, rfl, by decide, inX3, mmW_1 155 rfl rfl⟩
theorem fl_X3_20 : mmFL RX3 20 3 5 := ⟨RX3, TX3, 9, rfl, by decide, inX3, mmW_1 156 rfl rfl⟩
theorem fl_X7_159 : mmFL RX7 159 3 5 := ⟨RX3, TX3, 9, rfl, by decide, inX3, mmW_1 157 rfl rfl⟩
theorem fl_X3_62 : mmFL RX3 62 3 6 := ⟨RX3, TX3, 9, rfl, by decide, inX3, mmW_1 158 rfl rfl⟩
theorem fp_X3_62 : mmFP RX3 62 3 6 .int := ⟨RX3, TX3, 9, rfl, by decide, inX3, mmW_1 158 rfl rfl, rfl, tyX3_ok 6 (by decide), ⟨tyX3, tyX3_ok⟩, nmX3⟩
theorem fl_X3_55 : mmFL RX3 55 3 7 := ⟨RX3, TX3, 9, rfl, by decide, inX3, mmW_1 159 rfl rfl⟩
theorem fp_X3_55 : mmFP RX3 55 3 7 .char := ⟨RX3, TX3, 9, rfl, by decide, inX3, mmW_1 159 rfl rfl, rfl, tyX3_ok 7 (by decide), ⟨tyX3, tyX3_ok⟩, nmX3⟩
theorem fl_X3_65 : mmFL RX3 65 3 8 := ⟨RX3, TX3, 9, rfl, by decide, inX3, mmW_1 160 rfl rfl⟩
theorem fp_X3_65 : mmFP RX3 65 3 8 .int := ⟨RX3, TX3, 9, rfl, by decide, inX3, mmW_1 160 rfl rfl, rfl, tyX3_ok 8 (by decide), ⟨tyX3, tyX3_ok⟩, nmX3⟩
theorem fl_X6_15 : mmFL RX6 15 6 0 := ⟨RX6, TX6, 2, rfl, by decide, inX6, mmW_1 187 rfl rfl⟩
theorem fl_X6_9 : mmFL RX6 9 6 1 := ⟨RX6, TX6, 2, rfl, by decide, inX6, mmW_1 188 rfl rfl⟩
theorem fl_X7_183 : mmFL RX7 183 6 1 := ⟨RX6, TX6, 2, rfl, by decide, inX6, mmW_1 189 rfl rfl⟩
theorem fl_X5_19 : mmFL RX5 19 5 0 := ⟨RX5, TX5, 3, rfl, by decide, inX5, mmW_1 201 rfl rfl⟩
theorem fl_X5_9 : mmFL RX5 9 5 1 := ⟨RX5, TX5, 3, rfl, by decide, inX5, mmW_1 202 rfl rfl⟩
theorem fl_X7_271 : mmFL RX7 271 5 1 := ⟨RX5, TX5, 3, rfl, by decide, inX5, mmW_1 203 rfl rfl⟩
theorem fl_X5_15 : mmFL RX5 15 5 2 := ⟨RX5, TX5, 3, rfl, by decide, inX5, mmW_1 204 rfl rfl⟩
theorem fl_X1_7 : mmFL RX1 7 1 0 := ⟨RX1, TX1, 6, rfl, by decide, inX1, mmW_1 219 rfl rfl⟩
theorem fl_X1_13 : mmFL RX1 13 1 1 := ⟨RX1, TX1, 6, rfl, by decide, inX1, mmW_1 220 rfl rfl⟩
theorem fl_X1_36 : mmFL RX1 36 1 2 := ⟨RX1, TX1, 6, rfl, by decide, inX1, mmW_1 221 rfl rfl⟩
theorem fp_X1_36 : mmFP RX1 36 1 2 .int := ⟨RX1, TX1, 6, rfl, by decide, inX1, mmW_1 221 rfl rfl, rfl, tyX1_ok 2 (by decide), ⟨tyX1, tyX1_ok⟩, nmX1⟩
theorem fl_X7_278 : mmFL RX7 278 1 2 := ⟨RX1, TX1, 6, rfl, by decide, inX1, mmW_1 222 rfl rfl⟩
theorem fp_X7_278 : mmFP RX7 278 1 2 .int := ⟨RX1, TX1, 6, rfl, by decide, inX1, mmW_1 222 rfl rfl, rfl, tyX1_ok 2 (by decide), ⟨tyX1, tyX1_ok⟩, nmX1⟩
theorem fl_X1_44 : mmFL RX1 44 1 3 := ⟨RX1, TX1, 6, rfl, by decide, inX1, mmW_1 223 rfl rfl⟩
theorem fp_X1_44 : mmFP RX1 44 1 3 .int := ⟨RX1, TX1, 6, rfl, by decide, inX1, mmW_1 223 rfl rfl, rfl, tyX1_ok 3 (by decide), ⟨tyX1, tyX1_ok⟩, nmX1⟩
theorem fl_X7_281 : mmFL RX7 281 1 3 := ⟨RX1, TX1, 6, rfl, by decide, inX1, mmW_1 224 rfl rfl⟩
theorem fp_X7_281 : mmFP RX7 281 1 3 .int := ⟨RX1, TX1, 6, rfl, by decide, inX1, mmW_1 224 rfl rfl, rfl, tyX1_ok 3 (by decide), ⟨tyX1, tyX1_ok⟩, nmX1⟩
theorem fl_X1_50 : mmFL RX1 50 1 4 := ⟨RX1, TX1, 6, rfl, by decide, inX1, mmW_1 225 rfl rfl⟩
theorem fp_X1_50 : mmFP RX1 50 1 4 .int := ⟨RX1, TX1, 6, rfl, by decide, inX1, mmW_1 225 rfl rfl, rfl, tyX1_ok 4 (by decide), ⟨tyX1, tyX1_ok⟩, nmX1⟩
theorem fl_X7_203 : mmFL RX7 203 1 4 := ⟨RX1, TX1, 6, rfl, by decide, inX1, mmW_1 226 rfl rfl⟩
theorem fp_X7_203 : mmFP RX7 203 1 4 .int := ⟨RX1, TX1, 6, rfl, by decide, inX1, mmW_1 226 rfl rfl, rfl, tyX1_ok 4 (by decide), ⟨tyX1, tyX1_ok⟩, nmX1⟩
theorem fl_X1_53 : mmFL RX1 53 1 5 := ⟨RX1, TX1, 6, rfl, by decide, inX1, mmW_1 227 rfl rfl⟩
theorem fp_X1_53 : mmFP RX1 53 1 5 .int := ⟨RX1, TX1, 6, rfl, by decide, inX1, mmW_1 227 rfl rfl, rfl, tyX1_ok 5 (by decide), ⟨tyX1, tyX1_ok⟩, nmX1⟩
theorem fl_X7_209 : mmFL RX7 209 1 5 := ⟨RX1, TX1, 6, rfl, by decide, inX1, mmW_1 228 rfl rfl⟩
theorem fp_X7_209 : mmFP RX7 209 1 5 .int := ⟨RX1, TX1, 6, rfl, by decide, inX1, mmW_1 228 rfl rfl, rfl, tyX1_ok 5 (by decide), ⟨tyX1, tyX1_ok⟩, nmX1⟩
theorem fl_X7_10 : mmFL RX7 10 7 0 := ⟨RX7, TX7, 10, rfl, by decide, inX7, mmW_2 2 rfl rfl⟩
theorem fl_X7_21 : mmFL RX7 21 7 1 := ⟨RX7, TX7, 10, rfl, by decide, inX7, mmW_2 3 rfl rfl⟩
theorem fl_X7_25 : mmFL RX7 25 7 2 := ⟨RX7, TX7, 10, rfl, by decide, inX7, mmW_2 4 rfl rfl⟩
theorem fl_X7_28 : mmFL RX7 28 7 3 := ⟨RX7, TX7, 10, rfl, by decide, inX7, mmW_2 5 rfl rfl⟩
theorem fl_X7_251 : mmFL RX7 251 7 4 := ⟨RX7, TX7, 10, rfl, by decide, inX7, mmW_2 6 rfl rfl⟩
theorem fp_X7_251 : mmFP RX7 251 7 4 .boolean := ⟨RX7, TX7, 10, rfl, by decide, inX7, mmW_2 6 rfl rfl, rfl, tyX7_ok 4 (by decide), ⟨tyX7, tyX7_ok⟩, nmX7⟩
theorem fl_X7_34 : mmFL RX7 34 7 5 := ⟨RX7, TX7, 10, rfl, by decide, inX7, mmW_2 7 rfl rfl⟩
theorem fl_X7_41 : mmFL RX7 41 7 6 := ⟨RX7, TX7, 10, rfl, by decide, inX7, mmW_2 8 rfl rfl⟩
theorem fl_X7_48 : mmFL RX7 48 7 7 := ⟨RX7, TX7, 10, rfl, by decide, inX7, mmW_2 9 rfl rfl⟩
theorem fl_X7_55 : mmFL RX7 55 7 8 := ⟨RX7, TX7, 10, rfl, by decide, inX7, mmW_2 10 rfl rfl⟩
theorem fl_X7_64 : mmFL RX7 64 7 9 := ⟨RX7, TX7, 10, rfl, by decide, inX7, mmW_2 11 rfl rfl⟩
theorem fl_X8_44 : mmFL RX8 44 8 0 := ⟨RX8, TX8, 18, rfl, by decide, inX8, mmW_3 166 rfl rfl⟩
theorem fp_X8_44 : mmFP RX8 44 8 0 .int := ⟨RX8, TX8, 18, rfl, by decide, inX8, mmW_3 166 rfl rfl, rfl, tyX8_ok 0 (by decide), ⟨tyX8, tyX8_ok⟩, nmX8⟩
theorem fl_X8_7 : mmFL RX8 7 8 1 := ⟨RX8, TX8, 18, rfl, by decide, inX8, mmW_3 167 rfl rfl⟩
theorem fl_X8_13 : mmFL RX8 13 8 2 := ⟨RX8, TX8, 18, rfl, by decide, inX8, mmW_3 168 rfl rfl⟩
theorem fl_X8_16 : mmFL RX8 16 8 3 := ⟨RX8, TX8, 18, rfl, by decide, inX8, mmW_3 169 rfl rfl⟩
theorem fl_X8_56 : mmFL RX8 56 8 4 := ⟨RX8, TX8, 18, rfl, by decide, inX8, mmW_3 170 rfl rfl⟩
theorem fp_X8_56 : mmFP RX8 56 8 4 .int := ⟨RX8, TX8, 18, rfl, by decide, inX8, mmW_3 170 rfl rfl, rfl, tyX8_ok 4 (by decide), ⟨tyX8, tyX8_ok⟩, nmX8⟩
theorem fl_X8_19 : mmFL RX8 19 8 5 := ⟨RX8, TX8, 18, rfl, by decide, inX8, mmW_3 171 rfl rfl⟩
theorem fl_X8_200 : mmFL RX8 200 8 6 := ⟨RX8, TX8, 18, rfl, by decide, inX8, mmW_3 172 rfl rfl⟩
theorem fp_X8_200 : mmFP RX8 200 8 6 .boolean := ⟨RX8, TX8, 18, rfl, by decide, inX8, mmW_3 172 rfl rfl, rfl, tyX8_ok 6 (by decide), ⟨tyX8, tyX8_ok⟩, nmX8⟩
theorem fl_X8_22 : mmFL RX8 22 8 7 := ⟨RX8, TX8, 18, rfl, by decide, inX8, mmW_3 173 rfl rfl⟩
theorem fl_X8_166 : mmFL RX8 166 8 8 := ⟨RX8, TX8, 18, rfl, by decide, inX8, mmW_3 174 rfl rfl⟩
theorem fp_X8_166 : mmFP RX8 166 8 8 .int := ⟨RX8, TX8, 18, rfl, by decide, inX8, mmW_3 174 rfl rfl, rfl, tyX8_ok 8 (by decide), ⟨tyX8, tyX8_ok⟩, nmX8⟩
theorem fl_X8_25 : mmFL RX8 25 8 9 := ⟨RX8, TX8, 18, rfl, by decide, inX8, mmW_3 175 rfl rfl⟩
theorem fl_X8_28 : mmFL RX8 28 8 10 := ⟨RX8, TX8, 18, rfl, by decide, inX8, mmW_3 176 rfl rfl⟩
theorem fl_X8_32 : mmFL RX8 32 8 11 := ⟨RX8, TX8, 18, rfl, by decide, inX8, mmW_3 177 rfl rfl⟩
theorem fl_X8_35 : mmFL RX8 35 8 12 := ⟨RX8, TX8, 18, rfl, by decide, inX8, mmW_3 178 rfl rfl⟩
theorem fl_X8_38 : mmFL RX8 38 8 13 := ⟨RX8, TX8, 18, rfl, by decide, inX8, mmW_3 179 rfl rfl⟩
theorem fl_X8_169 : mmFL RX8 169 8 14 := ⟨RX8, TX8, 18, rfl, by decide, inX8, mmW_3 180 rfl rfl⟩
theorem fp_X8_169 : mmFP RX8 169 8 14 .int := ⟨RX8, TX8, 18, rfl, by decide, inX8, mmW_3 180 rfl rfl, rfl, tyX8_ok 14 (by decide), ⟨tyX8, tyX8_ok⟩, nmX8⟩
theorem fl_X8_172 : mmFL RX8 172 8 15 := ⟨RX8, TX8, 18, rfl, by decide, inX8, mmW_3 181 rfl rfl⟩
theorem fp_X8_172 : mmFP RX8 172 8 15 .boolean := ⟨RX8, TX8, 18, rfl, by decide, inX8, mmW_3 181 rfl rfl, rfl, tyX8_ok 15 (by decide), ⟨tyX8, tyX8_ok⟩, nmX8⟩
theorem fl_X8_41 : mmFL RX8 41 8 16 := ⟨RX8, TX8, 18, rfl, by decide, inX8, mmW_3 182 rfl rfl⟩
theorem fl_X8_182 : mmFL RX8 182 8 17 := ⟨RX8, TX8, 18, rfl, by decide, inX8, mmW_3 183 rfl rfl⟩
theorem fp_X8_182 : mmFP RX8 182 8 17 .int := ⟨RX8, TX8, 18, rfl, by decide, inX8, mmW_3 183 rfl rfl, rfl, tyX8_ok 17 (by decide), ⟨tyX8, tyX8_ok⟩, nmX8⟩
theorem cs_X0_13 : mmCS RX0 13 mX0_stepFrom 2 := ⟨mmW_1 28 rfl rfl, mmW_1 2 rfl rfl, mmW_1 30 rfl rfl, by decide, by decide +kernel, by decide, mmW_1 29 rfl rfl⟩
theorem cs_X4_49 : mmCS RX4 49 mJ7_fill_53178 2 := ⟨mmW_1 52 rfl rfl, mmW_1 4 rfl rfl, mmW_1 54 rfl rfl, by decide, by decide +kernel, by decide, mmW_1 53 rfl rfl⟩
theorem cv_L_13 : mmCV RL 13 mX7_ground 2 7 := ⟨mmW_2 33 rfl rfl, mmW_1 1 rfl rfl, mmW_2 36 rfl rfl, by decide, by decide +kernel, by decide, mmW_2 34 rfl rfl, mmW_2 35 rfl rfl, ⟨_, _, rfl⟩⟩
theorem cs_X7_68 : mmCS RX7 68 mX0_isHex 1 := ⟨mmW_2 37 rfl rfl, mmW_1 2 rfl rfl, mmW_2 39 rfl rfl, by decide, by decide +kernel, by decide, mmW_2 38 rfl rfl⟩
theorem cv_X7_76 : mmCV RX7 76 mX2_record 1 2 := ⟨mmW_2 40 rfl rfl, mmW_1 5 rfl rfl, mmW_2 43 rfl rfl, by decide, by decide +kernel, by decide, mmW_2 41 rfl rfl, mmW_2 42 rfl rfl, ⟨_, _, rfl⟩⟩
theorem cv_X2_22 : mmCV RX2 22 mX4_copyFrom 1 4 := ⟨mmW_2 44 rfl rfl, mmW_1 3 rfl rfl, mmW_2 47 rfl rfl, by decide, by decide +kernel, by decide, mmW_2 45 rfl rfl, mmW_2 46 rfl rfl, ⟨_, _, rfl⟩⟩
theorem cs_X2_29 : mmCS RX2 29 mJ9_min_7cf53 2 := ⟨mmW_2 51 rfl rfl, mmW_1 12 rfl rfl, mmW_2 53 rfl rfl, by decide, by decide +kernel, by decide, mmW_2 52 rfl rfl⟩
theorem cv_L_18 : mmCV RL 18 mX7_river 3 7 := ⟨mmW_2 54 rfl rfl, mmW_1 1 rfl rfl, mmW_2 57 rfl rfl, by decide, by decide +kernel, by decide, mmW_2 55 rfl rfl, mmW_2 56 rfl rfl, ⟨_, _, rfl⟩⟩
theorem cs_X7_80 : mmCS RX7 80 mX0_isDirection 1 := ⟨mmW_2 58 rfl rfl, mmW_1 2 rfl rfl, mmW_2 60 rfl rfl, by decide, by decide +kernel, by decide, mmW_2 59 rfl rfl⟩
theorem cv_X7_86 : mmCV RX7 86 mX4_hasRiver 2 4 := ⟨mmW_2 61 rfl rfl, mmW_1 3 rfl rfl, mmW_2 64 rfl rfl, by decide, by decide +kernel, by decide, mmW_2 62 rfl rfl, mmW_2 63 rfl rfl, ⟨_, _, rfl⟩⟩
theorem cs_X7_93 : mmCS RX7 93 mX0_opposite 1 := ⟨mmW_2 65 rfl rfl, mmW_1 2 rfl rfl, mmW_2 67 rfl rfl, by decide, by decide +kernel, by decide, mmW_2 66 rfl rfl⟩
theorem cv_X7_97 : mmCV RX7 97 mX4_riverCount 0 4 := ⟨mmW_2 68 rfl rfl, mmW_1 3 rfl rfl, mmW_2 71 rfl rfl, by decide, by decide +kernel, by decide, mmW_2 69 rfl rfl, mmW_2 70 rfl rfl, ⟨_, _, rfl⟩⟩
theorem cs_X4_115 : mmCS RX4 115 mJ6_bitCount_0f7a4 1 := ⟨mmW_2 72 rfl rfl, mmW_1 13 rfl rfl, mmW_2 74 rfl rfl, by decide, by decide +kernel, by decide, mmW_2 73 rfl rfl⟩
theorem cv_L_23 : mmCV RL 23 mX7_fort 2 7 := ⟨mmW_2 78 rfl rfl, mmW_1 1 rfl rfl, mmW_2 81 rfl rfl, by decide, by decide +kernel, by decide, mmW_2 79 rfl rfl, mmW_2 80 rfl rfl, ⟨_, _, rfl⟩⟩
theorem cs_X7_101 : mmCS RX7 101 mX7_isSide 1 := ⟨mmW_2 82 rfl rfl, mmW_1 1 rfl rfl, mmW_2 84 rfl rfl, by decide, by decide +kernel, by decide, mmW_2 83 rfl rfl⟩
theorem cv_X7_104 : mmCV RX7 104 mX4_hasFort 1 4 := ⟨mmW_2 85 rfl rfl, mmW_1 3 rfl rfl, mmW_2 88 rfl rfl, by decide, by decide +kernel, by decide, mmW_2 86 rfl rfl, mmW_2 87 rfl rfl, ⟨_, _, rfl⟩⟩
theorem cv_X7_110 : mmCV RX7 110 mX4_giveFortToUnit 1 4 := ⟨mmW_2 89 rfl rfl, mmW_1 3 rfl rfl, mmW_2 92 rfl rfl, by decide, by decide +kernel, by decide, mmW_2 90 rfl rfl, mmW_2 91 rfl rfl, ⟨_, _, rfl⟩⟩
theorem cv_X4_80 : mmCV RX4 80 mX4_hasFort 1 4 := ⟨mmW_2 93 rfl rfl, mmW_1 3 rfl rfl, mmW_2 88 rfl rfl, by decide, by decide +kernel, by decide, mmW_2 86 rfl rfl, mmW_2 87 rfl rfl, ⟨_, _, rfl⟩⟩
theorem cv_X4_83 : mmCV RX4 83 mX4_sideOn 1 4 := ⟨mmW_2 94 rfl rfl, mmW_1 3 rfl rfl, mmW_2 97 rfl rfl, by decide, by decide +kernel, by decide, mmW_2 95 rfl rfl, mmW_2 96 rfl rfl, ⟨_, _, rfl⟩⟩
theorem cv_X7_114 : mmCV RX7 114 mX4_fortCount 1 4 := ⟨mmW_2 98 rfl rfl, mmW_1 3 rfl rfl, mmW_2 101 rfl rfl, by decide, by decide +kernel, by decide, mmW_2 99 rfl rfl, mmW_2 100 rfl rfl, ⟨_, _, rfl⟩⟩
theorem cv_L_27 : mmCV RL 27 mX7_base 2 7 := ⟨mmW_2 102 rfl rfl, mmW_1 1 rfl rfl, mmW_2 105 rfl rfl, by decide, by decide +kernel, by decide, mmW_2 103 rfl rfl, mmW_2 104 rfl rfl, ⟨_, _, rfl⟩⟩
theorem cv_L_31 : mmCV RL 31 mX7_place 3 7 := ⟨mmW_2 106 rfl rfl, mmW_1 1 rfl rfl, mmW_2 109 rfl rfl, by decide, by decide +kernel, by decide, mmW_2 107 rfl rfl, mmW_2 108 rfl rfl, ⟨_, _, rfl⟩⟩
theorem cv_X7_124 : mmCV RX7 124 mX4_sideOn 1 4 := ⟨mmW_2 110 rfl rfl, mmW_1 3 rfl rfl, mmW_2 97 rfl rfl, by decide, by decide +kernel, by decide, mmW_2 95 rfl rfl, mmW_2 96 rfl rfl, ⟨_, _, rfl⟩⟩
theorem cv_X7_127 : mmCV RX7 127 mX4_addUnit 3 4 := ⟨mmW_2 111 rfl rfl, mmW_1 3 rfl rfl, mmW_2 114 rfl rfl, by decide, by decide +kernel, by decide, mmW_2 112 rfl rfl, mmW_2 113 rfl rfl, ⟨_, _, rfl⟩⟩
theorem cv_X4_72 : mmCV RX4 72 mX4_stand 2 4 := ⟨mmW_2 115 rfl rfl, mmW_1 3 rfl rfl, mmW_2 118 rfl rfl, by decide, by decide +kernel, by decide, mmW_2 117 rfl rfl, mmW_p1 0 (q := (yX4_stand, _)) rfl rfl, ⟨_, _, rfl⟩⟩
theorem cv_X4_76 : mmCV RX4 76 mX4_giveFortToUnit 1 4 := ⟨mmW_2 119 rfl rfl, mmW_1 3 rfl rfl, mmW_2 92 rfl rfl, by decide, by decide +kernel, by decide, mmW_2 90 rfl rfl, mmW_2 91 rfl rfl, ⟨_, _, rfl⟩⟩
theorem cv_L_36 : mmCV RL 36 mX7_move 2 7 := ⟨mmW_2 120 rfl rfl, mmW_1 1 rfl rfl, mmW_2 123 rfl rfl, by decide, by decide +kernel, by decide, mmW_2 121 rfl rfl, mmW_2 122 rfl rfl, ⟨_, _, rfl⟩⟩
theorem cv_X7_131 : mmCV RX7 131 mX4_copyFrom 1 4 := ⟨mmW_2 124 rfl rfl, mmW_1 3 rfl rfl, mmW_2 47 rfl rfl, by decide, by decide +kernel, by decide, mmW_2 45 rfl rfl, mmW_2 46 rfl rfl, ⟨_, _, rfl⟩⟩
theorem cv_X7_134 : mmCV RX7 134 mX7_moveUnit 2 7 := ⟨mmW_2 125 rfl rfl, mmW_1 1 rfl rfl, mmW_2 128 rfl rfl, by decide, by decide +kernel, by decide, mmW_2 127 rfl rfl, mmW_p1 1 (q := (yX7_moveUnit, _)) rfl rfl, ⟨_, _, rfl⟩⟩
theorem cv_X7_162 : mmCV RX7 162 mX4_isUnit 1 4 := ⟨mmW_2 129 rfl rfl, mmW_1 3 rfl rfl, mmW_2 132 rfl rfl, by decide, by decide +kernel, by decide, mmW_2 130 rfl rfl, mmW_2 131 rfl rfl, ⟨_, _, rfl⟩⟩
theorem cv_X7_168 : mmCV RX7 168 mX4_sideInTurn 0 4 := ⟨mmW_2 133 rfl rfl, mmW_1 3 rfl rfl, mmW_2 136 rfl rfl, by decide, by decide +kernel, by decide, mmW_2 134 rfl rfl, mmW_2 135 rfl rfl, ⟨_, _, rfl⟩⟩
theorem cv_X7_172 : mmCV RX7 172 mX6_measure 2 6 := ⟨mmW_2 137 rfl rfl, mmW_1 7 rfl rfl, mmW_2 140 rfl rfl, by decide, by decide +kernel, by decide, mmW_2 138 rfl rfl, mmW_2 139 rfl rfl, ⟨_, _, rfl⟩⟩
theorem cs_X6_27 : mmCS RX6 27 mJ7_fill_53178 2 := ⟨mmW_2 141 rfl rfl, mmW_1 4 rfl rfl, mmW_1 54 rfl rfl, by decide, by decide +kernel, by decide, mmW_1 53 rfl rfl⟩
theorem cv_X6_36 : mmCV RX6 36 mX4_inZone 2 4 := ⟨mmW_2 142 rfl rfl, mmW_1 3 rfl rfl, mmW_2 145 rfl rfl, by decide, by decide +kernel, by decide, mmW_2 143 rfl rfl, mmW_2 144 rfl rfl, ⟨_, _, rfl⟩⟩
theorem cs_X4_100 : mmCS RX4 100 mX0_isHex 1 := ⟨mmW_2 146 rfl rfl, mmW_1 2 rfl rfl, mmW_2 39 rfl rfl, by decide, by decide +kernel, by decide, mmW_2 38 rfl rfl⟩
theorem cv_X6_40 : mmCV RX6 40 mX6_goOn 3 6 := ⟨mmW_2 147 rfl rfl, mmW_1 7 rfl rfl, mmW_2 150 rfl rfl, by decide, by decide +kernel, by decide, mmW_2 149 rfl rfl, mmW_p1 2 (q := (yX6_goOn, _)) rfl rfl, ⟨_, _, rfl⟩⟩
theorem cs_X6_47 : mmCS RX6 47 mX0_isHex 1 := ⟨mmW_2 151 rfl rfl, mmW_1 2 rfl rfl, mmW_2 39 rfl rfl, by decide, by decide +kernel, by decide, mmW_2 38 rfl rfl⟩
theorem cv_X6_51 : mmCV RX6 51 mX4_sideOn 1 4 := ⟨mmW_2 152 rfl rfl, mmW_1 3 rfl rfl, mmW_2 97 rfl rfl, by decide, by decide +kernel, by decide, mmW_2 95 rfl rfl, mmW_2 96 rfl rfl, ⟨_, _, rfl⟩⟩
theorem cs_X6_55 : mmCS RX6 55 mX6_costOfStep 4 := ⟨mmW_2 153 rfl rfl, mmW_1 7 rfl rfl, mmW_2 155 rfl rfl, by decide, by decide +kernel, by decide, mmW_2 154 rfl rfl⟩
theorem cv_X6_62 : mmCV RX6 62 mX4_hasRiver 2 4 := ⟨mmW_2 156 rfl rfl, mmW_1 3 rfl rfl, mmW_2 64 rfl rfl, by decide, by decide +kernel, by decide, mmW_2 62 rfl rfl, mmW_2 63 rfl rfl, ⟨_, _, rfl⟩⟩
theorem cv_X7_176 : mmCV RX7 176 mX6_canEndOn 2 6 := ⟨mmW_2 157 rfl rfl, mmW_1 7 rfl rfl, mmW_2 160 rfl rfl, by decide, by decide +kernel, by decide, mmW_2 158 rfl rfl, mmW_2 159 rfl rfl, ⟨_, _, rfl⟩⟩
theorem cv_X7_186 : mmCV RX7 186 mX4_shift 2 4 := ⟨mmW_2 161 rfl rfl, mmW_1 3 rfl rfl, mmW_2 164 rfl rfl, by decide, by decide +kernel, by decide, mmW_2 162 rfl rfl, mmW_2 163 rfl rfl, ⟨_, _, rfl⟩⟩
theorem cv_X7_138 : mmCV RX7 138 mX7_recordedIfDone 1 7 := ⟨mmW_2 165 rfl rfl, mmW_1 1 rfl rfl, mmW_2 168 rfl rfl, by decide, by decide +kernel, by decide, mmW_2 167 rfl rfl, mmW_p1 3 (q := (yX7_recordedIfDone, _)) rfl rfl, ⟨_, _, rfl⟩⟩
theorem cv_L_40 : mmCV RL 40 mX7_attack 2 7 := ⟨mmW_2 169 rfl rfl, mmW_1 1 rfl rfl, mmW_2 172 rfl rfl, by decide, by decide +kernel, by decide, mmW_2 170 rfl rfl, mmW_2 171 rfl rfl, ⟨_, _, rfl⟩⟩
theorem cv_X7_141 : mmCV RX7 141 mX7_strike 2 7 := ⟨mmW_2 173 rfl rfl, mmW_1 1 rfl rfl, mmW_2 176 rfl rfl, by decide, by decide +kernel, by decide, mmW_2 175 rfl rfl, mmW_p1 4 (q := (yX7_strike, _)) rfl rfl, ⟨_, _, rfl⟩⟩
theorem cv_X7_193 : mmCV RX7 193 mX7_canFight 2 7 := ⟨mmW_2 177 rfl rfl, mmW_1 1 rfl rfl, mmW_2 180 rfl rfl, by decide, by decide +kernel, by decide, mmW_2 179 rfl rfl, mmW_p1 5 (q := (yX7_canFight, _)) rfl rfl, ⟨_, _, rfl⟩⟩
theorem cv_X7_212 : mmCV RX7 212 mX0_directionTo 2 0 := ⟨mmW_2 181 rfl rfl, mmW_1 2 rfl rfl, mmW_2 184 rfl rfl, by decide, by decide +kernel, by decide, mmW_2 182 rfl rfl, mmW_2 183 rfl rfl, ⟨_, _, rfl⟩⟩
theorem cv_X7_199 : mmCV RX7 199 mX1_weigh 3 1 := ⟨mmW_2 185 rfl rfl, mmW_1 9 rfl rfl, mmW_2 188 rfl rfl, by decide, by decide +kernel, by decide, mmW_2 186 rfl rfl, mmW_2 187 rfl rfl, ⟨_, _, rfl⟩⟩
theorem cv_X1_23 : mmCV RX1 23 mX5_measure 2 5 := ⟨mmW_2 189 rfl rfl, mmW_1 8 rfl rfl, mmW_2 192 rfl rfl, by decide, by decide +kernel, by decide, mmW_2 190 rfl rfl, mmW_2 191 rfl rfl, ⟨_, _, rfl⟩⟩
theorem cs_X5_23 : mmCS RX5 23 mX5_isFree 3 := ⟨mmW_2 193 rfl rfl, mmW_1 8 rfl rfl, mmW_2 195 rfl rfl, by decide, by decide +kernel, by decide, mmW_2 194 rfl rfl⟩
theorem cv_X5_46 : mmCV RX5 46 mX4_sideOn 1 4 := ⟨mmW_2 196 rfl rfl, mmW_1 3 rfl rfl, mmW_2 97 rfl rfl, by decide, by decide +kernel, by decide, mmW_2 95 rfl rfl, mmW_2 96 rfl rfl, ⟨_, _, rfl⟩⟩
theorem cv_X5_50 : mmCV RX5 50 mX4_inZone 2 4 := ⟨mmW_2 197 rfl rfl, mmW_1 3 rfl rfl, mmW_2 145 rfl rfl, by decide, by decide +kernel, by decide, mmW_2 143 rfl rfl, mmW_2 144 rfl rfl, ⟨_, _, rfl⟩⟩
theorem cv_X5_35 : mmCV RX5 35 mX5_spread 1 5 := ⟨mmW_2 198 rfl rfl, mmW_1 8 rfl rfl, mmW_2 201 rfl rfl, by decide, by decide +kernel, by decide, mmW_2 200 rfl rfl, mmW_p1 6 (q := (yX5_spread, _)) rfl rfl, ⟨_, _, rfl⟩⟩
theorem cs_X5_42 : mmCS RX5 42 mX0_isHex 1 := ⟨mmW_2 202 rfl rfl, mmW_1 2 rfl rfl, mmW_2 39 rfl rfl, by decide, by decide +kernel, by decide, mmW_2 38 rfl rfl⟩
theorem cv_X1_32 : mmCV RX1 32 mX1_powerOfAttack 3 1 := ⟨mmW_2 203 rfl rfl, mmW_1 9 rfl rfl, mmW_2 206 rfl rfl, by decide, by decide +kernel, by decide, mmW_2 205 rfl rfl, mmW_p1 7 (q := (yX1_powerOfAttack, _)) rfl rfl, ⟨_, _, rfl⟩⟩
theorem cv_X1_66 : mmCV RX1 66 mX5_reaches 1 5 := ⟨mmW_2 207 rfl rfl, mmW_1 8 rfl rfl, mmW_2 210 rfl rfl, by decide, by decide +kernel, by decide, mmW_2 208 rfl rfl, mmW_2 209 rfl rfl, ⟨_, _, rfl⟩⟩
theorem cv_X1_70 : mmCV RX1 70 mX0_directionTo 2 0 := ⟨mmW_2 211 rfl rfl, mmW_1 2 rfl rfl, mmW_2 184 rfl rfl, by decide, by decide +kernel, by decide, mmW_2 182 rfl rfl, mmW_2 183 rfl rfl, ⟨_, _, rfl⟩⟩
theorem cv_X1_75 : mmCV RX1 75 mX4_hasRiver 2 4 := ⟨mmW_2 212 rfl rfl, mmW_1 3 rfl rfl, mmW_2 64 rfl rfl, by decide, by decide +kernel, by decide, mmW_2 62 rfl rfl, mmW_2 63 rfl rfl, ⟨_, _, rfl⟩⟩
theorem cv_X1_40 : mmCV RX1 40 mX1_powerOfDefence 2 1 := ⟨mmW_2 213 rfl rfl, mmW_1 9 rfl rfl, mmW_2 216 rfl rfl, by decide, by decide +kernel, by decide, mmW_2 215 rfl rfl, mmW_p1 8 (q := (yX1_powerOfDefence, _)) rfl rfl, ⟨_, _, rfl⟩⟩
theorem cv_X1_79 : mmCV RX1 79 mX4_hasFort 1 4 := ⟨mmW_2 217 rfl rfl, mmW_1 3 rfl rfl, mmW_2 88 rfl rfl, by decide, by decide +kernel, by decide, mmW_2 86 rfl rfl, mmW_2 87 rfl rfl, ⟨_, _, rfl⟩⟩
theorem cs_X1_56 : mmCS RX1 56 mJ9_abs_0f7a4 1 := ⟨mmW_2 218 rfl rfl, mmW_1 12 rfl rfl, mmW_2 220 rfl rfl, by decide, by decide +kernel, by decide, mmW_2 219 rfl rfl⟩
theorem cs_X1_62 : mmCS RX1 62 mJ9_max_7cf53 2 := ⟨mmW_2 221 rfl rfl, mmW_1 12 rfl rfl, mmW_2 223 rfl rfl, by decide, by decide +kernel, by decide, mmW_2 222 rfl rfl⟩
theorem cv_X7_206 : mmCV RX7 206 mX4_setStrength 2 4 := ⟨mmW_2 224 rfl rfl, mmW_1 3 rfl rfl, mmW_2 227 rfl rfl, by decide, by decide +kernel, by decide, mmW_2 225 rfl rfl, mmW_2 226 rfl rfl, ⟨_, _, rfl⟩⟩
theorem cs_X4_87 : mmCS RX4 87 mJ9_max_7cf53 2 := ⟨mmW_2 228 rfl rfl, mmW_1 12 rfl rfl, mmW_2 223 rfl rfl, by decide, by decide +kernel, by decide, mmW_2 222 rfl rfl⟩
theorem cv_L_44 : mmCV RL 44 mX7_endTurn 0 7 := ⟨mmW_2 229 rfl rfl, mmW_1 1 rfl rfl, mmW_2 232 rfl rfl, by decide, by decide +kernel, by decide, mmW_2 230 rfl rfl, mmW_2 231 rfl rfl, ⟨_, _, rfl⟩⟩
theorem cv_X7_144 : mmCV RX7 144 mX7_finishTurn 0 7 := ⟨mmW_2 233 rfl rfl, mmW_1 1 rfl rfl, mmW_2 236 rfl rfl, by decide, by decide +kernel, by decide, mmW_2 235 rfl rfl, mmW_p1 9 (q := (yX7_finishTurn, _)) rfl rfl, ⟨_, _, rfl⟩⟩
theorem cv_X7_218 : mmCV RX7 218 mX7_starve 1 7 := ⟨mmW_2 237 rfl rfl, mmW_1 1 rfl rfl, mmW_3 0 rfl rfl, by decide, by decide +kernel, by decide, mmW_2 239 rfl rfl, mmW_p1 10 (q := (yX7_starve, _)) rfl rfl, ⟨_, _, rfl⟩⟩
theorem cv_X7_224 : mmCV RX7 224 mX5_measure 2 5 := ⟨mmW_3 1 rfl rfl, mmW_1 8 rfl rfl, mmW_2 192 rfl rfl, by decide, by decide +kernel, by decide, mmW_2 190 rfl rfl, mmW_2 191 rfl rfl, ⟨_, _, rfl⟩⟩
theorem cv_X7_225 : mmCV RX7 225 mX4_isUnitOf 2 4 := ⟨mmW_3 2 rfl rfl, mmW_1 3 rfl rfl, mmW_3 5 rfl rfl, by decide, by decide +kernel, by decide, mmW_3 3 rfl rfl, mmW_3 4 rfl rfl, ⟨_, _, rfl⟩⟩
theorem cv_X4_68 : mmCV RX4 68 mX4_isUnit 1 4 := ⟨mmW_3 6 rfl rfl, mmW_1 3 rfl rfl, mmW_2 132 rfl rfl, by decide, by decide +kernel, by decide, mmW_2 130 rfl rfl, mmW_2 131 rfl rfl, ⟨_, _, rfl⟩⟩
theorem cv_X7_228 : mmCV RX7 228 mX5_reaches 1 5 := ⟨mmW_3 7 rfl rfl, mmW_1 8 rfl rfl, mmW_2 210 rfl rfl, by decide, by decide +kernel, by decide, mmW_2 208 rfl rfl, mmW_2 209 rfl rfl, ⟨_, _, rfl⟩⟩
theorem cv_X7_221 : mmCV RX7 221 mX4_refresh 1 4 := ⟨mmW_3 8 rfl rfl, mmW_1 3 rfl rfl, mmW_3 11 rfl rfl, by decide, by decide +kernel, by decide, mmW_3 9 rfl rfl, mmW_3 10 rfl rfl, ⟨_, _, rfl⟩⟩
theorem cv_X4_93 : mmCV RX4 93 mX4_isUnitOf 2 4 := ⟨mmW_3 12 rfl rfl, mmW_1 3 rfl rfl, mmW_3 5 rfl rfl, by decide, by decide +kernel, by decide, mmW_3 3 rfl rfl, mmW_3 4 rfl rfl, ⟨_, _, rfl⟩⟩
theorem cv_L_49 : mmCV RL 49 mX7_perform 0 7 := ⟨mmW_3 13 rfl rfl, mmW_1 1 rfl rfl, mmW_3 16 rfl rfl, by decide, by decide +kernel, by decide, mmW_3 14 rfl rfl, mmW_3 15 rfl rfl, ⟨_, _, rfl⟩⟩
theorem cv_X7_147 : mmCV RX7 147 mX3_read 0 3 := ⟨mmW_3 17 rfl rfl, mmW_1 6 rfl rfl, mmW_3 20 rfl rfl, by decide, by decide +kernel, by decide, mmW_3 18 rfl rfl, mmW_3 19 rfl rfl, ⟨_, _, rfl⟩⟩
theorem cv_X3_30 : mmCV RX3 30 mX3_stageAfter 2 3 := ⟨mmW_3 21 rfl rfl, mmW_1 6 rfl rfl, mmW_3 24 rfl rfl, by decide, by decide +kernel, by decide, mmW_3 23 rfl rfl, mmW_p1 11 (q := (yX3_stageAfter, _)) rfl rfl, ⟨_, _, rfl⟩⟩
theorem cv_X3_34 : mmCV RX3 34 mX3_readFirst 1 3 := ⟨mmW_3 25 rfl rfl, mmW_1 6 rfl rfl, mmW_3 28 rfl rfl, by decide, by decide +kernel, by decide, mmW_3 27 rfl rfl, mmW_p1 12 (q := (yX3_readFirst, _)) rfl rfl, ⟨_, _, rfl⟩⟩
theorem cv_X3_59 : mmCV RX3 59 mX3_addOrder 1 3 := ⟨mmW_3 29 rfl rfl, mmW_1 6 rfl rfl, mmW_3 32 rfl rfl, by decide, by decide +kernel, by decide, mmW_3 31 rfl rfl, mmW_p1 13 (q := (yX3_addOrder, _)) rfl rfl, ⟨_, _, rfl⟩⟩
theorem cs_X3_38 : mmCS RX3 38 mX3_isIn 3 := ⟨mmW_3 33 rfl rfl, mmW_1 6 rfl rfl, mmW_3 35 rfl rfl, by decide, by decide +kernel, by decide, mmW_3 34 rfl rfl⟩
theorem cv_X3_42 : mmCV RX3 42 mX3_readUnit 1 3 := ⟨mmW_3 36 rfl rfl, mmW_1 6 rfl rfl, mmW_3 39 rfl rfl, by decide, by decide +kernel, by decide, mmW_3 38 rfl rfl, mmW_p1 14 (q := (yX3_readUnit, _)) rfl rfl, ⟨_, _, rfl⟩⟩
theorem cv_X3_46 : mmCV RX3 46 mX3_readSign 1 3 := ⟨mmW_3 40 rfl rfl, mmW_1 6 rfl rfl, mmW_3 43 rfl rfl, by decide, by decide +kernel, by decide, mmW_3 42 rfl rfl, mmW_p1 15 (q := (yX3_readSign, _)) rfl rfl, ⟨_, _, rfl⟩⟩
theorem cv_X3_49 : mmCV RX3 49 mX3_readColumn 1 3 := ⟨mmW_3 44 rfl rfl, mmW_1 6 rfl rfl, mmW_3 47 rfl rfl, by decide, by decide +kernel, by decide, mmW_3 46 rfl rfl, mmW_p2 0 (q := (yX3_readColumn, _)) rfl rfl, ⟨_, _, rfl⟩⟩
theorem cv_X3_52 : mmCV RX3 52 mX3_readRow 1 3 := ⟨mmW_3 48 rfl rfl, mmW_1 6 rfl rfl, mmW_3 51 rfl rfl, by decide, by decide +kernel, by decide, mmW_3 50 rfl rfl, mmW_p2 1 (q := (yX3_readRow, _)) rfl rfl, ⟨_, _, rfl⟩⟩
theorem cv_L_53 : mmCV RL 53 mX7_type 1 7 := ⟨mmW_3 52 rfl rfl, mmW_1 1 rfl rfl, mmW_3 55 rfl rfl, by decide, by decide +kernel, by decide, mmW_3 53 rfl rfl, mmW_3 54 rfl rfl, ⟨_, _, rfl⟩⟩
theorem cv_X7_237 : mmCV RX7 237 mX3_append 1 3 := ⟨mmW_3 56 rfl rfl, mmW_1 6 rfl rfl, mmW_3 59 rfl rfl, by decide, by decide +kernel, by decide, mmW_3 57 rfl rfl, mmW_3 58 rfl rfl, ⟨_, _, rfl⟩⟩
theorem cv_L_58 : mmCV RL 58 mX7_clearText 0 7 := ⟨mmW_3 60 rfl rfl, mmW_1 1 rfl rfl, mmW_3 63 rfl rfl, by decide, by decide +kernel, by decide, mmW_3 61 rfl rfl, mmW_3 62 rfl rfl, ⟨_, _, rfl⟩⟩
theorem cv_L_62 : mmCV RL 62 mX7_undo 0 7 := ⟨mmW_3 64 rfl rfl, mmW_1 1 rfl rfl, mmW_3 67 rfl rfl, by decide, by decide +kernel, by decide, mmW_3 65 rfl rfl, mmW_3 66 rfl rfl, ⟨_, _, rfl⟩⟩
theorem cv_X7_244 : mmCV RX7 244 mX2_takeBack 1 2 := ⟨mmW_3 68 rfl rfl, mmW_1 5 rfl rfl, mmW_3 71 rfl rfl, by decide, by decide +kernel, by decide, mmW_3 69 rfl rfl, mmW_3 70 rfl rfl, ⟨_, _, rfl⟩⟩
theorem cv_L_66 : mmCV RL 66 mX7_keep 0 7 := ⟨mmW_3 72 rfl rfl, mmW_1 1 rfl rfl, mmW_3 75 rfl rfl, by decide, by decide +kernel, by decide, mmW_3 73 rfl rfl, mmW_3 74 rfl rfl, ⟨_, _, rfl⟩⟩
theorem cv_L_70 : mmCV RL 70 mX7_restore 0 7 := ⟨mmW_3 76 rfl rfl, mmW_1 1 rfl rfl, mmW_3 79 rfl rfl, by decide, by decide +kernel, by decide, mmW_3 77 rfl rfl, mmW_3 78 rfl rfl, ⟨_, _, rfl⟩⟩
theorem cv_L_74 : mmCV RL 74 mX7_hex 2 7 := ⟨mmW_3 80 rfl rfl, mmW_1 1 rfl rfl, mmW_3 83 rfl rfl, by decide, by decide +kernel, by decide, mmW_3 81 rfl rfl, mmW_3 82 rfl rfl, ⟨_, _, rfl⟩⟩
theorem cv_X7_255 : mmCV RX7 255 mX4_inZone 2 4 := ⟨mmW_3 84 rfl rfl, mmW_1 3 rfl rfl, mmW_2 145 rfl rfl, by decide, by decide +kernel, by decide, mmW_2 143 rfl rfl, mmW_2 144 rfl rfl, ⟨_, _, rfl⟩⟩
theorem cs_X7_258 : mmCS RX7 258 mX7_oneIf 1 := ⟨mmW_3 85 rfl rfl, mmW_1 1 rfl rfl, mmW_3 87 rfl rfl, by decide, by decide +kernel, by decide, mmW_3 86 rfl rfl⟩
theorem cv_X7_262 : mmCV RX7 262 mX4_isSeen 2 4 := ⟨mmW_3 88 rfl rfl, mmW_1 3 rfl rfl, mmW_3 91 rfl rfl, by decide, by decide +kernel, by decide, mmW_3 89 rfl rfl, mmW_3 90 rfl rfl, ⟨_, _, rfl⟩⟩
theorem cv_X4_103 : mmCV RX4 103 mX4_isSeenByUnit 2 4 := ⟨mmW_3 92 rfl rfl, mmW_1 3 rfl rfl, mmW_3 95 rfl rfl, by decide, by decide +kernel, by decide, mmW_3 94 rfl rfl, mmW_p2 2 (q := (yX4_isSeenByUnit, _)) rfl rfl, ⟨_, _, rfl⟩⟩
theorem cs_X4_109 : mmCS RX4 109 mX0_stepsBetween 2 := ⟨mmW_3 96 rfl rfl, mmW_1 2 rfl rfl, mmW_3 98 rfl rfl, by decide, by decide +kernel, by decide, mmW_3 97 rfl rfl⟩
theorem cs_X0_26 : mmCS RX0 26 mX0_slantOf 1 := ⟨mmW_3 99 rfl rfl, mmW_1 2 rfl rfl, mmW_3 101 rfl rfl, by decide, by decide +kernel, by decide, mmW_3 100 rfl rfl⟩
theorem cs_X0_30 : mmCS RX0 30 mJ9_abs_0f7a4 1 := ⟨mmW_3 102 rfl rfl, mmW_1 12 rfl rfl, mmW_2 220 rfl rfl, by decide, by decide +kernel, by decide, mmW_2 219 rfl rfl⟩
theorem cs_X0_35 : mmCS RX0 35 mJ9_max_7cf53 2 := ⟨mmW_3 103 rfl rfl, mmW_1 12 rfl rfl, mmW_2 223 rfl rfl, by decide, by decide +kernel, by decide, mmW_2 222 rfl rfl⟩
theorem cv_X4_106 : mmCV RX4 106 mX4_isSeenByFort 2 4 := ⟨mmW_3 104 rfl rfl, mmW_1 3 rfl rfl, mmW_3 107 rfl rfl, by decide, by decide +kernel, by decide, mmW_3 106 rfl rfl, mmW_p2 3 (q := (yX4_isSeenByFort, _)) rfl rfl, ⟨_, _, rfl⟩⟩
theorem cv_X7_265 : mmCV RX7 265 mX0_neighbourCount 1 0 := ⟨mmW_3 108 rfl rfl, mmW_1 2 rfl rfl, mmW_3 111 rfl rfl, by decide, by decide +kernel, by decide, mmW_3 109 rfl rfl, mmW_3 110 rfl rfl, ⟨_, _, rfl⟩⟩
theorem cs_X0_38 : mmCS RX0 38 mX0_isHex 1 := ⟨mmW_3 112 rfl rfl, mmW_1 2 rfl rfl, mmW_2 39 rfl rfl, by decide, by decide +kernel, by decide, mmW_2 38 rfl rfl⟩
theorem cv_L_78 : mmCV RL 78 mX7_beside 2 7 := ⟨mmW_3 113 rfl rfl, mmW_1 1 rfl rfl, mmW_3 116 rfl rfl, by decide, by decide +kernel, by decide, mmW_3 114 rfl rfl, mmW_3 115 rfl rfl, ⟨_, _, rfl⟩⟩
theorem cv_L_82 : mmCV RL 82 mX7_distance 2 7 := ⟨mmW_3 117 rfl rfl, mmW_1 1 rfl rfl, mmW_3 120 rfl rfl, by decide, by decide +kernel, by decide, mmW_3 118 rfl rfl, mmW_3 119 rfl rfl, ⟨_, _, rfl⟩⟩
theorem cs_X7_268 : mmCS RX7 268 mX0_stepsBetween 2 := ⟨mmW_3 121 rfl rfl, mmW_1 2 rfl rfl, mmW_3 98 rfl rfl, by decide, by decide +kernel, by decide, mmW_3 97 rfl rfl⟩
theorem cv_L_86 : mmCV RL 86 mX7_unit 2 7 := ⟨mmW_3 122 rfl rfl, mmW_1 1 rfl rfl, mmW_3 125 rfl rfl, by decide, by decide +kernel, by decide, mmW_3 123 rfl rfl, mmW_3 124 rfl rfl, ⟨_, _, rfl⟩⟩
theorem cv_X7_274 : mmCV RX7 274 mX6_endCount 1 6 := ⟨mmW_3 126 rfl rfl, mmW_1 7 rfl rfl, mmW_3 129 rfl rfl, by decide, by decide +kernel, by decide, mmW_3 127 rfl rfl, mmW_3 128 rfl rfl, ⟨_, _, rfl⟩⟩
theorem cv_X6_65 : mmCV RX6 65 mX6_canEndOn 2 6 := ⟨mmW_3 130 rfl rfl, mmW_1 7 rfl rfl, mmW_2 160 rfl rfl, by decide, by decide +kernel, by decide, mmW_2 158 rfl rfl, mmW_2 159 rfl rfl, ⟨_, _, rfl⟩⟩
theorem cv_L_90 : mmCV RL 90 mX7_cost 2 7 := ⟨mmW_3 131 rfl rfl, mmW_1 1 rfl rfl, mmW_3 134 rfl rfl, by decide, by decide +kernel, by decide, mmW_3 132 rfl rfl, mmW_3 133 rfl rfl, ⟨_, _, rfl⟩⟩
theorem cv_L_94 : mmCV RL 94 mX7_would 3 7 := ⟨mmW_3 135 rfl rfl, mmW_1 1 rfl rfl, mmW_3 138 rfl rfl, by decide, by decide +kernel, by decide, mmW_3 136 rfl rfl, mmW_3 137 rfl rfl, ⟨_, _, rfl⟩⟩
theorem cv_L_98 : mmCV RL 98 mX7_besieged 1 7 := ⟨mmW_3 139 rfl rfl, mmW_1 1 rfl rfl, mmW_3 142 rfl rfl, by decide, by decide +kernel, by decide, mmW_3 140 rfl rfl, mmW_3 141 rfl rfl, ⟨_, _, rfl⟩⟩
theorem cv_L_103 : mmCV RL 103 mX7_count 1 7 := ⟨mmW_3 143 rfl rfl, mmW_1 1 rfl rfl, mmW_3 146 rfl rfl, by decide, by decide +kernel, by decide, mmW_3 144 rfl rfl, mmW_3 145 rfl rfl, ⟨_, _, rfl⟩⟩
theorem cv_X7_284 : mmCV RX7 284 mX4_unitCount 1 4 := ⟨mmW_3 147 rfl rfl, mmW_1 3 rfl rfl, mmW_3 150 rfl rfl, by decide, by decide +kernel, by decide, mmW_3 148 rfl rfl, mmW_3 149 rfl rfl, ⟨_, _, rfl⟩⟩
theorem cv_X7_287 : mmCV RX7 287 mX4_strengthOf 1 4 := ⟨mmW_3 151 rfl rfl, mmW_1 3 rfl rfl, mmW_3 154 rfl rfl, by decide, by decide +kernel, by decide, mmW_3 152 rfl rfl, mmW_3 153 rfl rfl, ⟨_, _, rfl⟩⟩
theorem cv_X7_290 : mmCV RX7 290 mX4_seenCount 1 4 := ⟨mmW_3 155 rfl rfl, mmW_1 3 rfl rfl, mmW_3 158 rfl rfl, by decide, by decide +kernel, by decide, mmW_3 156 rfl rfl, mmW_3 157 rfl rfl, ⟨_, _, rfl⟩⟩
theorem cv_X4_112 : mmCV RX4 112 mX4_isSeen 2 4 := ⟨mmW_3 159 rfl rfl, mmW_1 3 rfl rfl, mmW_3 91 rfl rfl, by decide, by decide +kernel, by decide, mmW_3 89 rfl rfl, mmW_3 90 rfl rfl, ⟨_, _, rfl⟩⟩
theorem cv_L_17 : mmCV RL 17 mX8_ground 2 8 := ⟨mmW_3 221 rfl rfl, mmW_1 10 rfl rfl, mmW_3 224 rfl rfl, by decide, by decide +kernel, by decide, mmW_3 222 rfl rfl, mmW_3 223 rfl rfl, ⟨_, _, rfl⟩⟩
theorem cs_X8_124 : mmCS RX8 124 mX8_isHex 1 := ⟨mmW_3 225 rfl rfl, mmW_1 10 rfl rfl, mmW_3 227 rfl rfl, by decide, by decide +kernel, by decide, mmW_3 226 rfl rfl⟩
theorem cs_X8_48 : mmCS RX8 48 mX8_in 3 := ⟨mmW_3 228 rfl rfl, mmW_1 10 rfl rfl, mmW_3 230 rfl rfl, by decide, by decide +kernel, by decide, mmW_3 229 rfl rfl⟩
theorem cv_X8_127 : mmCV RX8 127 mX8_records 0 8 := ⟨mmW_3 231 rfl rfl, mmW_1 10 rfl rfl, mmW_3 234 rfl rfl, by decide, by decide +kernel, by decide, mmW_3 233 rfl rfl, mmW_p2 4 (q := (yX8_records, _)) rfl rfl, ⟨_, _, rfl⟩⟩
theorem cv_L_22 : mmCV RL 22 mX8_river 3 8 := ⟨mmW_3 235 rfl rfl, mmW_1 10 rfl rfl, mmW_3 238 rfl rfl, by decide, by decide +kernel, by decide, mmW_3 236 rfl rfl, mmW_3 237 rfl rfl, ⟨_, _, rfl⟩⟩
theorem cs_X8_59 : mmCS RX8 59 mX8_next 2 := ⟨mmW_3 239 rfl rfl, mmW_1 10 rfl rfl, mmW_4 1 rfl rfl, by decide, by decide +kernel, by decide, mmW_4 0 rfl rfl⟩
theorem cv_X8_77 : mmCV RX8 77 mX8_hasRiver 2 8 := ⟨mmW_4 2 rfl rfl, mmW_1 10 rfl rfl, mmW_4 5 rfl rfl, by decide, by decide +kernel, by decide, mmW_4 4 rfl rfl, mmW_p2 5 (q := (yX8_hasRiver, _)) rfl rfl, ⟨_, _, rfl⟩⟩
theorem cv_X8_130 : mmCV RX8 130 mX8_rivers 0 8 := ⟨mmW_4 6 rfl rfl, mmW_1 10 rfl rfl, mmW_4 9 rfl rfl, by decide, by decide +kernel, by decide, mmW_4 8 rfl rfl, mmW_p2 6 (q := (yX8_rivers, _)) rfl rfl, ⟨_, _, rfl⟩⟩
theorem cv_L_26 : mmCV RL 26 mX8_fort 2 8 := ⟨mmW_4 10 rfl rfl, mmW_1 10 rfl rfl, mmW_4 13 rfl rfl, by decide, by decide +kernel, by decide, mmW_4 11 rfl rfl, mmW_4 12 rfl rfl, ⟨_, _, rfl⟩⟩
theorem cv_X8_62 : mmCV RX8 62 mX8_unitOn 1 8 := ⟨mmW_4 14 rfl rfl, mmW_1 10 rfl rfl, mmW_4 17 rfl rfl, by decide, by decide +kernel, by decide, mmW_4 16 rfl rfl, mmW_p2 7 (q := (yX8_unitOn, _)) rfl rfl, ⟨_, _, rfl⟩⟩
theorem cv_X8_52 : mmCV RX8 52 mX8_of 2 8 := ⟨mmW_4 18 rfl rfl, mmW_1 10 rfl rfl, mmW_4 21 rfl rfl, by decide, by decide +kernel, by decide, mmW_4 20 rfl rfl, mmW_p2 8 (q := (yX8_of, _)) rfl rfl, ⟨_, _, rfl⟩⟩
theorem cv_X8_133 : mmCV RX8 133 mX8_forts 1 8 := ⟨mmW_4 22 rfl rfl, mmW_1 10 rfl rfl, mmW_4 25 rfl rfl, by decide, by decide +kernel, by decide, mmW_4 24 rfl rfl, mmW_p2 9 (q := (yX8_forts, _)) rfl rfl, ⟨_, _, rfl⟩⟩
theorem cv_L_30 : mmCV RL 30 mX8_base 2 8 := ⟨mmW_4 26 rfl rfl, mmW_1 10 rfl rfl, mmW_4 29 rfl rfl, by decide, by decide +kernel, by decide, mmW_4 27 rfl rfl, mmW_4 28 rfl rfl, ⟨_, _, rfl⟩⟩
theorem cv_L_35 : mmCV RL 35 mX8_place 3 8 := ⟨mmW_4 30 rfl rfl, mmW_1 10 rfl rfl, mmW_4 33 rfl rfl, by decide, by decide +kernel, by decide, mmW_4 31 rfl rfl, mmW_4 32 rfl rfl, ⟨_, _, rfl⟩⟩
theorem cv_X8_73 : mmCV RX8 73 mX8_lay 3 8 := ⟨mmW_4 34 rfl rfl, mmW_1 10 rfl rfl, mmW_4 37 rfl rfl, by decide, by decide +kernel, by decide, mmW_4 36 rfl rfl, mmW_p2 10 (q := (yX8_lay, _)) rfl rfl, ⟨_, _, rfl⟩⟩
theorem cv_X8_120 : mmCV RX8 120 mX8_stands 2 8 := ⟨mmW_4 38 rfl rfl, mmW_1 10 rfl rfl, mmW_4 41 rfl rfl, by decide, by decide +kernel, by decide, mmW_4 40 rfl rfl, mmW_p2 11 (q := (yX8_stands, _)) rfl rfl, ⟨_, _, rfl⟩⟩
theorem cv_L_39 : mmCV RL 39 mX8_move 2 8 := ⟨mmW_4 42 rfl rfl, mmW_1 10 rfl rfl, mmW_4 45 rfl rfl, by decide, by decide +kernel, by decide, mmW_4 43 rfl rfl, mmW_4 44 rfl rfl, ⟨_, _, rfl⟩⟩
theorem cv_X8_148 : mmCV RX8 148 mX8_refusesMove 2 8 := ⟨mmW_4 46 rfl rfl, mmW_1 10 rfl rfl, mmW_4 49 rfl rfl, by decide, by decide +kernel, by decide, mmW_4 48 rfl rfl, mmW_p2 12 (q := (yX8_refusesMove, _)) rfl rfl, ⟨_, _, rfl⟩⟩
theorem cv_X8_136 : mmCV RX8 136 mX8_isUnit 1 8 := ⟨mmW_4 50 rfl rfl, mmW_1 10 rfl rfl, mmW_4 53 rfl rfl, by decide, by decide +kernel, by decide, mmW_4 52 rfl rfl, mmW_p2 13 (q := (yX8_isUnit, _)) rfl rfl, ⟨_, _, rfl⟩⟩
theorem cv_X8_139 : mmCV RX8 139 mX8_isAtTurn 1 8 := ⟨mmW_4 54 rfl rfl, mmW_1 10 rfl rfl, mmW_4 57 rfl rfl, by decide, by decide +kernel, by decide, mmW_4 56 rfl rfl, mmW_p2 14 (q := (yX8_isAtTurn, _)) rfl rfl, ⟨_, _, rfl⟩⟩
theorem cv_X8_142 : mmCV RX8 142 mX8_laysWays 1 8 := ⟨mmW_4 58 rfl rfl, mmW_1 10 rfl rfl, mmW_4 61 rfl rfl, by decide, by decide +kernel, by decide, mmW_4 60 rfl rfl, mmW_p2 15 (q := (yX8_laysWays, _)) rfl rfl, ⟨_, _, rfl⟩⟩
theorem cv_X8_80 : mmCV RX8 80 mX8_laysZone 1 8 := ⟨mmW_4 62 rfl rfl, mmW_1 10 rfl rfl, mmW_4 65 rfl rfl, by decide, by decide +kernel, by decide, mmW_4 64 rfl rfl, mmW_p3 0 (q := (yX8_laysZone, _)) rfl rfl, ⟨_, _, rfl⟩⟩
theorem cv_X8_70 : mmCV RX8 70 mX8_isInZone 2 8 := ⟨mmW_4 66 rfl rfl, mmW_1 10 rfl rfl, mmW_4 69 rfl rfl, by decide, by decide +kernel, by decide, mmW_4 68 rfl rfl, mmW_p3 1 (q := (yX8_isInZone, _)) rfl rfl, ⟨_, _, rfl⟩⟩
theorem cv_X8_66 : mmCV RX8 66 mX8_isOn 2 8 := ⟨mmW_4 70 rfl rfl, mmW_1 10 rfl rfl, mmW_4 73 rfl rfl, by decide, by decide +kernel, by decide, mmW_4 72 rfl rfl, mmW_p3 2 (q := (yX8_isOn, _)) rfl rfl, ⟨_, _, rfl⟩⟩
theorem cv_X8_84 : mmCV RX8 84 mX8_entering 3 8 := ⟨mmW_4 74 rfl rfl, mmW_1 10 rfl rfl, mmW_4 77 rfl rfl, by decide, by decide +kernel, by decide, mmW_4 76 rfl rfl, mmW_p3 3 (q := (yX8_entering, _)) rfl rfl, ⟨_, _, rfl⟩⟩
theorem cv_X8_88 : mmCV RX8 88 mX8_cheapest 0 8 := ⟨mmW_4 78 rfl rfl, mmW_1 10 rfl rfl, mmW_4 81 rfl rfl, by decide, by decide +kernel, by decide, mmW_4 80 rfl rfl, mmW_p3 4 (q := (yX8_cheapest, _)) rfl rfl, ⟨_, _, rfl⟩⟩
theorem cv_X8_145 : mmCV RX8 145 mX8_canReach 2 8 := ⟨mmW_4 82 rfl rfl, mmW_1 10 rfl rfl, mmW_4 85 rfl rfl, by decide, by decide +kernel, by decide, mmW_4 84 rfl rfl, mmW_p3 5 (q := (yX8_canReach, _)) rfl rfl, ⟨_, _, rfl⟩⟩
theorem cv_X8_151 : mmCV RX8 151 mX8_moves 2 8 := ⟨mmW_4 86 rfl rfl, mmW_1 10 rfl rfl, mmW_4 89 rfl rfl, by decide, by decide +kernel, by decide, mmW_4 88 rfl rfl, mmW_p3 6 (q := (yX8_moves, _)) rfl rfl, ⟨_, _, rfl⟩⟩
theorem cv_L_43 : mmCV RL 43 mX8_attack 2 8 := ⟨mmW_4 90 rfl rfl, mmW_1 10 rfl rfl, mmW_4 93 rfl rfl, by decide, by decide +kernel, by decide, mmW_4 91 rfl rfl, mmW_4 92 rfl rfl, ⟨_, _, rfl⟩⟩
theorem cv_X8_157 : mmCV RX8 157 mX8_refusesAttack 2 8 := ⟨mmW_4 94 rfl rfl, mmW_1 10 rfl rfl, mmW_4 97 rfl rfl, by decide, by decide +kernel, by decide, mmW_4 96 rfl rfl, mmW_p3 7 (q := (yX8_refusesAttack, _)) rfl rfl, ⟨_, _, rfl⟩⟩
theorem cv_X8_154 : mmCV RX8 154 mX8_canFight 2 8 := ⟨mmW_4 98 rfl rfl, mmW_1 10 rfl rfl, mmW_4 101 rfl rfl, by decide, by decide +kernel, by decide, mmW_4 100 rfl rfl, mmW_p3 8 (q := (yX8_canFight, _)) rfl rfl, ⟨_, _, rfl⟩⟩
theorem cs_X8_108 : mmCS RX8 108 mX8_directionTo 2 := ⟨mmW_4 102 rfl rfl, mmW_1 10 rfl rfl, mmW_4 104 rfl rfl, by decide, by decide +kernel, by decide, mmW_4 103 rfl rfl⟩
theorem cv_X8_160 : mmCV RX8 160 mX8_fights 2 8 := ⟨mmW_4 105 rfl rfl, mmW_1 10 rfl rfl, mmW_4 108 rfl rfl, by decide, by decide +kernel, by decide, mmW_4 107 rfl rfl, mmW_p3 9 (q := (yX8_fights, _)) rfl rfl, ⟨_, _, rfl⟩⟩
theorem cv_X8_111 : mmCV RX8 111 mX8_power 2 8 := ⟨mmW_4 109 rfl rfl, mmW_1 10 rfl rfl, mmW_4 112 rfl rfl, by decide, by decide +kernel, by decide, mmW_4 111 rfl rfl, mmW_p3 10 (q := (yX8_power, _)) rfl rfl, ⟨_, _, rfl⟩⟩
theorem cv_X8_104 : mmCV RX8 104 mX8_isSupplied 1 8 := ⟨mmW_4 113 rfl rfl, mmW_1 10 rfl rfl, mmW_4 116 rfl rfl, by decide, by decide +kernel, by decide, mmW_4 115 rfl rfl, mmW_p3 11 (q := (yX8_isSupplied, _)) rfl rfl, ⟨_, _, rfl⟩⟩
theorem cv_X8_98 : mmCV RX8 98 mX8_toSource 1 8 := ⟨mmW_4 117 rfl rfl, mmW_1 10 rfl rfl, mmW_4 120 rfl rfl, by decide, by decide +kernel, by decide, mmW_4 119 rfl rfl, mmW_p3 12 (q := (yX8_toSource, _)) rfl rfl, ⟨_, _, rfl⟩⟩
theorem cv_X8_92 : mmCV RX8 92 mX8_isSource 2 8 := ⟨mmW_4 121 rfl rfl, mmW_1 10 rfl rfl, mmW_4 124 rfl rfl, by decide, by decide +kernel, by decide, mmW_4 123 rfl rfl, mmW_p3 13 (q := (yX8_isSource, _)) rfl rfl, ⟨_, _, rfl⟩⟩
theorem cv_X8_95 : mmCV RX8 95 mX8_isFree 2 8 := ⟨mmW_4 125 rfl rfl, mmW_1 10 rfl rfl, mmW_4 128 rfl rfl, by decide, by decide +kernel, by decide, mmW_4 127 rfl rfl, mmW_p3 14 (q := (yX8_isFree, _)) rfl rfl, ⟨_, _, rfl⟩⟩
theorem cv_X8_114 : mmCV RX8 114 mX8_defence 1 8 := ⟨mmW_4 129 rfl rfl, mmW_1 10 rfl rfl, mmW_4 132 rfl rfl, by decide, by decide +kernel, by decide, mmW_4 131 rfl rfl, mmW_p3 15 (q := (yX8_defence, _)) rfl rfl, ⟨_, _, rfl⟩⟩
theorem cv_X8_117 : mmCV RX8 117 mX8_weakened 2 8 := ⟨mmW_4 133 rfl rfl, mmW_1 10 rfl rfl, mmW_4 136 rfl rfl, by decide, by decide +kernel, by decide, mmW_4 135 rfl rfl, mmW_p4 0 (q := (yX8_weakened, _)) rfl rfl, ⟨_, _, rfl⟩⟩
theorem cv_L_48 : mmCV RL 48 mX8_endTurn 0 8 := ⟨mmW_4 137 rfl rfl, mmW_1 10 rfl rfl, mmW_4 140 rfl rfl, by decide, by decide +kernel, by decide, mmW_4 138 rfl rfl, mmW_4 139 rfl rfl, ⟨_, _, rfl⟩⟩
theorem cv_X8_163 : mmCV RX8 163 mX8_ends 0 8 := ⟨mmW_4 141 rfl rfl, mmW_1 10 rfl rfl, mmW_4 144 rfl rfl, by decide, by decide +kernel, by decide, mmW_4 143 rfl rfl, mmW_p4 1 (q := (yX8_ends, _)) rfl rfl, ⟨_, _, rfl⟩⟩
theorem cv_L_57 : mmCV RL 57 mX8_type 1 8 := ⟨mmW_4 145 rfl rfl, mmW_1 10 rfl rfl, mmW_4 148 rfl rfl, by decide, by decide +kernel, by decide, mmW_4 146 rfl rfl, mmW_4 147 rfl rfl, ⟨_, _, rfl⟩⟩
theorem cv_L_61 : mmCV RL 61 mX8_clearText 0 8 := ⟨mmW_4 149 rfl rfl, mmW_1 10 rfl rfl, mmW_4 152 rfl rfl, by decide, by decide +kernel, by decide, mmW_4 150 rfl rfl, mmW_4 151 rfl rfl, ⟨_, _, rfl⟩⟩
theorem cv_L_52 : mmCV RL 52 mX8_perform 0 8 := ⟨mmW_4 153 rfl rfl, mmW_1 10 rfl rfl, mmW_4 156 rfl rfl, by decide, by decide +kernel, by decide, mmW_4 154 rfl rfl, mmW_4 155 rfl rfl, ⟨_, _, rfl⟩⟩
theorem cv_X8_188 : mmCV RX8 188 mX8_reads 0 8 := ⟨mmW_4 157 rfl rfl, mmW_1 10 rfl rfl, mmW_4 160 rfl rfl, by decide, by decide +kernel, by decide, mmW_4 159 rfl rfl, mmW_p4 2 (q := (yX8_reads, _)) rfl rfl, ⟨_, _, rfl⟩⟩
theorem cv_X8_185 : mmCV RX8 185 mX8_readsOrder 0 8 := ⟨mmW_4 161 rfl rfl, mmW_1 10 rfl rfl, mmW_4 164 rfl rfl, by decide, by decide +kernel, by decide, mmW_4 163 rfl rfl, mmW_p4 3 (q := (yX8_readsOrder, _)) rfl rfl, ⟨_, _, rfl⟩⟩
theorem cv_X8_176 : mmCV RX8 176 mX8_sign 0 8 := ⟨mmW_4 165 rfl rfl, mmW_1 10 rfl rfl, mmW_4 168 rfl rfl, by decide, by decide +kernel, by decide, mmW_4 167 rfl rfl, mmW_p4 4 (q := (yX8_sign, _)) rfl rfl, ⟨_, _, rfl⟩⟩
theorem cv_X8_179 : mmCV RX8 179 mX8_takes 2 8 := ⟨mmW_4 169 rfl rfl, mmW_1 10 rfl rfl, mmW_4 172 rfl rfl, by decide, by decide +kernel, by decide, mmW_4 171 rfl rfl, mmW_p4 5 (q := (yX8_takes, _)) rfl rfl, ⟨_, _, rfl⟩⟩
theorem cv_X8_191 : mmCV RX8 191 mX8_putAside 0 8 := ⟨mmW_4 173 rfl rfl, mmW_1 10 rfl rfl, mmW_4 176 rfl rfl, by decide, by decide +kernel, by decide, mmW_4 175 rfl rfl, mmW_p4 6 (q := (yX8_putAside, _)) rfl rfl, ⟨_, _, rfl⟩⟩
theorem cv_X8_194 : mmCV RX8 194 mX8_does 1 8 := ⟨mmW_4 177 rfl rfl, mmW_1 10 rfl rfl, mmW_4 180 rfl rfl, by decide, by decide +kernel, by decide, mmW_4 179 rfl rfl, mmW_p4 7 (q := (yX8_does, _)) rfl rfl, ⟨_, _, rfl⟩⟩
theorem cv_X8_197 : mmCV RX8 197 mX8_takeBack 0 8 := ⟨mmW_4 181 rfl rfl, mmW_1 10 rfl rfl, mmW_4 184 rfl rfl, by decide, by decide +kernel, by decide, mmW_4 183 rfl rfl, mmW_p4 8 (q := (yX8_takeBack, _)) rfl rfl, ⟨_, _, rfl⟩⟩
theorem cv_L_65 : mmCV RL 65 mX8_undo 0 8 := ⟨mmW_4 185 rfl rfl, mmW_1 10 rfl rfl, mmW_4 188 rfl rfl, by decide, by decide +kernel, by decide, mmW_4 186 rfl rfl, mmW_4 187 rfl rfl, ⟨_, _, rfl⟩⟩
theorem cv_L_69 : mmCV RL 69 mX8_keep 0 8 := ⟨mmW_4 189 rfl rfl, mmW_1 10 rfl rfl, mmW_4 192 rfl rfl, by decide, by decide +kernel, by decide, mmW_4 190 rfl rfl, mmW_4 191 rfl rfl, ⟨_, _, rfl⟩⟩
theorem cv_L_73 : mmCV RL 73 mX8_restore 0 8 := ⟨mmW_4 193 rfl rfl, mmW_1 10 rfl rfl, mmW_4 196 rfl rfl, by decide, by decide +kernel, by decide, mmW_4 194 rfl rfl, mmW_4 195 rfl rfl, ⟨_, _, rfl⟩⟩
theorem cv_L_77 : mmCV RL 77 mX8_hex 2 8 := ⟨mmW_4 197 rfl rfl, mmW_1 10 rfl rfl, mmW_4 200 rfl rfl, by decide, by decide +kernel, by decide, mmW_4 198 rfl rfl, mmW_4 199 rfl rfl, ⟨_, _, rfl⟩⟩
theorem cv_X8_203 : mmCV RX8 203 mX8_sees 2 8 := ⟨mmW_4 201 rfl rfl, mmW_1 10 rfl rfl, mmW_4 204 rfl rfl, by decide, by decide +kernel, by decide, mmW_4 203 rfl rfl, mmW_p4 9 (q := (yX8_sees, _)) rfl rfl, ⟨_, _, rfl⟩⟩
theorem cv_X8_101 : mmCV RX8 101 mX8_laysDistances 1 8 := ⟨mmW_4 205 rfl rfl, mmW_1 10 rfl rfl, mmW_4 208 rfl rfl, by decide, by decide +kernel, by decide, mmW_4 207 rfl rfl, mmW_p4 10 (q := (yX8_laysDistances, _)) rfl rfl, ⟨_, _, rfl⟩⟩
theorem cv_X8_206 : mmCV RX8 206 mX8_besides 1 8 := ⟨mmW_4 209 rfl rfl, mmW_1 10 rfl rfl, mmW_4 212 rfl rfl, by decide, by decide +kernel, by decide, mmW_4 211 rfl rfl, mmW_p4 11 (q := (yX8_besides, _)) rfl rfl, ⟨_, _, rfl⟩⟩
theorem cv_L_81 : mmCV RL 81 mX8_beside 2 8 := ⟨mmW_4 213 rfl rfl, mmW_1 10 rfl rfl, mmW_4 216 rfl rfl, by decide, by decide +kernel, by decide, mmW_4 214 rfl rfl, mmW_4 215 rfl rfl, ⟨_, _, rfl⟩⟩
theorem cv_L_85 : mmCV RL 85 mX8_distance 2 8 := ⟨mmW_4 217 rfl rfl, mmW_1 10 rfl rfl, mmW_4 220 rfl rfl, by decide, by decide +kernel, by decide, mmW_4 218 rfl rfl, mmW_4 219 rfl rfl, ⟨_, _, rfl⟩⟩
theorem cv_L_89 : mmCV RL 89 mX8_unit 2 8 := ⟨mmW_4 221 rfl rfl, mmW_1 10 rfl rfl, mmW_4 224 rfl rfl, by decide, by decide +kernel, by decide, mmW_4 222 rfl rfl, mmW_4 223 rfl rfl, ⟨_, _, rfl⟩⟩
theorem cv_X8_209 : mmCV RX8 209 mX8_reaches 1 8 := ⟨mmW_4 225 rfl rfl, mmW_1 10 rfl rfl, mmW_4 228 rfl rfl, by decide, by decide +kernel, by decide, mmW_4 227 rfl rfl, mmW_p4 12 (q := (yX8_reaches, _)) rfl rfl, ⟨_, _, rfl⟩⟩
theorem cv_L_93 : mmCV RL 93 mX8_cost 2 8 := ⟨mmW_4 229 rfl rfl, mmW_1 10 rfl rfl, mmW_4 232 rfl rfl, by decide, by decide +kernel, by decide, mmW_4 230 rfl rfl, mmW_4 231 rfl rfl, ⟨_, _, rfl⟩⟩
theorem cv_L_97 : mmCV RL 97 mX8_would 3 8 := ⟨mmW_4 233 rfl rfl, mmW_1 10 rfl rfl, mmW_4 236 rfl rfl, by decide, by decide +kernel, by decide, mmW_4 234 rfl rfl, mmW_4 235 rfl rfl, ⟨_, _, rfl⟩⟩
theorem cv_L_102 : mmCV RL 102 mX8_besieged 1 8 := ⟨mmW_4 237 rfl rfl, mmW_1 10 rfl rfl, mmW_5 0 rfl rfl, by decide, by decide +kernel, by decide, mmW_4 238 rfl rfl, mmW_4 239 rfl rfl, ⟨_, _, rfl⟩⟩
theorem cv_L_106 : mmCV RL 106 mX8_count 1 8 := ⟨mmW_5 1 rfl rfl, mmW_1 10 rfl rfl, mmW_5 4 rfl rfl, by decide, by decide +kernel, by decide, mmW_5 2 rfl rfl, mmW_5 3 rfl rfl, ⟨_, _, rfl⟩⟩
theorem cv_X8_212 : mmCV RX8 212 mX8_unitsOf 2 8 := ⟨mmW_5 5 rfl rfl, mmW_1 10 rfl rfl, mmW_5 8 rfl rfl, by decide, by decide +kernel, by decide, mmW_5 7 rfl rfl, mmW_p4 13 (q := (yX8_unitsOf, _)) rfl rfl, ⟨_, _, rfl⟩⟩
theorem cv_X8_215 : mmCV RX8 215 mX8_seen 1 8 := ⟨mmW_5 9 rfl rfl, mmW_1 10 rfl rfl, mmW_5 12 rfl rfl, by decide, by decide +kernel, by decide, mmW_5 11 rfl rfl, mmW_p4 14 (q := (yX8_seen, _)) rfl rfl, ⟨_, _, rfl⟩⟩
end
section
-- the board: directions, steps, distances
def zB (b : Bool) : Int := if b then 1 else 0
theorem zB_t : zB true = 1 := rfl
theorem zB_f : zB false = 0 := rfl
theorem zB_1 (b : Bool) : zB b = 0 ∨ zB b = 1 := by cases b <;> simp [zB]
theorem zB_ne {b : Bool} (h : zB b ≠ 0) : b = true := by cases b <;> simp_all [zB]
theorem zB_eq {b : Bool} (h : zB b = 0) : b = false := by cases b <;> simp_all [zB]
theorem zB_eq1 {b : Bool} (h : zB b = 1) : b = true := by cases b <;> simp_all [zB]
theorem zB_ne1 {b : Bool} (h : zB b ≠ 1) : b = false := by cases b <;> simp_all [zB]
theorem zB_R (b : Bool) : zR (zB b) := by cases b <;> simp [zB, zR]
def isHexB (x : Int) : Bool := decide (0 ≤ x ∧ x < 63)
theorem isHexB_t {x : Int} (h : isHexB x = true) : 0 ≤ x ∧ x < 63 := by simpa [isHexB] using h
theorem isHexB_f {x : Int} (h : isHexB x = false) : ¬ (0 ≤ x ∧ x < 63) := by simpa [isHexB] using h
def inB (v a b : Int) : Bool := decide (a ≤ v ∧ v ≤ b)
theorem c_X0_isHex (g : ZH) {x : Int} (hx : zR x) : ZC 0 mX0_isHex [.inl x] g (fun r g' => r = zB (isHexB x) ∧ g' = g) := by
  refine ZC.of (by decide +kernel) (Nat.le_of_ble_eq_true rfl) ?_
  refine ZW.iload_n dX0_isHex_0 rfl ?_
  refine ZW.if_lt (tgt := 14) dX0_isHex_1 (by decide) (by omega) (fun c1 => ?_) (fun c1 => ?_)
  · refine ZW.iconst dX0_isHex_14 ?_
    refine ZW.iretz dX0_isHex_15 rfl (by first | exact Or.inl rfl | exact Or.inr rfl | assumption | omega) ?_
    exact ⟨by simp [isHexB, zB]; omega, rfl⟩
  · refine ZW.iload_n dX0_isHex_4 rfl ?_
    refine ZW.bipush dX0_isHex_5 rfl ?_
    refine ZW.icmp_ge (tgt := 14) dX0_isHex_7 (by decide) (by omega) (by omega) (fun c7 => ?_) (fun c7 => ?_)
    · refine ZW.iconst dX0_isHex_14 ?_
      refine ZW.iretz dX0_isHex_15 rfl (by first | exact Or.inl rfl | exact Or.inr rfl | assumption | omega) ?_
      exact ⟨by simp [isHexB, zB]; omega, rfl⟩
    · refine ZW.iconst dX0_isHex_10 ?_
      refine ZW.goto (tgt := 15) dX0_isHex_11 (by decide) ?_
      refine ZW.iretz dX0_isHex_15 rfl (by first | exact Or.inl rfl | exact Or.inr rfl | assumption | omega) ?_
      exact ⟨by simp [isHexB, zB]; omega, rfl⟩
theorem c_X0_isDirection (g : ZH) {x : Int} (hx : zR x) : ZC 0 mX0_isDirection [.inl x] g (fun r g' => r = zB (inB x 0 5) ∧ g' = g) := by
  refine ZC.of (by decide +kernel) (Nat.le_of_ble_eq_true rfl) ?_
  refine ZW.iload_n dX0_isDirection_0 rfl ?_
  refine ZW.if_lt (tgt := 14) dX0_isDirection_1 (by decide) (by omega) (fun c1 => ?_) (fun c1 => ?_)
  · refine ZW.iconst dX0_isDirection_14 ?_
    refine ZW.iretz dX0_isDirection_15 rfl (by first | exact Or.inl rfl | exact Or.inr rfl | assumption | omega) ?_
    exact ⟨by simp [inB, zB]; omega, rfl⟩
  · refine ZW.iload_n dX0_isDirection_4 rfl ?_
    refine ZW.bipush dX0_isDirection_5 rfl ?_
    refine ZW.icmp_ge (tgt := 14) dX0_isDirection_7 (by decide) (by omega) (by omega) (fun c7 => ?_) (fun c7 => ?_)
    · refine ZW.iconst dX0_isDirection_14 ?_
      refine ZW.iretz dX0_isDirection_15 rfl (by first | exact Or.inl rfl | exact Or.inr rfl | assumption | omega) ?_
      exact ⟨by simp [inB, zB]; omega, rfl⟩
    · refine ZW.iconst dX0_isDirection_10 ?_
      refine ZW.goto (tgt := 15) dX0_isDirection_11 (by decide) ?_
      refine ZW.iretz dX0_isDirection_15 rfl (by first | exact Or.inl rfl | exact Or.inr rfl | assumption | omega) ?_
      exact ⟨by simp [inB, zB]; omega, rfl⟩
theorem c_X0_opposite (g : ZH) {x : Int} (hx : 0 ≤ x ∧ x < 6) : ZC 0 mX0_opposite [.inl x] g (fun r g' => r = (x + 3) % 6 ∧ g' = g) := by
  refine ZC.of (by decide +kernel) (Nat.le_of_ble_eq_true rfl) ?_
  refine ZW.iload_n dX0_opposite_0 rfl ?_
  refine ZW.iconst dX0_opposite_1 ?_
  refine ZW.iadd dX0_opposite_2 ?_
  refine ZW.bipush dX0_opposite_3 rfl ?_
  refine ZW.irem dX0_opposite_5 (by omega) ?_
  refine ZW.ireti dX0_opposite_6 rfl ?_
  exact ⟨rfl, rfl⟩
def slantF (x : Int) : Int := x % 9 - x / 9 / 2
theorem c_X0_slantOf (g : ZH) {x : Int} (hx : 0 ≤ x ∧ x < 63) : ZC 0 mX0_slantOf [.inl x] g (fun r g' => r = slantF x ∧ g' = g) := by
  refine ZC.of (by decide +kernel) (Nat.le_of_ble_eq_true rfl) ?_
  refine ZW.iload_n dX0_slantOf_0 rfl ?_
  refine ZW.bipush dX0_slantOf_1 rfl ?_
  refine ZW.irem dX0_slantOf_3 (by omega) ?_
  refine ZW.iload_n dX0_slantOf_4 rfl ?_
  refine ZW.bipush dX0_slantOf_5 rfl ?_
  refine ZW.idiv dX0_slantOf_7 (by omega) ?_
  refine ZW.iconst dX0_slantOf_8 ?_
  refine ZW.idiv dX0_slantOf_9 (by omega) ?_
  refine ZW.isub dX0_slantOf_10 ?_
  refine ZW.ireti dX0_slantOf_11 rfl ?_
  exact ⟨rfl, rfl⟩
def stepsF (a b : Int) : Int := maxF (absF (b / 9 - a / 9)) (maxF (absF (slantF b - slantF a)) (absF (b / 9 - a / 9 + (slantF b - slantF a))))
theorem c_X0_stepsBetween (g : ZH) {a b : Int} (ha : 0 ≤ a ∧ a < 63) (hb : 0 ≤ b ∧ b < 63) : ZC 1 mX0_stepsBetween [.inl a, .inl b] g (fun r g' => r = stepsF a b ∧ g' = g) := by
  have hsa : -3 ≤ slantF a ∧ slantF a < 9 := by unfold slantF; omega
  have hsb : -3 ≤ slantF b ∧ slantF b < 9 := by unfold slantF; omega
  refine ZC.of (by decide +kernel) (Nat.le_of_ble_eq_true rfl) ?_
  refine ZW.iload_n dX0_stepsBetween_0 rfl ?_
  refine ZW.bipush dX0_stepsBetween_1 rfl ?_
  refine ZW.idiv dX0_stepsBetween_3 (by omega) ?_
  refine ZW.iload_n dX0_stepsBetween_4 rfl ?_
  refine ZW.bipush dX0_stepsBetween_5 rfl ?_
  refine ZW.idiv dX0_stepsBetween_7 (by omega) ?_
  refine ZW.isub dX0_stepsBetween_8 ?_
  refine ZW.istore_n dX0_stepsBetween_9 (by decide) rfl ?_
  refine ZW.iload_n dX0_stepsBetween_10 rfl ?_
  refine ZW.callS (as := [_]) dX0_stepsBetween_11 cs_X0_26 rfl (by decide) (Nat.le_of_ble_eq_true rfl) rfl (c_X0_slantOf _ hb) (fun r1 g1 ⟨h1, h2⟩ => ?_)
  subst h1; subst h2
  refine ZW.iload_n dX0_stepsBetween_14 rfl ?_
  refine ZW.callS (as := [_]) dX0_stepsBetween_15 cs_X0_26 rfl (by decide) (Nat.le_of_ble_eq_true rfl) rfl (c_X0_slantOf _ ha) (fun r1 g1 ⟨h1, h2⟩ => ?_)
  subst h1; subst h2
  have q1 : 0 ≤ absF (slantF b - slantF a) ∧ absF (slantF b - slantF a) < 100 := by unfold absF; split <;> omega
  have q2 : 0 ≤ absF (b / 9 - a / 9 + (slantF b - slantF a)) ∧ absF (b / 9 - a / 9 + (slantF b - slantF a)) < 100 := by unfold absF; split <;> omega
  have q3 : 0 ≤ absF (b / 9 - a / 9) ∧ absF (b / 9 - a / 9) < 100 := by unfold absF; split <;> omega
  have q4 : 0 ≤ maxF (absF (slantF b - slantF a)) (absF (b / 9 - a / 9 + (slantF b - slantF a))) ∧ maxF (absF (slantF b - slantF a)) (absF (b / 9 - a / 9 + (slantF b - slantF a))) < 100 := by unfold maxF; split <;> omega
  refine ZW.isub dX0_stepsBetween_18 ?_
  refine ZW.istore_n dX0_stepsBetween_19 (by decide) rfl ?_
  refine ZW.iload_n dX0_stepsBetween_20 rfl ?_
  refine ZW.mabs dX0_stepsBetween_21 (mmW_3 102 rfl rfl) (mmW_2 219 rfl rfl) (mmW_1 12 rfl rfl) (mmW_2 220 rfl rfl) (by decide) (Nat.le_of_ble_eq_true rfl) (by omega) ?_
  refine ZW.iload_n dX0_stepsBetween_24 rfl ?_
  refine ZW.mabs dX0_stepsBetween_25 (mmW_3 102 rfl rfl) (mmW_2 219 rfl rfl) (mmW_1 12 rfl rfl) (mmW_2 220 rfl rfl) (by decide) (Nat.le_of_ble_eq_true rfl) (by omega) ?_
  refine ZW.iload_n dX0_stepsBetween_28 rfl ?_
  refine ZW.iload_n dX0_stepsBetween_29 rfl ?_
  refine ZW.iadd dX0_stepsBetween_30 ?_
  refine ZW.mabs dX0_stepsBetween_31 (mmW_3 102 rfl rfl) (mmW_2 219 rfl rfl) (mmW_1 12 rfl rfl) (mmW_2 220 rfl rfl) (by decide) (Nat.le_of_ble_eq_true rfl) (by omega) ?_
  refine ZW.mmax dX0_stepsBetween_34 (mmW_3 103 rfl rfl) (mmW_2 222 rfl rfl) (mmW_1 12 rfl rfl) (mmW_2 223 rfl rfl) (by decide) (Nat.le_of_ble_eq_true rfl) (by omega) (by omega) ?_
  refine ZW.mmax dX0_stepsBetween_37 (mmW_3 103 rfl rfl) (mmW_2 222 rfl rfl) (mmW_1 12 rfl rfl) (mmW_2 223 rfl rfl) (by decide) (Nat.le_of_ble_eq_true rfl) (by omega) (by omega) ?_
  refine ZW.ireti dX0_stepsBetween_40 rfl ?_
  exact ⟨rfl, rfl⟩
end
section
-- the reference: its row s (the cell 101) is the abstract state
theorem c_X8_in (g : ZH) {v a b : Int} (hv : zR v) (ha : zR a) (hb : zR b) : ZC 0 mX8_in [.inl v, .inl a, .inl b] g (fun r g' => r = zB (inB v a b) ∧ g' = g) := by
  refine ZC.of (by decide +kernel) (Nat.le_of_ble_eq_true rfl) ?_
  refine ZW.iload_n dX8_in_0 rfl ?_
  refine ZW.iload_n dX8_in_1 rfl ?_
  refine ZW.icmp_lt (tgt := 14) dX8_in_2 (by decide) (by omega) (by omega) (fun c2 => ?_) (fun c2 => ?_)
  · refine ZW.iconst dX8_in_14 ?_
    refine ZW.iretz dX8_in_15 rfl (by first | exact Or.inl rfl | exact Or.inr rfl | assumption | omega) ?_
    exact ⟨by simp [inB, zB]; omega, rfl⟩
  · refine ZW.iload_n dX8_in_5 rfl ?_
    refine ZW.iload_n dX8_in_6 rfl ?_
    refine ZW.icmp_gt (tgt := 14) dX8_in_7 (by decide) (by omega) (by omega) (fun c7 => ?_) (fun c7 => ?_)
    · refine ZW.iconst dX8_in_14 ?_
      refine ZW.iretz dX8_in_15 rfl (by first | exact Or.inl rfl | exact Or.inr rfl | assumption | omega) ?_
      exact ⟨by simp [inB, zB]; omega, rfl⟩
    · refine ZW.iconst dX8_in_10 ?_
      refine ZW.goto (tgt := 15) dX8_in_11 (by decide) ?_
      refine ZW.iretz dX8_in_15 rfl (by first | exact Or.inl rfl | exact Or.inr rfl | assumption | omega) ?_
      exact ⟨by simp [inB, zB]; omega, rfl⟩
theorem isHexB_in (x : Int) : inB x 0 62 = isHexB x := by
  unfold inB isHexB
  congr 1
  apply propext
  omega
theorem c_X8_isHex (g : ZH) {x : Int} (hx : zR x) : ZC 1 mX8_isHex [.inl x] g (fun r g' => r = zB (isHexB x) ∧ g' = g) := by
  refine ZC.of (by decide +kernel) (Nat.le_of_ble_eq_true rfl) ?_
  refine ZW.iload_n dX8_isHex_0 rfl ?_
  refine ZW.iconst dX8_isHex_1 ?_
  refine ZW.bipush dX8_isHex_2 rfl ?_
  refine ZW.callS (as := [_, _, _]) dX8_isHex_4 cs_X8_48 rfl (by decide) (Nat.le_of_ble_eq_true rfl) rfl (c_X8_in _ hx (by decide) (by decide)) (fun r1 g1 ⟨h1, h2⟩ => ?_)
  subst h1; subst h2
  refine ZW.iretz dX8_isHex_7 rfl (by exact zB_1 _) ?_
  exact ⟨by rw [isHexB_in], rfl⟩
def ofF (r : Int → Int) (u w : Int) : Int := r (193 + 6 * u + w)
/-- every number of a state lies from 0 to 999, and no more than 16 units -/
def okB (r : Int → Int) : Prop := (∀ i, 0 ≤ i → i < 289 → 0 ≤ r i ∧ r i < 1000) ∧ r 192 ≤ 16
theorem ofF_R {r : Int → Int} (hk : okB r) {u w : Int} (hu : 0 ≤ u ∧ u < 16) (hw : 0 ≤ w ∧ w < 6) : 0 ≤ ofF r u w ∧ ofF r u w < 1000 := hk.1 _ (by omega) (by omega)
theorem c_X8_of (g : ZH) {u w : Int} (hu : 0 ≤ u ∧ u < 16) (hw : 0 ≤ w ∧ w < 6) : ZC 0 mX8_of [.inr 100, .inl u, .inl w] g (fun r g' => r = ofF (g 101) u w ∧ g' = g) := by
  refine ZC.of (by decide +kernel) (Nat.le_of_ble_eq_true rfl) ?_
  refine ZW.aload_n dX8_of_0 rfl ?_
  refine ZW.getR dX8_of_1 fl_X8_7 ⟨_, rfl, rfl⟩ ?_
  refine ZW.sipush dX8_of_4 rfl ?_
  refine ZW.bipush dX8_of_7 rfl ?_
  refine ZW.iload_n dX8_of_9 rfl ?_
  refine ZW.imul dX8_of_10 ?_
  refine ZW.iadd dX8_of_11 ?_
  refine ZW.iload_n dX8_of_12 rfl ?_
  refine ZW.iadd dX8_of_13 ?_
  refine ZW.iald dX8_of_14 rfl (by decide) (by omega) rfl ?_
  refine ZW.ireti dX8_of_15 rfl ?_
  exact ⟨rfl, rfl⟩
theorem c_X8_lay (g : ZH) {u w v : Int} (hu : 0 ≤ u ∧ u < 16) (hw : 0 ≤ w ∧ w < 6) : ZC 0 mX8_lay [.inr 100, .inl u, .inl w, .inl v] g (fun _ g' => g' = zSet g 101 (193 + 6 * u + w) v) := by
  refine ZC.of (by decide +kernel) (Nat.le_of_ble_eq_true rfl) ?_
  refine ZW.aload_n dX8_lay_0 rfl ?_
  refine ZW.getR dX8_lay_1 fl_X8_7 ⟨_, rfl, rfl⟩ ?_
  refine ZW.sipush dX8_lay_4 rfl ?_
  refine ZW.bipush dX8_lay_7 rfl ?_
  refine ZW.iload_n dX8_lay_9 rfl ?_
  refine ZW.imul dX8_lay_10 ?_
  refine ZW.iadd dX8_lay_11 ?_
  refine ZW.iload_n dX8_lay_12 rfl ?_
  refine ZW.iadd dX8_lay_13 ?_
  refine ZW.iload_n dX8_lay_14 rfl ?_
  refine ZW.iast dX8_lay_15 rfl (by decide) (by omega) ?_
  refine ZW.vret dX8_lay_16 rfl ?_
  exact rfl
def isUnitB (r : Int → Int) (u : Int) : Bool := decide (0 ≤ u ∧ u < r 192 ∧ 0 < ofF r u 1)
theorem c_X8_isUnit (g : ZH) (hk : okB (g 101)) {u : Int} (hu : zR u) : ZC 1 mX8_isUnit [.inr 100, .inl u] g (fun r g' => r = zB (isUnitB (g 101) u) ∧ g' = g) := by
  have h192 := hk.1 192 (by decide) (by decide)
  have h16 := hk.2
  refine ZC.of (by decide +kernel) (Nat.le_of_ble_eq_true rfl) ?_
  refine ZW.iload_n dX8_isUnit_0 rfl ?_
  refine ZW.iconst dX8_isUnit_1 ?_
  refine ZW.aload_n dX8_isUnit_2 rfl ?_
  refine ZW.getR dX8_isUnit_3 fl_X8_7 ⟨_, rfl, rfl⟩ ?_
  refine ZW.sipush dX8_isUnit_6 rfl ?_
  refine ZW.iald dX8_isUnit_9 rfl (by decide) (by omega) rfl ?_
  refine ZW.iconst dX8_isUnit_10 ?_
  refine ZW.isub dX8_isUnit_11 ?_
  refine ZW.callS (as := [_, _, _]) dX8_isUnit_12 cs_X8_48 rfl (by decide) (Nat.le_of_ble_eq_true rfl) rfl (c_X8_in _ hu (by decide) (by omega)) (fun r1 g1 ⟨h1, h2⟩ => ?_)
  subst h1; subst h2
  refine ZW.if_eq (tgt := 31) dX8_isUnit_15 (by decide) (by exact zB_R _) (fun c15 => ?_) (fun c15 => ?_)
  · refine ZW.iconst dX8_isUnit_31 ?_
    refine ZW.iretz dX8_isUnit_32 rfl (by first | exact Or.inl rfl | exact Or.inr rfl | assumption | omega) ?_
    have q := zB_eq c15
    simp [inB] at q
    exact ⟨by simp [isUnitB, zB]; omega, rfl⟩
  · have q := zB_ne c15
    simp [inB] at q
    refine ZW.aload_n dX8_isUnit_18 rfl ?_
    refine ZW.iload_n dX8_isUnit_19 rfl ?_
    refine ZW.iconst dX8_isUnit_20 ?_
    refine ZW.callV (as := [_, _]) dX8_isUnit_21 cv_X8_52 ⟨_, rfl⟩ rfl (by decide) (Nat.le_of_ble_eq_true rfl) rfl (c_X8_of _ (by omega) (by omega)) (fun r1 g1 ⟨h1, h2⟩ => ?_)
    subst h1; subst h2
    have q1 := ofF_R hk (u := u) (w := 1) (by omega) (by omega)
    refine ZW.if_le (tgt := 31) dX8_isUnit_24 (by decide) (by omega) (fun c24 => ?_) (fun c24 => ?_)
    · refine ZW.iconst dX8_isUnit_31 ?_
      refine ZW.iretz dX8_isUnit_32 rfl (by first | exact Or.inl rfl | exact Or.inr rfl | assumption | omega) ?_
      exact ⟨by simp [isUnitB, zB]; omega, rfl⟩
    · refine ZW.iconst dX8_isUnit_27 ?_
      refine ZW.goto (tgt := 32) dX8_isUnit_28 (by decide) ?_
      refine ZW.iretz dX8_isUnit_32 rfl (by first | exact Or.inl rfl | exact Or.inr rfl | assumption | omega) ?_
      exact ⟨by simp [isUnitB, zB]; omega, rfl⟩
-- steps on the board
def nRow (x d : Int) : Int := if d = 0 ∨ d = 3 then x / 9 else if d = 1 ∨ d = 2 then x / 9 - 1 else x / 9 + 1
def nCol (x d : Int) : Int := if d = 0 then x % 9 + 1 else if d = 3 then x % 9 - 1 else if d = 2 ∨ d = 4 then x % 9 + (x / 9 % 2 - 1) else x % 9 + x / 9 % 2
def nextF (x d : Int) : Int := if 0 ≤ nRow x d ∧ nRow x d ≤ 6 ∧ 0 ≤ nCol x d ∧ nCol x d ≤ 8 then 9 * nRow x d + nCol x d else -5
theorem nextF_R {x d : Int} : nextF x d = -5 ∨ (0 ≤ nextF x d ∧ nextF x d < 63) := by
  unfold nextF
  split <;> omega
theorem nextF_R' (x d : Int) : -5 ≤ nextF x d ∧ nextF x d < 63 := by
  rcases nextF_R (x := x) (d := d) with h | h <;> omega
theorem c_X8_next (g : ZH) {x d : Int} (hx : 0 ≤ x ∧ x < 63) (hd : 0 ≤ d ∧ d < 6) : ZC 1 mX8_next [.inl x, .inl d] g (fun r g' => r = nextF x d ∧ g' = g) := by
  refine ZC.of (by decide +kernel) (Nat.le_of_ble_eq_true rfl) ?_
  have tail : ∀ (ro co : Int), ro = nRow x d → co = nCol x d → ZW 1 mX8_next 109 [some (.inl x), some (.inl d), some (.inl ro), some (.inl co), some (.inl (x / 9 % 2))] [] g (fun r g' => r = nextF x d ∧ g' = g) := by
    intro ro co h1 h2
    have b1 : -1 ≤ ro ∧ ro ≤ 7 := by rw [h1]; unfold nRow; split <;> (try split) <;> omega
    have b2 : -1 ≤ co ∧ co ≤ 9 := by rw [h2]; unfold nCol; split <;> (try split) <;> (try split) <;> omega
    refine ZW.iload_n dX8_next_109 rfl ?_
    refine ZW.iconst dX8_next_110 ?_
    refine ZW.bipush dX8_next_111 rfl ?_
    refine ZW.callS (as := [_, _, _]) dX8_next_113 cs_X8_48 rfl (by decide) (Nat.le_of_ble_eq_true rfl) rfl (c_X8_in _ (by omega) (by decide) (by decide)) (fun r1 g1 ⟨h3, h4⟩ => ?_)
    subst h3; subst h4
    refine ZW.if_eq (tgt := 138) dX8_next_116 (by decide) (by exact zB_R _) (fun c116 => ?_) (fun c116 => ?_)
    · have q := zB_eq c116
      simp [inB] at q
      refine ZW.bipush dX8_next_138 rfl ?_
      refine ZW.ireti dX8_next_140 rfl ?_
      refine ⟨?_, rfl⟩
      unfold nextF
      rw [if_neg (by rw [← h1, ← h2]; omega)]
    · have q := zB_ne c116
      simp [inB] at q
      refine ZW.iload_n dX8_next_119 rfl ?_
      refine ZW.iconst dX8_next_120 ?_
      refine ZW.bipush dX8_next_121 rfl ?_
      refine ZW.callS (as := [_, _, _]) dX8_next_123 cs_X8_48 rfl (by decide) (Nat.le_of_ble_eq_true rfl) rfl (c_X8_in _ (by omega) (by decide) (by decide)) (fun r1 g1 ⟨h3, h4⟩ => ?_)
      subst h3; subst h4
      refine ZW.if_eq (tgt := 138) dX8_next_126 (by decide) (by exact zB_R _) (fun c126 => ?_) (fun c126 => ?_)
      · have q2 := zB_eq c126
        simp [inB] at q2
        refine ZW.bipush dX8_next_138 rfl ?_
        refine ZW.ireti dX8_next_140 rfl ?_
        refine ⟨?_, rfl⟩
        unfold nextF
        rw [if_neg (by rw [← h1, ← h2]; omega)]
      · have q2 := zB_ne c126
        simp [inB] at q2
        refine ZW.bipush dX8_next_129 rfl ?_
        refine ZW.iload_n dX8_next_131 rfl ?_
        refine ZW.imul dX8_next_132 ?_
        refine ZW.iload_n dX8_next_133 rfl ?_
        refine ZW.iadd dX8_next_134 ?_
        refine ZW.goto (tgt := 140) dX8_next_135 (by decide) ?_
        refine ZW.ireti dX8_next_140 rfl ?_
        refine ⟨?_, rfl⟩
        unfold nextF
        rw [if_pos (by rw [← h1, ← h2]; omega), ← h1, ← h2]
  refine ZW.iload_n dX8_next_0 rfl ?_
  refine ZW.bipush dX8_next_1 rfl ?_
  refine ZW.idiv dX8_next_3 (by omega) ?_
  refine ZW.istore_n dX8_next_4 (by decide) rfl ?_
  refine ZW.iload_n dX8_next_5 rfl ?_
  refine ZW.bipush dX8_next_6 rfl ?_
  refine ZW.irem dX8_next_8 (by omega) ?_
  refine ZW.istore_n dX8_next_9 (by decide) rfl ?_
  refine ZW.iload_n dX8_next_10 rfl ?_
  refine ZW.iconst dX8_next_11 ?_
  refine ZW.irem dX8_next_12 (by omega) ?_
  refine ZW.istore dX8_next_13 (by decide) rfl ?_
  refine ZW.iload_n dX8_next_15 rfl ?_
  rcases (show d = 0 ∨ d = 1 ∨ d = 2 ∨ d = 3 ∨ d = 4 ∨ d = 5 by omega) with rfl | rfl | rfl | rfl | rfl | rfl
  · refine ZW.tableIn (off := 36) (tgt := 52) dX8_next_16 (by omega) (by omega) rfl (by decide) ?_
    refine ZW.iinc dX8_next_52 rfl (by decide) rfl ?_
    refine ZW.goto (tgt := 109) dX8_next_55 (by decide) ?_
    exact tail _ _ (by simp [nRow]) (by simp [nCol])
  · refine ZW.tableIn (off := 42) (tgt := 58) dX8_next_16 (by omega) (by omega) rfl (by decide) ?_
    refine ZW.iinc dX8_next_58 rfl (by decide) rfl ?_
    refine ZW.iload_n dX8_next_61 rfl ?_
    refine ZW.iload dX8_next_62 rfl ?_
    refine ZW.iadd dX8_next_64 ?_
    refine ZW.istore_n dX8_next_65 (by decide) rfl ?_
    refine ZW.goto (tgt := 109) dX8_next_66 (by decide) ?_
    exact tail _ _ (by simp [nRow]; omega) (by simp [nCol])
  · refine ZW.tableIn (off := 53) (tgt := 69) dX8_next_16 (by omega) (by omega) rfl (by decide) ?_
    refine ZW.iinc dX8_next_69 rfl (by decide) rfl ?_
    refine ZW.iload_n dX8_next_72 rfl ?_
    refine ZW.iload dX8_next_73 rfl ?_
    refine ZW.iconst dX8_next_75 ?_
    refine ZW.isub dX8_next_76 ?_
    refine ZW.iadd dX8_next_77 ?_
    refine ZW.istore_n dX8_next_78 (by decide) rfl ?_
    refine ZW.goto (tgt := 109) dX8_next_79 (by decide) ?_
    exact tail _ _ (by simp [nRow]; omega) (by simp [nCol])
  · refine ZW.tableIn (off := 66) (tgt := 82) dX8_next_16 (by omega) (by omega) rfl (by decide) ?_
    refine ZW.iinc dX8_next_82 rfl (by decide) rfl ?_
    refine ZW.goto (tgt := 109) dX8_next_85 (by decide) ?_
    exact tail _ _ (by simp [nRow]) (by simp [nCol]; omega)
  · refine ZW.tableIn (off := 72) (tgt := 88) dX8_next_16 (by omega) (by omega) rfl (by decide) ?_
    refine ZW.iinc dX8_next_88 rfl (by decide) rfl ?_
    refine ZW.iload_n dX8_next_91 rfl ?_
    refine ZW.iload dX8_next_92 rfl ?_
    refine ZW.iconst dX8_next_94 ?_
    refine ZW.isub dX8_next_95 ?_
    refine ZW.iadd dX8_next_96 ?_
    refine ZW.istore_n dX8_next_97 (by decide) rfl ?_
    refine ZW.goto (tgt := 109) dX8_next_98 (by decide) ?_
    exact tail _ _ (by simp [nRow]) (by simp [nCol])
  · refine ZW.tableOut (tgt := 101) dX8_next_16 (by omega) (by omega) (by decide) ?_
    refine ZW.iinc dX8_next_101 rfl (by decide) rfl ?_
    refine ZW.iload_n dX8_next_104 rfl ?_
    refine ZW.iload dX8_next_105 rfl ?_
    refine ZW.iadd dX8_next_107 ?_
    refine ZW.istore_n dX8_next_108 (by decide) rfl ?_
    exact tail _ _ (by simp [nRow]) (by simp [nCol])
end
section
-- frames by cells
def zFr (ks : List Nat) (g g' : ZH) : Prop := ∀ k : Nat, k ∉ ks → g' k = g k
theorem zFr.rf (ks : List Nat) (g : ZH) : zFr ks g g := fun _ _ => rfl
theorem zFr.tr {ks : List Nat} {g g1 g2 : ZH} (h : zFr ks g g1) (h2 : zFr ks g1 g2) : zFr ks g g2 := fun k hk => (h2 k hk).trans (h k hk)
theorem zFr.up {ks ks' : List Nat} {g g1 : ZH} (h : zFr ks g g1) (hs : ∀ k, k ∈ ks → k ∈ ks') : zFr ks' g g1 := fun k hk => h k (fun q => hk (hs k q))
theorem zSet_same (g : ZH) (k : Nat) (i v : Int) : zSet g k i v k = zUp (g k) i v := if_pos rfl
theorem zSet_ne (g : ZH) {j k : Nat} (i v : Int) (hj : j ≠ k) : zSet g k i v j = g j := if_neg hj
theorem zFr.set {ks : List Nat} {g g1 : ZH} (h : zFr ks g g1) {k : Nat} (hk : k ∈ ks) (i v : Int) : zFr ks g (zSet g1 k i v) := fun j hj => (zSet_ne g1 i v (fun q : j = k => hj (by rw [q]; exact hk))).trans (h j hj)
theorem zFr.row {ks : List Nat} {g g1 : ZH} (h : zFr ks g g1) {k : Nat} (hk : k ∈ ks) (f : Int → Int) : zFr ks g (zRow g1 k f) := fun j hj => (zRow_ne g1 f (fun q : j = k => hj (by rw [q]; exact hk))).trans (h j hj)
def anyF (p : Int → Bool) : Nat → Int → Bool
  | 0, _ => false
  | n + 1, i => p i || anyF p n (i + 1)
def cntF (f : Int → Int) : Nat → Int → Int
  | 0, _ => 0
  | n + 1, i => f i + cntF f n (i + 1)
theorem anyF_iff {p : Int → Bool} : ∀ {n : Nat} {i : Int}, anyF p n i = true ↔ ∃ j, i ≤ j ∧ j < i + n ∧ p j = true
  | 0, i => ⟨fun h => Bool.noConfusion h, fun ⟨j, h1, h2, _⟩ => absurd h2 (by omega)⟩
  | n + 1, i => by
    unfold anyF
    rw [Bool.or_eq_true, anyF_iff]
    constructor
    · rintro (h | ⟨j, h1, h2, h3⟩)
      · exact ⟨i, by omega, by omega, h⟩
      · exact ⟨j, by omega, by omega, h3⟩
    · rintro ⟨j, h1, h2, h3⟩
      by_cases hj : j = i
      · subst hj
        exact Or.inl h3
      · exact Or.inr ⟨j, by omega, by omega, h3⟩
theorem anyF_false {p : Int → Bool} {n : Nat} {i : Int} : anyF p n i = false ↔ ∀ j, i ≤ j → j < i + n → p j = false := by
  rw [← Bool.not_eq_true, anyF_iff]
  constructor
  · intro h j h1 h2
    rw [← Bool.not_eq_true]
    exact fun q => h ⟨j, h1, h2, q⟩
  · rintro h ⟨j, h1, h2, h3⟩
    rw [h j h1 h2] at h3
    cases h3
theorem anyF_cong {p q : Int → Bool} : ∀ {n : Nat} {i : Int}, (∀ j, i ≤ j → j < i + n → p j = q j) → anyF p n i = anyF q n i
  | 0, _, _ => rfl
  | n + 1, i, h => by
    unfold anyF
    rw [h i (by omega) (by omega), anyF_cong (fun j h1 h2 => h j (by omega) (by omega))]
theorem cntF_cong {p q : Int → Int} : ∀ {n : Nat} {i : Int}, (∀ j, i ≤ j → j < i + n → p j = q j) → cntF p n i = cntF q n i
  | 0, _, _ => rfl
  | n + 1, i, h => by
    unfold cntF
    rw [h i (by omega) (by omega), cntF_cong (fun j h1 h2 => h j (by omega) (by omega))]
theorem cntF_R {p : Int → Int} {b : Int} (hb : 0 ≤ b) : ∀ {n : Nat} {i : Int}, (∀ j, i ≤ j → j < i + n → 0 ≤ p j ∧ p j ≤ b) → 0 ≤ cntF p n i ∧ cntF p n i ≤ n * b
  | 0, _, _ => by unfold cntF; omega
  | n + 1, i, h => by
    unfold cntF
    have h1 := h i (by omega) (by omega)
    have h2 := cntF_R hb (n := n) (i := i + 1) (fun j h1 h2 => h j (by omega) (by omega))
    have h3 : ((n + 1 : Nat) : Int) * b = n * b + b := by rw [Int.natCast_add, Int.add_mul]; simp
    omega
-- the direction of a hex from another
def dirG (x o : Int) : Nat → Int → Int
  | 0, _ => -5
  | n + 1, d => if nextF x d = o then d else dirG x o n (d + 1)
def dirF (x o : Int) : Int := dirG x o 6 0
theorem dirG_R {x o : Int} : ∀ {n : Nat} {d : Int}, dirG x o n d = -5 ∨ (d ≤ dirG x o n d ∧ dirG x o n d < d + n ∧ nextF x (dirG x o n d) = o)
  | 0, _ => Or.inl rfl
  | n + 1, d => by
    unfold dirG
    split
    · next h => exact Or.inr ⟨by omega, by omega, h⟩
    · rcases dirG_R (x := x) (o := o) (n := n) (d := d + 1) with h | ⟨h1, h2, h3⟩
      · exact Or.inl h
      · exact Or.inr ⟨by omega, by omega, h3⟩
theorem dirF_R (x o : Int) : dirF x o = -5 ∨ (0 ≤ dirF x o ∧ dirF x o < 6 ∧ nextF x (dirF x o) = o) := by
  have h := dirG_R (x := x) (o := o) (n := 6) (d := 0)
  unfold dirF
  omega
theorem c_X8_directionTo (g : ZH) {x o : Int} (hx : 0 ≤ x ∧ x < 63) (ho : zR o) : ZC 2 mX8_directionTo [.inl x, .inl o] g (fun r g' => r = dirF x o ∧ g' = g) := by
  refine ZC.of (by decide +kernel) (Nat.le_of_ble_eq_true rfl) ?_
  have loop : ∀ (n : Nat) (d : Int), 0 ≤ d → d + n = 6 → ZW 2 mX8_directionTo 2 [some (.inl x), some (.inl o), some (.inl d)] [] g (fun r g' => r = dirG x o n d ∧ g' = g) := by
    intro n
    induction n with
    | zero =>
      intro d h0 hn
      refine ZW.iload_n dX8_directionTo_2 rfl ?_
      refine ZW.bipush dX8_directionTo_3 rfl ?_
      refine ZW.icmp_ge (tgt := 25) dX8_directionTo_5 (by decide) (by omega) (by omega) (fun c5 => ?_) (fun c5 => ?_)
      · refine ZW.bipush dX8_directionTo_25 rfl ?_
        refine ZW.ireti dX8_directionTo_27 rfl ?_
        exact ⟨rfl, rfl⟩
      · exact absurd c5 (by omega)
    | succ n ih =>
      intro d h0 hn
      refine ZW.iload_n dX8_directionTo_2 rfl ?_
      refine ZW.bipush dX8_directionTo_3 rfl ?_
      refine ZW.icmp_ge (tgt := 25) dX8_directionTo_5 (by decide) (by omega) (by omega) (fun c5 => ?_) (fun c5 => ?_)
      · exact absurd c5 (by omega)
      · refine ZW.iload_n dX8_directionTo_8 rfl ?_
        refine ZW.iload_n dX8_directionTo_9 rfl ?_
        refine ZW.callS (as := [_, _]) dX8_directionTo_10 cs_X8_59 rfl (by decide) (Nat.le_of_ble_eq_true rfl) rfl (c_X8_next _ hx (by omega)) (fun r1 g1 ⟨h1, h2⟩ => ?_)
        subst h1; subst h2
        have q := nextF_R' x d
        refine ZW.iload_n dX8_directionTo_13 rfl ?_
        refine ZW.icmp_ne (tgt := 19) dX8_directionTo_14 (by decide) (by omega) (by omega) (fun c14 => ?_) (fun c14 => ?_)
        · refine ZW.iinc dX8_directionTo_19 rfl (by decide) rfl ?_
          refine ZW.goto (tgt := 2) dX8_directionTo_22 (by decide) ?_
          unfold dirG
          rw [if_neg c14]
          exact ih (d + 1) (by omega) (by omega)
        · refine ZW.iload_n dX8_directionTo_17 rfl ?_
          refine ZW.ireti dX8_directionTo_18 rfl ?_
          unfold dirG
          rw [if_pos c14]
          exact ⟨rfl, rfl⟩
  refine ZW.iconst dX8_directionTo_0 ?_
  refine ZW.istore_n dX8_directionTo_1 (by decide) rfl ?_
  exact loop 6 0 (by omega) (by omega)
-- rivers, as bits
def bitB (v d : Int) : Bool := decide (v / 2 ^ d.toNat % 2 = 1)
theorem iI_shr {v d : Int} (hv : 0 ≤ v ∧ v < 2147483648) (hd : 0 ≤ d ∧ d < 6) : iI v >>> (iI d &&& 31) = iI (v / 2 ^ d.toNat) := by
  obtain ⟨n, rfl⟩ := Int.eq_ofNat_of_zero_le hv.1
  rcases (show d = 0 ∨ d = 1 ∨ d = 2 ∨ d = 3 ∨ d = 4 ∨ d = 5 by omega) with rfl | rfl | rfl | rfl | rfl | rfl
  · exact pk_shrN (by omega) _ 0 (by decide)
  · exact pk_shrN (by omega) _ 1 (by decide)
  · exact pk_shrN (by omega) _ 2 (by decide)
  · exact pk_shrN (by omega) _ 3 (by decide)
  · exact pk_shrN (by omega) _ 4 (by decide)
  · exact pk_shrN (by omega) _ 5 (by decide)
theorem iI_and1 {v : Int} (hv : 0 ≤ v ∧ v < 2147483648) : iI v &&& iI 1 = iI (v % 2) := by
  obtain ⟨n, rfl⟩ := Int.eq_ofNat_of_zero_le hv.1
  exact pk_andN (by omega) 1 (by decide)
theorem bit_R {v d : Int} (hv : 0 ≤ v ∧ v < 2147483648) (hd : 0 ≤ d ∧ d < 6) : 0 ≤ v / 2 ^ d.toNat ∧ v / 2 ^ d.toNat < 2147483648 := by
  rcases (show d = 0 ∨ d = 1 ∨ d = 2 ∨ d = 3 ∨ d = 4 ∨ d = 5 by omega) with rfl | rfl | rfl | rfl | rfl | rfl <;> simp <;> omega
def rivB (r : Int → Int) (x d : Int) : Bool := bitB (r (63 + x)) d
theorem c_X8_hasRiver (g : ZH) (hk : okB (g 101)) {x d : Int} (hx : 0 ≤ x ∧ x < 63) (hd : 0 ≤ d ∧ d < 6) : ZC 0 mX8_hasRiver [.inr 100, .inl x, .inl d] g (fun r g' => r = zB (rivB (g 101) x d) ∧ g' = g) := by
  have h1 := hk.1 (63 + x) (by omega) (by omega)
  have h2 := bit_R (v := g 101 (63 + x)) (d := d) (by omega) hd
  refine ZC.of (by decide +kernel) (Nat.le_of_ble_eq_true rfl) ?_
  refine ZW.aload_n dX8_hasRiver_0 rfl ?_
  refine ZW.getR dX8_hasRiver_1 fl_X8_7 ⟨_, rfl, rfl⟩ ?_
  refine ZW.bipush dX8_hasRiver_4 rfl ?_
  refine ZW.iload_n dX8_hasRiver_6 rfl ?_
  refine ZW.iadd dX8_hasRiver_7 ?_
  refine ZW.iald dX8_hasRiver_8 rfl (by decide) (by omega) rfl ?_
  refine ZW.iload_n dX8_hasRiver_9 rfl ?_
  refine ZW.ishr dX8_hasRiver_10 (iI_shr (by omega) hd) ?_
  refine ZW.iconst dX8_hasRiver_11 ?_
  refine ZW.iand dX8_hasRiver_12 (iI_and1 h2) ?_
  refine ZW.iconst dX8_hasRiver_13 ?_
  refine ZW.icmp_ne (tgt := 21) dX8_hasRiver_14 (by decide) (by omega) (by omega) (fun c14 => ?_) (fun c14 => ?_)
  · refine ZW.iconst dX8_hasRiver_21 ?_
    refine ZW.iretz dX8_hasRiver_22 rfl (by first | exact Or.inl rfl | exact Or.inr rfl | assumption | omega) ?_
    exact ⟨by simp [rivB, bitB, zB, c14], rfl⟩
  · refine ZW.iconst dX8_hasRiver_17 ?_
    refine ZW.goto (tgt := 22) dX8_hasRiver_18 (by decide) ?_
    refine ZW.iretz dX8_hasRiver_22 rfl (by first | exact Or.inl rfl | exact Or.inr rfl | assumption | omega) ?_
    exact ⟨by simp [rivB, bitB, zB, c14], rfl⟩
-- units
def uoF (r : Int → Int) (x : Int) : Nat → Int → Int
  | 0, _ => -5
  | n + 1, u => if 0 < ofF r u 1 ∧ ofF r u 2 = x then u else uoF r x n (u + 1)
def unitOnF (r : Int → Int) (x : Int) : Int := uoF r x (r 192).toNat 0
theorem uoF_R {r : Int → Int} {x : Int} : ∀ {n : Nat} {u : Int}, uoF r x n u = -5 ∨ (u ≤ uoF r x n u ∧ uoF r x n u < u + n ∧ 0 < ofF r (uoF r x n u) 1 ∧ ofF r (uoF r x n u) 2 = x)
  | 0, _ => Or.inl rfl
  | n + 1, u => by
    unfold uoF
    split
    · next h => exact Or.inr ⟨by omega, by omega, h.1, h.2⟩
    · rcases uoF_R (r := r) (x := x) (n := n) (u := u + 1) with h | ⟨h1, h2, h3⟩
      · exact Or.inl h
      · exact Or.inr ⟨by omega, by omega, h3⟩
theorem uoF_no {r : Int → Int} {x : Int} : ∀ {n : Nat} {u : Int}, 0 ≤ u → uoF r x n u = -5 → ∀ v, u ≤ v → v < u + n → ¬ (0 < ofF r v 1 ∧ ofF r v 2 = x)
  | 0, u, _, _, v, h1, h2 => by omega
  | n + 1, u, h0, h, v, h1, h2 => by
    unfold uoF at h
    split at h
    · omega
    · next hn =>
      by_cases hv : v = u
      · subst hv; exact hn
      · exact uoF_no (n := n) (u := u + 1) (by omega) h v (by omega) (by omega)
theorem unitOnF_R {r : Int → Int} (hk : okB r) (x : Int) : unitOnF r x = -5 ∨ (0 ≤ unitOnF r x ∧ unitOnF r x < r 192 ∧ unitOnF r x < 16 ∧ 0 < ofF r (unitOnF r x) 1 ∧ ofF r (unitOnF r x) 2 = x) := by
  have h := uoF_R (r := r) (x := x) (n := (r 192).toNat) (u := 0)
  have h1 := hk.1 192 (by decide) (by decide)
  have h2 := hk.2
  unfold unitOnF
  omega
theorem unitOnF_no {r : Int → Int} {x : Int} (h : unitOnF r x = -5) {v : Int} (h0 : 0 ≤ v) (hv : v < r 192) : ¬ (0 < ofF r v 1 ∧ ofF r v 2 = x) := uoF_no (by decide) h v h0 (by omega)
theorem c_X8_unitOn (g : ZH) (hk : okB (g 101)) {x : Int} (hx : zR x) : ZC 1 mX8_unitOn [.inr 100, .inl x] g (fun r g' => r = unitOnF (g 101) x ∧ g' = g) := by
  have h192 := hk.1 192 (by decide) (by decide)
  have h16 := hk.2
  refine ZC.of (by decide +kernel) (Nat.le_of_ble_eq_true rfl) ?_
  have loop : ∀ (n : Nat) (u : Int), 0 ≤ u → u + n = g 101 192 → ZW 1 mX8_unitOn 2 [some (.inr 100), some (.inl x), some (.inl u)] [] g (fun r g' => r = uoF (g 101) x n u ∧ g' = g) := by
    intro n
    induction n with
    | zero =>
      intro u h0 hn
      refine ZW.iload_n dX8_unitOn_2 rfl ?_
      refine ZW.aload_n dX8_unitOn_3 rfl ?_
      refine ZW.getR dX8_unitOn_4 fl_X8_7 ⟨_, rfl, rfl⟩ ?_
      refine ZW.sipush dX8_unitOn_7 rfl ?_
      refine ZW.iald dX8_unitOn_10 rfl (by decide) (by omega) rfl ?_
      refine ZW.icmp_ge (tgt := 41) dX8_unitOn_11 (by decide) (by omega) (by omega) (fun c11 => ?_) (fun c11 => ?_)
      · refine ZW.bipush dX8_unitOn_41 rfl ?_
        refine ZW.ireti dX8_unitOn_43 rfl ?_
        exact ⟨rfl, rfl⟩
      · exact absurd c11 (by omega)
    | succ n ih =>
      intro u h0 hn
      refine ZW.iload_n dX8_unitOn_2 rfl ?_
      refine ZW.aload_n dX8_unitOn_3 rfl ?_
      refine ZW.getR dX8_unitOn_4 fl_X8_7 ⟨_, rfl, rfl⟩ ?_
      refine ZW.sipush dX8_unitOn_7 rfl ?_
      refine ZW.iald dX8_unitOn_10 rfl (by decide) (by omega) rfl ?_
      refine ZW.icmp_ge (tgt := 41) dX8_unitOn_11 (by decide) (by omega) (by omega) (fun c11 => ?_) (fun c11 => ?_)
      · exact absurd c11 (by omega)
      · refine ZW.aload_n dX8_unitOn_14 rfl ?_
        refine ZW.iload_n dX8_unitOn_15 rfl ?_
        refine ZW.iconst dX8_unitOn_16 ?_
        refine ZW.callV (as := [_, _]) dX8_unitOn_17 cv_X8_52 ⟨_, rfl⟩ rfl (by decide) (Nat.le_of_ble_eq_true rfl) rfl (c_X8_of _ (by omega) (by omega)) (fun r1 g1 ⟨h1, h2⟩ => ?_)
        subst h1; subst h2
        have q1 := ofF_R hk (u := u) (w := 1) (by omega) (by omega)
        have q2 := ofF_R hk (u := u) (w := 2) (by omega) (by omega)
        refine ZW.if_le (tgt := 35) dX8_unitOn_20 (by decide) (by omega) (fun c20 => ?_) (fun c20 => ?_)
        · refine ZW.iinc dX8_unitOn_35 rfl (by decide) rfl ?_
          refine ZW.goto (tgt := 2) dX8_unitOn_38 (by decide) ?_
          unfold uoF
          rw [if_neg (by omega)]
          exact ih (u + 1) (by omega) (by omega)
        · refine ZW.aload_n dX8_unitOn_23 rfl ?_
          refine ZW.iload_n dX8_unitOn_24 rfl ?_
          refine ZW.iconst dX8_unitOn_25 ?_
          refine ZW.callV (as := [_, _]) dX8_unitOn_26 cv_X8_52 ⟨_, rfl⟩ rfl (by decide) (Nat.le_of_ble_eq_true rfl) rfl (c_X8_of _ (by omega) (by omega)) (fun r1 g1 ⟨h1, h2⟩ => ?_)
          subst h1; subst h2
          refine ZW.iload_n dX8_unitOn_29 rfl ?_
          refine ZW.icmp_ne (tgt := 35) dX8_unitOn_30 (by decide) (by omega) (by omega) (fun c30 => ?_) (fun c30 => ?_)
          · refine ZW.iinc dX8_unitOn_35 rfl (by decide) rfl ?_
            refine ZW.goto (tgt := 2) dX8_unitOn_38 (by decide) ?_
            unfold uoF
            rw [if_neg (by omega)]
            exact ih (u + 1) (by omega) (by omega)
          · refine ZW.iload_n dX8_unitOn_33 rfl ?_
            refine ZW.ireti dX8_unitOn_34 rfl ?_
            unfold uoF
            rw [if_pos (by omega)]
            exact ⟨rfl, rfl⟩
  refine ZW.iconst dX8_unitOn_0 ?_
  refine ZW.istore_n dX8_unitOn_1 (by decide) rfl ?_
  exact loop (g 101 192).toNat 0 (by omega) (by omega)
def isOnB (r : Int → Int) (x side : Int) : Bool := decide (unitOnF r x ≠ -5 ∧ ofF r (unitOnF r x) 0 = side)
theorem c_X8_isOn (g : ZH) (hk : okB (g 101)) {x side : Int} (hx : zR x) (hs : zR side) : ZC 2 mX8_isOn [.inr 100, .inl x, .inl side] g (fun r g' => r = zB (isOnB (g 101) x side) ∧ g' = g) := by
  refine ZC.of (by decide +kernel) (Nat.le_of_ble_eq_true rfl) ?_
  refine ZW.aload_n dX8_isOn_0 rfl ?_
  refine ZW.iload_n dX8_isOn_1 rfl ?_
  refine ZW.callV (as := [_]) dX8_isOn_2 cv_X8_62 ⟨_, rfl⟩ rfl (by decide) (Nat.le_of_ble_eq_true rfl) rfl (c_X8_unitOn _ hk hx) (fun r1 g1 ⟨h1, h2⟩ => ?_)
  subst h1; subst h2
  have q := unitOnF_R hk x
  refine ZW.istore_n dX8_isOn_5 (by decide) rfl ?_
  refine ZW.iload_n dX8_isOn_6 rfl ?_
  refine ZW.bipush dX8_isOn_7 rfl ?_
  refine ZW.icmp_eq (tgt := 26) dX8_isOn_9 (by decide) (by omega) (by omega) (fun c9 => ?_) (fun c9 => ?_)
  · refine ZW.iconst dX8_isOn_26 ?_
    refine ZW.iretz dX8_isOn_27 rfl (by first | exact Or.inl rfl | exact Or.inr rfl | assumption | omega) ?_
    exact ⟨by simp [isOnB, zB, c9], rfl⟩
  · refine ZW.aload_n dX8_isOn_12 rfl ?_
    refine ZW.iload_n dX8_isOn_13 rfl ?_
    refine ZW.iconst dX8_isOn_14 ?_
    refine ZW.callV (as := [_, _]) dX8_isOn_15 cv_X8_52 ⟨_, rfl⟩ rfl (by decide) (Nat.le_of_ble_eq_true rfl) rfl (c_X8_of _ (by omega) (by omega)) (fun r1 g1 ⟨h1, h2⟩ => ?_)
    subst h1; subst h2
    have q1 := ofF_R hk (u := unitOnF (g1 101) x) (w := 0) (by omega) (by omega)
    refine ZW.iload_n dX8_isOn_18 rfl ?_
    refine ZW.icmp_ne (tgt := 26) dX8_isOn_19 (by decide) (by omega) (by omega) (fun c19 => ?_) (fun c19 => ?_)
    · refine ZW.iconst dX8_isOn_26 ?_
      refine ZW.iretz dX8_isOn_27 rfl (by first | exact Or.inl rfl | exact Or.inr rfl | assumption | omega) ?_
      exact ⟨by simp [isOnB, zB, c9, c19], rfl⟩
    · refine ZW.iconst dX8_isOn_22 ?_
      refine ZW.goto (tgt := 27) dX8_isOn_23 (by decide) ?_
      refine ZW.iretz dX8_isOn_27 rfl (by first | exact Or.inl rfl | exact Or.inr rfl | assumption | omega) ?_
      exact ⟨by simp [isOnB, zB, c9, c19], rfl⟩
def zoneB (r : Int → Int) (x side : Int) : Bool := anyF (fun d => decide (nextF x d ≠ -5) && isOnB r (nextF x d) side) 6 0
theorem c_X8_isInZone (g : ZH) (hk : okB (g 101)) {x side : Int} (hx : 0 ≤ x ∧ x < 63) (hs : zR side) : ZC 3 mX8_isInZone [.inr 100, .inl x, .inl side] g (fun r g' => r = zB (zoneB (g 101) x side) ∧ g' = g) := by
  refine ZC.of (by decide +kernel) (Nat.le_of_ble_eq_true rfl) ?_
  have loop : ∀ (n : Nat) (d : Int) (b : Bool) (o : Option ZV), 0 ≤ d → d + n = 6 → ZW 3 mX8_isInZone 5 [some (.inr 100), some (.inl x), some (.inl side), some (.inl (zB b)), some (.inl d), o] [] g (fun r g' => r = zB (b || anyF (fun d => decide (nextF x d ≠ -5) && isOnB (g 101) (nextF x d) side) n d) ∧ g' = g) := by
    intro n
    induction n with
    | zero =>
      intro d b o h0 hn
      refine ZW.iload dX8_isInZone_5 rfl ?_
      refine ZW.bipush dX8_isInZone_7 rfl ?_
      refine ZW.icmp_ge (tgt := 53) dX8_isInZone_9 (by decide) (by omega) (by omega) (fun c9 => ?_) (fun c9 => ?_)
      · refine ZW.iload_n dX8_isInZone_53 rfl ?_
        refine ZW.iretz dX8_isInZone_54 rfl (by exact zB_1 _) ?_
        exact ⟨by simp [anyF], rfl⟩
      · exact absurd c9 (by omega)
    | succ n ih =>
      intro d b o h0 hn
      refine ZW.iload dX8_isInZone_5 rfl ?_
      refine ZW.bipush dX8_isInZone_7 rfl ?_
      refine ZW.icmp_ge (tgt := 53) dX8_isInZone_9 (by decide) (by omega) (by omega) (fun c9 => ?_) (fun c9 => ?_)
      · exact absurd c9 (by omega)
      · refine ZW.iload_n dX8_isInZone_12 rfl ?_
        refine ZW.iload dX8_isInZone_13 rfl ?_
        refine ZW.callS (as := [_, _]) dX8_isInZone_15 cs_X8_59 rfl (by decide) (Nat.le_of_ble_eq_true rfl) rfl (c_X8_next _ hx (by omega)) (fun r1 g1 ⟨h1, h2⟩ => ?_)
        subst h1; subst h2
        have q := nextF_R (x := x) (d := d)
        refine ZW.istore dX8_isInZone_18 (by decide) rfl ?_
        refine ZW.iload_n dX8_isInZone_20 rfl ?_
        refine ZW.if_ne (tgt := 41) dX8_isInZone_21 (by decide) (by exact zB_R _) (fun c21 => ?_) (fun c21 => ?_)
        · have e := zB_ne c21
          subst e
          refine ZW.iconst dX8_isInZone_41 ?_
          refine ZW.goto (tgt := 46) dX8_isInZone_42 (by decide) ?_
          refine ZW.istore_n dX8_isInZone_46 (by decide) rfl ?_
          refine ZW.iinc dX8_isInZone_47 rfl (by decide) rfl ?_
          refine ZW.goto (tgt := 5) dX8_isInZone_50 (by decide) ?_
          refine ZW.mono (ih (d + 1) true _ (by omega) (by omega)) (fun r g' hh => ?_)
          rw [hh.1, hh.2]
          exact ⟨by simp, rfl⟩
        · have e := zB_eq c21
          subst e
          refine ZW.iload dX8_isInZone_24 rfl ?_
          refine ZW.bipush dX8_isInZone_26 rfl ?_
          refine ZW.icmp_eq (tgt := 45) dX8_isInZone_28 (by decide) (by omega) (by omega) (fun c28 => ?_) (fun c28 => ?_)
          · refine ZW.iconst dX8_isInZone_45 ?_
            refine ZW.istore_n dX8_isInZone_46 (by decide) rfl ?_
            refine ZW.iinc dX8_isInZone_47 rfl (by decide) rfl ?_
            refine ZW.goto (tgt := 5) dX8_isInZone_50 (by decide) ?_
            refine ZW.mono (ih (d + 1) false _ (by omega) (by omega)) (fun r g' hh => ?_)
            rw [hh.1, hh.2]
            exact ⟨by simp [anyF, c28], rfl⟩
          · refine ZW.aload_n dX8_isInZone_31 rfl ?_
            refine ZW.iload dX8_isInZone_32 rfl ?_
            refine ZW.iload_n dX8_isInZone_34 rfl ?_
            refine ZW.callV (as := [_, _]) dX8_isInZone_35 cv_X8_66 ⟨_, rfl⟩ rfl (by decide) (Nat.le_of_ble_eq_true rfl) rfl (c_X8_isOn _ hk (by omega) hs) (fun r1 g1 ⟨h1, h2⟩ => ?_)
            subst h1; subst h2
            refine ZW.if_eq (tgt := 45) dX8_isInZone_38 (by decide) (by exact zB_R _) (fun c38 => ?_) (fun c38 => ?_)
            · have e := zB_eq c38
              refine ZW.iconst dX8_isInZone_45 ?_
              refine ZW.istore_n dX8_isInZone_46 (by decide) rfl ?_
              refine ZW.iinc dX8_isInZone_47 rfl (by decide) rfl ?_
              refine ZW.goto (tgt := 5) dX8_isInZone_50 (by decide) ?_
              refine ZW.mono (ih (d + 1) false _ (by omega) (by omega)) (fun r g' hh => ?_)
              rw [hh.1, hh.2]
              exact ⟨by simp [anyF, e], rfl⟩
            · have e := zB_ne c38
              refine ZW.iconst dX8_isInZone_41 ?_
              refine ZW.goto (tgt := 46) dX8_isInZone_42 (by decide) ?_
              refine ZW.istore_n dX8_isInZone_46 (by decide) rfl ?_
              refine ZW.iinc dX8_isInZone_47 rfl (by decide) rfl ?_
              refine ZW.goto (tgt := 5) dX8_isInZone_50 (by decide) ?_
              refine ZW.mono (ih (d + 1) true _ (by omega) (by omega)) (fun r g' hh => ?_)
              rw [hh.1, hh.2]
              exact ⟨by simp [anyF, e, c28], rfl⟩
  refine ZW.iconst dX8_isInZone_0 ?_
  refine ZW.istore_n dX8_isInZone_1 (by decide) rfl ?_
  refine ZW.iconst dX8_isInZone_2 ?_
  refine ZW.istore dX8_isInZone_3 (by decide) rfl ?_
  refine ZW.mono (loop 6 0 false _ (by omega) (by omega)) (fun r g' hh => ?_)
  rw [hh.1, hh.2]
  exact ⟨by simp [zoneB], rfl⟩
theorem c_X8_laysZone (g : ZH) (hk : okB (g 101)) {side : Int} (hs : zR side) : ZC 4 mX8_laysZone [.inr 100, .inl side] g (fun _ g' => zFr [109] g g' ∧ ∀ x, 0 ≤ x → x < 63 → g' 109 x = zB (zoneB (g 101) x side)) := by
  refine ZC.of (by decide +kernel) (Nat.le_of_ble_eq_true rfl) ?_
  have loop : ∀ (n : Nat) (i : Int) (g1 : ZH), 0 ≤ i → i + n = 63 → zFr [109] g g1 → (∀ x, 0 ≤ x → x < i → g1 109 x = zB (zoneB (g 101) x side)) → ZW 4 mX8_laysZone 2 [some (.inr 100), some (.inl side), some (.inl i)] [] g1 (fun _ g' => zFr [109] g g' ∧ ∀ x, 0 ≤ x → x < 63 → g' 109 x = zB (zoneB (g 101) x side)) := by
    intro n
    induction n with
    | zero =>
      intro i g1 h0 hn hf hz
      refine ZW.iload_n dX8_laysZone_2 rfl ?_
      refine ZW.bipush dX8_laysZone_3 rfl ?_
      refine ZW.icmp_ge (tgt := 26) dX8_laysZone_5 (by decide) (by omega) (by omega) (fun c5 => ?_) (fun c5 => ?_)
      · refine ZW.vret dX8_laysZone_26 rfl ?_
        exact ⟨hf, fun x h1 h2 => hz x h1 (by omega)⟩
      · exact absurd c5 (by omega)
    | succ n ih =>
      intro i g1 h0 hn hf hz
      have e1 : g1 101 = g 101 := hf 101 (by decide)
      refine ZW.iload_n dX8_laysZone_2 rfl ?_
      refine ZW.bipush dX8_laysZone_3 rfl ?_
      refine ZW.icmp_ge (tgt := 26) dX8_laysZone_5 (by decide) (by omega) (by omega) (fun c5 => ?_) (fun c5 => ?_)
      · exact absurd c5 (by omega)
      · refine ZW.aload_n dX8_laysZone_8 rfl ?_
        refine ZW.getR dX8_laysZone_9 fl_X8_35 ⟨_, rfl, rfl⟩ ?_
        refine ZW.iload_n dX8_laysZone_12 rfl ?_
        refine ZW.aload_n dX8_laysZone_13 rfl ?_
        refine ZW.iload_n dX8_laysZone_14 rfl ?_
        refine ZW.iload_n dX8_laysZone_15 rfl ?_
        refine ZW.callV (as := [_, _]) dX8_laysZone_16 cv_X8_70 ⟨_, rfl⟩ rfl (by decide) (Nat.le_of_ble_eq_true rfl) rfl (c_X8_isInZone _ (e1 ▸ hk) (by omega) hs) (fun r1 g2 ⟨h1, h2⟩ => ?_)
        subst h1; subst h2
        refine ZW.zast dX8_laysZone_19 rfl (by decide) (by omega) (by exact zB_1 _) ?_
        refine ZW.iinc dX8_laysZone_20 rfl (by decide) rfl ?_
        refine ZW.goto (tgt := 2) dX8_laysZone_23 (by decide) ?_
        refine ih (i + 1) _ (by omega) (by omega) (hf.set (by decide) _ _) (fun x h1 h2 => ?_)
        rw [zSet_same]
        by_cases hx : x = i
        · rw [hx, zUp_same, e1]
        · rw [zUp_ne _ _ hx]
          exact hz x h1 (by omega)
  refine ZW.iconst dX8_laysZone_0 ?_
  refine ZW.istore_n dX8_laysZone_1 (by decide) rfl ?_
  exact loop 63 0 g (by omega) (by omega) (zFr.rf _ _) (fun x h1 h2 => by omega)
end
section
-- the board's distances, decided
def nAll (n : Nat) (p : Int → Bool) : Bool := (List.range n).all (fun i => p (i : Int))
theorem nAll_at {n : Nat} {p : Int → Bool} (h : nAll n p = true) {x : Int} (h0 : 0 ≤ x) (hx : x < n) : p x = true := by
  obtain ⟨m, rfl⟩ := Int.eq_ofNat_of_zero_le h0
  exact List.all_eq_true.mp h m (List.mem_range.mpr (by omega))
set_option maxRecDepth 100000 in
theorem ds_2 : nAll 63 (fun a => nAll 63 (fun x => nAll 6 (fun d => decide (nextF x d = -5 ∨ stepsF a (nextF x d) ≤ stepsF a x + 1)))) = true := by decide +kernel
set_option maxRecDepth 100000 in
theorem ds_3 : nAll 63 (fun a => nAll 63 (fun x => decide (a = x) || !(nAll 6 (fun d => !(decide (nextF x d ≠ -5 ∧ stepsF a (nextF x d) + 1 = stepsF a x)))))) = true := by decide +kernel
set_option maxRecDepth 100000 in
theorem ds_0 : nAll 63 (fun a => nAll 63 (fun x => decide ((stepsF a x = 0 ↔ a = x) ∧ 0 ≤ stepsF a x ∧ stepsF a x ≤ 12 ∧ stepsF a x = stepsF x a))) = true := by decide +kernel
set_option maxRecDepth 100000 in
theorem nx_s : nAll 63 (fun x => nAll 6 (fun d => decide (nextF x d = -5 ∨ nextF (nextF x d) ((d + 3) % 6) = x))) = true := by decide +kernel
theorem stepsF_2 {a x d : Int} (ha : 0 ≤ a ∧ a < 63) (hx : 0 ≤ x ∧ x < 63) (hd : 0 ≤ d ∧ d < 6) (h : nextF x d ≠ -5) : stepsF a (nextF x d) ≤ stepsF a x + 1 := by
  have h1 := of_decide_eq_true (nAll_at (nAll_at (nAll_at ds_2 ha.1 ha.2) hx.1 hx.2) hd.1 hd.2)
  exact h1.resolve_left h
theorem stepsF_3 {a x : Int} (ha : 0 ≤ a ∧ a < 63) (hx : 0 ≤ x ∧ x < 63) (h : a ≠ x) : ∃ d, 0 ≤ d ∧ d < 6 ∧ nextF x d ≠ -5 ∧ stepsF a (nextF x d) + 1 = stepsF a x := by
  have h1 := nAll_at (nAll_at ds_3 ha.1 ha.2) hx.1 hx.2
  rw [Bool.or_eq_true] at h1
  rcases h1 with h1 | h1
  · exact absurd (of_decide_eq_true h1) h
  · rw [Bool.not_eq_true'] at h1
    unfold nAll at h1
    rw [← Bool.not_eq_true, List.all_eq_true] at h1
    apply Classical.byContradiction
    intro hno
    apply h1
    intro m hm
    rw [Bool.not_eq_true', decide_eq_false_iff_not]
    intro q
    exact hno ⟨(m : Int), by omega, by have := List.mem_range.mp hm; omega, q.1, q.2⟩
theorem stepsF_0 {a x : Int} (ha : 0 ≤ a ∧ a < 63) (hx : 0 ≤ x ∧ x < 63) : (stepsF a x = 0 ↔ a = x) ∧ 0 ≤ stepsF a x ∧ stepsF a x ≤ 12 ∧ stepsF a x = stepsF x a := of_decide_eq_true (nAll_at (nAll_at ds_0 ha.1 ha.2) hx.1 hx.2)
theorem nextF_s {x d : Int} (hx : 0 ≤ x ∧ x < 63) (hd : 0 ≤ d ∧ d < 6) (h : nextF x d ≠ -5) : nextF (nextF x d) ((d + 3) % 6) = x := (of_decide_eq_true (nAll_at (nAll_at nx_s hx.1 hx.2) hd.1 hd.2)).resolve_left h
/-- what stands in the row of steps while the round R is under way -/
def bfsI (a R : Int) (f : Int → Int) : Prop := ∀ x, 0 ≤ x → x < 63 → (stepsF a x ≤ R → f x = stepsF a x) ∧ (stepsF a x = R + 1 → f x = R + 1 ∨ f x = 1000) ∧ (R + 1 < stepsF a x → f x = 1000)
def bfsP (a R hx hd : Int) (f : Int → Int) : Prop := ∀ x d, 0 ≤ x → x < 63 → 0 ≤ d → d < 6 → (x < hx ∨ (x = hx ∧ d < hd)) → stepsF a x = R → nextF x d ≠ -5 → f (nextF x d) ≠ 1000
theorem bfs_round {a R : Int} {f : Int → Int} (ha : 0 ≤ a ∧ a < 63) (hR : 0 ≤ R) (hI : bfsI a R f) (hP : bfsP a R 63 0 f) : bfsI a (R + 1) f ∧ bfsP a (R + 1) 0 0 f := by
  refine ⟨fun x h0 h1 => ?_, fun x d h0 h1 h2 h3 h4 => by omega⟩
  obtain ⟨q1, q2, q3⟩ := hI x h0 h1
  refine ⟨fun h => ?_, fun h => Or.inr (q3 (by omega)), fun h => q3 (by omega)⟩
  by_cases hc : stepsF a x ≤ R
  · exact q1 hc
  · have hq : stepsF a x = R + 1 := by omega
    rcases q2 hq with e | e
    · rw [e, hq]
    · exfalso
      obtain ⟨d, d0, d1, d2, d3⟩ := stepsF_3 ha ⟨h0, h1⟩ (fun q => by have := (stepsF_0 ha ⟨h0, h1⟩).1.mpr q; omega)
      have hr := (nextF_R (x := x) (d := d)).resolve_left d2
      have hs := nextF_s ⟨h0, h1⟩ ⟨d0, d1⟩ d2
      have h5 := hP (nextF x d) ((d + 3) % 6) hr.1 hr.2 (by omega) (by omega) (Or.inl hr.2) (by omega) (by rw [hs]; omega)
      rw [hs] at h5
      exact h5 e
theorem c_X8_laysDistances (g : ZH) {a : Int} (ha : 0 ≤ a ∧ a < 63) : ZC 2 mX8_laysDistances [.inr 100, .inl a] g (fun _ g' => zFr [108] g g' ∧ ∀ x, 0 ≤ x → x < 63 → g' 108 x = stepsF a x) := by
  refine ZC.of (by decide +kernel) (Nat.le_of_ble_eq_true rfl) ?_
  -- the innermost loop, over directions
  have loopD : ∀ (n : Nat) (d R x : Int) (g1 : ZH) (o5 : Option ZV), 0 ≤ d → d + n = 6 → 0 ≤ R → R < 63 → 0 ≤ x → x < 63 → zFr [108] g g1 → bfsI a R (g1 108) → bfsP a R x d (g1 108) → (∀ (g2 : ZH) (o4 o5 : Option ZV), zFr [108] g g2 → bfsI a R (g2 108) → bfsP a R (x + 1) 0 (g2 108) → ZW 2 mX8_laysDistances 112 [some (.inr 100), some (.inl a), some (.inl R), some (.inl x), o4, o5] [] g2 (fun _ g' => zFr [108] g g' ∧ ∀ x, 0 ≤ x → x < 63 → g' 108 x = stepsF a x)) → ZW 2 mX8_laysDistances 51 [some (.inr 100), some (.inl a), some (.inl R), some (.inl x), some (.inl d), o5] [] g1 (fun _ g' => zFr [108] g g' ∧ ∀ x, 0 ≤ x → x < 63 → g' 108 x = stepsF a x) := by
    intro n
    induction n with
    | zero =>
      intro d R x g1 o5 h0 hn hR hR2 hx hx2 hf hI hP k
      refine ZW.iload dX8_laysDistances_51 rfl ?_
      refine ZW.bipush dX8_laysDistances_53 rfl ?_
      refine ZW.icmp_ge (tgt := 112) dX8_laysDistances_55 (by decide) (by omega) (by omega) (fun c55 => ?_) (fun c55 => ?_)
      · refine k g1 _ _ hf hI (fun y e y0 y1 e0 e1 he => hP y e y0 y1 e0 e1 ?_)
        rcases he with he | he
        · by_cases q : y = x
          · exact Or.inr ⟨q, by omega⟩
          · exact Or.inl (by omega)
        · omega
      · exact absurd c55 (by omega)
    | succ n ih =>
      intro d R x g1 o5 h0 hn hR hR2 hx hx2 hf hI hP k
      have hIx := hI x hx hx2
      have hsx := stepsF_0 ha (x := x) ⟨hx, hx2⟩
      have hgx : zR (g1 108 x) ∧ (g1 108 x = R ↔ stepsF a x = R) := by
        by_cases q : stepsF a x ≤ R
        · rw [hIx.1 q]; omega
        · by_cases q2 : stepsF a x = R + 1
          · rcases hIx.2.1 q2 with e | e <;> rw [e] <;> omega
          · rw [hIx.2.2 (by omega)]; omega
      have hgR := hgx.1
      refine ZW.iload dX8_laysDistances_51 rfl ?_
      refine ZW.bipush dX8_laysDistances_53 rfl ?_
      refine ZW.icmp_ge (tgt := 112) dX8_laysDistances_55 (by decide) (by omega) (by omega) (fun c55 => ?_) (fun c55 => ?_)
      · exact absurd c55 (by omega)
      · refine ZW.aload_n dX8_laysDistances_58 rfl ?_
        refine ZW.getR dX8_laysDistances_59 fl_X8_32 ⟨_, rfl, rfl⟩ ?_
        refine ZW.iload_n dX8_laysDistances_62 rfl ?_
        refine ZW.iald dX8_laysDistances_63 rfl (by decide) (by omega) rfl ?_
        refine ZW.iload_n dX8_laysDistances_64 rfl ?_
        refine ZW.icmp_ne (tgt := 112) dX8_laysDistances_65 (by decide) (by omega) (by omega) (fun c65 => ?_) (fun c65 => ?_)
        · refine k g1 _ _ hf hI (fun y e y0 y1 e0 e1 he hy => ?_)
          by_cases q : y = x
          · subst q
            exact absurd (hgx.2.mpr hy) c65
          · exact hP y e y0 y1 e0 e1 (Or.inl (by omega)) hy
        · have hdx := hgx.2.mp c65
          have hnr := nextF_R' x d
          refine ZW.iload_n dX8_laysDistances_68 rfl ?_
          refine ZW.iload dX8_laysDistances_69 rfl ?_
          refine ZW.callS (as := [_, _]) dX8_laysDistances_71 cs_X8_59 rfl (by decide) (Nat.le_of_ble_eq_true rfl) rfl (c_X8_next _ ⟨hx, hx2⟩ (by omega)) (fun r1 g2 ⟨e1, e2⟩ => ?_)
          subst e1; subst e2
          refine ZW.istore dX8_laysDistances_74 (by decide) rfl ?_
          refine ZW.iload dX8_laysDistances_76 rfl ?_
          refine ZW.bipush dX8_laysDistances_78 rfl ?_
          refine ZW.icmp_eq (tgt := 106) dX8_laysDistances_80 (by decide) (by omega) (by omega) (fun c80 => ?_) (fun c80 => ?_)
          · refine ZW.iinc dX8_laysDistances_106 rfl (by decide) rfl ?_
            refine ZW.goto (tgt := 51) dX8_laysDistances_109 (by decide) ?_
            refine ih (d + 1) R x _ _ (by omega) (by omega) hR hR2 hx hx2 hf hI (fun y e y0 y1 e0 e1 he hy hne => ?_) k
            by_cases q : y = x ∧ e = d
            · rw [q.1, q.2] at hne
              exact absurd c80 hne
            · exact hP y e y0 y1 e0 e1 (by omega) hy hne
          · have hr := (nextF_R (x := x) (d := d)).resolve_left c80
            have h2 := stepsF_2 ha ⟨hx, hx2⟩ ⟨h0, by omega⟩ c80
            have hIo := hI (nextF x d) hr.1 hr.2
            have hgo : zR (g2 108 (nextF x d)) := by
              by_cases q : stepsF a (nextF x d) ≤ R
              · have := stepsF_0 ha (x := nextF x d) hr
                rw [hIo.1 q]; omega
              · rcases hIo.2.1 (by omega) with e | e <;> rw [e] <;> omega
            refine ZW.aload_n dX8_laysDistances_83 rfl ?_
            refine ZW.getR dX8_laysDistances_84 fl_X8_32 ⟨_, rfl, rfl⟩ ?_
            refine ZW.iload dX8_laysDistances_87 rfl ?_
            refine ZW.iald dX8_laysDistances_89 rfl (by decide) (by omega) rfl ?_
            refine ZW.sipush dX8_laysDistances_90 rfl ?_
            refine ZW.icmp_ne (tgt := 106) dX8_laysDistances_93 (by decide) (by omega) (by omega) (fun c93 => ?_) (fun c93 => ?_)
            · refine ZW.iinc dX8_laysDistances_106 rfl (by decide) rfl ?_
              refine ZW.goto (tgt := 51) dX8_laysDistances_109 (by decide) ?_
              refine ih (d + 1) R x _ _ (by omega) (by omega) hR hR2 hx hx2 hf hI (fun y e y0 y1 e0 e1 he hy hne => ?_) k
              by_cases q : y = x ∧ e = d
              · rw [q.1, q.2]
                exact c93
              · exact hP y e y0 y1 e0 e1 (by omega) hy hne
            · have hq : stepsF a (nextF x d) = R + 1 := by
                by_cases q : stepsF a (nextF x d) ≤ R
                · have := stepsF_0 ha (x := nextF x d) hr
                  have := hIo.1 q
                  omega
                · omega
              refine ZW.aload_n dX8_laysDistances_96 rfl ?_
              refine ZW.getR dX8_laysDistances_97 fl_X8_32 ⟨_, rfl, rfl⟩ ?_
              refine ZW.iload dX8_laysDistances_100 rfl ?_
              refine ZW.iload_n dX8_laysDistances_102 rfl ?_
              refine ZW.iconst dX8_laysDistances_103 ?_
              refine ZW.iadd dX8_laysDistances_104 ?_
              refine ZW.iast dX8_laysDistances_105 rfl (by decide) (by omega) ?_
              refine ZW.iinc dX8_laysDistances_106 rfl (by decide) rfl ?_
              refine ZW.goto (tgt := 51) dX8_laysDistances_109 (by decide) ?_
              refine ih (d + 1) R x _ _ (by omega) (by omega) hR hR2 hx hx2 (hf.set (by decide) _ _) (fun y y0 y1 => ?_) (fun y e y0 y1 e0 e1 he hy hne => ?_) k
              · rw [zSet_same]
                by_cases q : y = nextF x d
                · rw [q, zUp_same]
                  exact ⟨fun z => by omega, fun _ => Or.inl rfl, fun z => by omega⟩
                · rw [zUp_ne _ _ q]
                  exact hI y y0 y1
              · rw [zSet_same]
                by_cases q : nextF y e = nextF x d
                · rw [q, zUp_same]
                  omega
                · rw [zUp_ne _ _ q]
                  refine hP y e y0 y1 e0 e1 ?_ hy hne
                  by_cases q2 : y = x ∧ e = d
                  · exact absurd (by rw [q2.1, q2.2]) q
                  · omega
  have loopX : ∀ (n : Nat) (x R : Int) (g1 : ZH) (o4 o5 : Option ZV), 0 ≤ x → x + n = 63 → 0 ≤ R → R < 63 → zFr [108] g g1 → bfsI a R (g1 108) → bfsP a R x 0 (g1 108) → (∀ (g2 : ZH) (o4 o5 : Option ZV), zFr [108] g g2 → bfsI a (R + 1) (g2 108) → bfsP a (R + 1) 0 0 (g2 108) → ∀ o3 : Option ZV, ZW 2 mX8_laysDistances 118 [some (.inr 100), some (.inl a), some (.inl R), o3, o4, o5] [] g2 (fun _ g' => zFr [108] g g' ∧ ∀ x, 0 ≤ x → x < 63 → g' 108 x = stepsF a x)) → ZW 2 mX8_laysDistances 42 [some (.inr 100), some (.inl a), some (.inl R), some (.inl x), o4, o5] [] g1 (fun _ g' => zFr [108] g g' ∧ ∀ x, 0 ≤ x → x < 63 → g' 108 x = stepsF a x) := by
    intro n
    induction n with
    | zero =>
      intro x R g1 o4 o5 hx hn hR hR2 hf hI hP k
      refine ZW.iload_n dX8_laysDistances_42 rfl ?_
      refine ZW.bipush dX8_laysDistances_43 rfl ?_
      refine ZW.icmp_ge (tgt := 118) dX8_laysDistances_45 (by decide) (by omega) (by omega) (fun c45 => ?_) (fun c45 => ?_)
      · have e : x = 63 := by omega
        subst e
        have h1 := bfs_round ha hR hI hP
        exact k g1 _ _ hf h1.1 h1.2 _
      · exact absurd c45 (by omega)
    | succ n ih =>
      intro x R g1 o4 o5 hx hn hR hR2 hf hI hP k
      refine ZW.iload_n dX8_laysDistances_42 rfl ?_
      refine ZW.bipush dX8_laysDistances_43 rfl ?_
      refine ZW.icmp_ge (tgt := 118) dX8_laysDistances_45 (by decide) (by omega) (by omega) (fun c45 => ?_) (fun c45 => ?_)
      · exact absurd c45 (by omega)
      · refine ZW.iconst dX8_laysDistances_48 ?_
        refine ZW.istore dX8_laysDistances_49 (by decide) rfl ?_
        refine loopD 6 0 R x g1 _ (by omega) (by omega) hR hR2 hx (by omega) hf hI hP (fun g2 p4 p5 hf2 hI2 hP2 => ?_)
        refine ZW.iinc dX8_laysDistances_112 rfl (by decide) rfl ?_
        refine ZW.goto (tgt := 42) dX8_laysDistances_115 (by decide) ?_
        exact ih (x + 1) R g2 _ _ (by omega) (by omega) hR hR2 hf2 hI2 hP2 k
  have loopR : ∀ (n : Nat) (R : Int) (g1 : ZH) (o3 o4 o5 : Option ZV), 0 ≤ R → R + n = 63 → zFr [108] g g1 → bfsI a R (g1 108) → bfsP a R 0 0 (g1 108) → ZW 2 mX8_laysDistances 34 [some (.inr 100), some (.inl a), some (.inl R), o3, o4, o5] [] g1 (fun _ g' => zFr [108] g g' ∧ ∀ x, 0 ≤ x → x < 63 → g' 108 x = stepsF a x) := by
    intro n
    induction n with
    | zero =>
      intro R g1 o3 o4 o5 hR hn hf hI hP
      refine ZW.iload_n dX8_laysDistances_34 rfl ?_
      refine ZW.bipush dX8_laysDistances_35 rfl ?_
      refine ZW.icmp_ge (tgt := 124) dX8_laysDistances_37 (by decide) (by omega) (by omega) (fun c37 => ?_) (fun c37 => ?_)
      · refine ZW.vret dX8_laysDistances_124 rfl ?_
        refine ⟨hf, fun x h0 h1 => (hI x h0 h1).1 ?_⟩
        have := stepsF_0 ha (x := x) ⟨h0, h1⟩
        omega
      · exact absurd c37 (by omega)
    | succ n ih =>
      intro R g1 o3 o4 o5 hR hn hf hI hP
      refine ZW.iload_n dX8_laysDistances_34 rfl ?_
      refine ZW.bipush dX8_laysDistances_35 rfl ?_
      refine ZW.icmp_ge (tgt := 124) dX8_laysDistances_37 (by decide) (by omega) (by omega) (fun c37 => ?_) (fun c37 => ?_)
      · exact absurd c37 (by omega)
      · refine ZW.iconst dX8_laysDistances_40 ?_
        refine ZW.istore_n dX8_laysDistances_41 (by decide) rfl ?_
        refine loopX 63 0 R g1 _ _ (by omega) (by omega) hR (by omega) hf hI hP (fun g2 p4 p5 hf2 hI2 hP2 p3 => ?_)
        refine ZW.iinc dX8_laysDistances_118 rfl (by decide) rfl ?_
        refine ZW.goto (tgt := 34) dX8_laysDistances_121 (by decide) ?_
        exact ih (R + 1) g2 _ _ _ (by omega) (by omega) hf2 hI2 hP2
  have fill : ∀ (n : Nat) (x : Int) (g1 : ZH) (o3 o4 o5 : Option ZV), 0 ≤ x → x + n = 63 → zFr [108] g g1 → (∀ y, 0 ≤ y → y < x → g1 108 y = if y = a then 0 else 1000) → ZW 2 mX8_laysDistances 2 [some (.inr 100), some (.inl a), some (.inl x), o3, o4, o5] [] g1 (fun _ g' => zFr [108] g g' ∧ ∀ x, 0 ≤ x → x < 63 → g' 108 x = stepsF a x) := by
    intro n
    induction n with
    | zero =>
      intro x g1 o3 o4 o5 hx hn hf hz
      refine ZW.iload_n dX8_laysDistances_2 rfl ?_
      refine ZW.bipush dX8_laysDistances_3 rfl ?_
      refine ZW.icmp_ge (tgt := 32) dX8_laysDistances_5 (by decide) (by omega) (by omega) (fun c5 => ?_) (fun c5 => ?_)
      · refine ZW.iconst dX8_laysDistances_32 ?_
        refine ZW.istore_n dX8_laysDistances_33 (by decide) rfl ?_
        refine loopR 63 0 g1 _ _ _ (by omega) (by omega) hf (fun y y0 y1 => ?_) (fun y e y0 y1 e0 e1 he => by omega)
        rw [hz y y0 (by omega)]
        have h1 := stepsF_0 ha (x := y) ⟨y0, y1⟩
        by_cases q : y = a
        · rw [if_pos q]
          have := h1.1.mpr q.symm
          omega
        · rw [if_neg q]
          have : stepsF a y ≠ 0 := fun z => q (h1.1.mp z).symm
          omega
      · exact absurd c5 (by omega)
    | succ n ih =>
      intro x g1 o3 o4 o5 hx hn hf hz
      refine ZW.iload_n dX8_laysDistances_2 rfl ?_
      refine ZW.bipush dX8_laysDistances_3 rfl ?_
      refine ZW.icmp_ge (tgt := 32) dX8_laysDistances_5 (by decide) (by omega) (by omega) (fun c5 => ?_) (fun c5 => ?_)
      · exact absurd c5 (by omega)
      · refine ZW.aload_n dX8_laysDistances_8 rfl ?_
        refine ZW.getR dX8_laysDistances_9 fl_X8_32 ⟨_, rfl, rfl⟩ ?_
        refine ZW.iload_n dX8_laysDistances_12 rfl ?_
        refine ZW.iload_n dX8_laysDistances_13 rfl ?_
        refine ZW.iload_n dX8_laysDistances_14 rfl ?_
        refine ZW.icmp_ne (tgt := 22) dX8_laysDistances_15 (by decide) (by omega) (by omega) (fun c15 => ?_) (fun c15 => ?_)
        · refine ZW.sipush dX8_laysDistances_22 rfl ?_
          refine ZW.iast dX8_laysDistances_25 rfl (by decide) (by omega) ?_
          refine ZW.iinc dX8_laysDistances_26 rfl (by decide) rfl ?_
          refine ZW.goto (tgt := 2) dX8_laysDistances_29 (by decide) ?_
          refine ih (x + 1) _ _ _ _ (by omega) (by omega) (hf.set (by decide) _ _) (fun y y0 y1 => ?_)
          rw [zSet_same]
          by_cases q : y = x
          · rw [q, zUp_same, if_neg c15]
          · rw [zUp_ne _ _ q]; exact hz y y0 (by omega)
        · refine ZW.iconst dX8_laysDistances_18 ?_
          refine ZW.goto (tgt := 25) dX8_laysDistances_19 (by decide) ?_
          refine ZW.iast dX8_laysDistances_25 rfl (by decide) (by omega) ?_
          refine ZW.iinc dX8_laysDistances_26 rfl (by decide) rfl ?_
          refine ZW.goto (tgt := 2) dX8_laysDistances_29 (by decide) ?_
          refine ih (x + 1) _ _ _ _ (by omega) (by omega) (hf.set (by decide) _ _) (fun y y0 y1 => ?_)
          rw [zSet_same]
          by_cases q : y = x
          · rw [q, zUp_same, if_pos c15]
          · rw [zUp_ne _ _ q]; exact hz y y0 (by omega)
  refine ZW.iconst dX8_laysDistances_0 ?_
  refine ZW.istore_n dX8_laysDistances_1 (by decide) rfl ?_
  exact fill 63 0 g _ _ _ (by omega) (by omega) (zFr.rf _ _) (fun y y0 y1 => by omega)
end
section
-- the reference's ways
def okU (r : Int → Int) : Prop := ∀ u, 0 ≤ u → u < 16 → (ofF r u 0 = 0 ∨ ofF r u 0 = 1) ∧ 0 ≤ ofF r u 2 ∧ ofF r u 2 < 63
theorem ofU_R {r : Int → Int} (hk : okB r) {u w : Int} (hu : 0 ≤ u ∧ u < 16) (hw : 0 ≤ w ∧ w < 6) : zR (ofF r u w) := by
  have h1 := ofF_R hk hu hw
  exact ⟨by omega, by omega⟩
def stepC (r : Int → Int) (x d y : Int) : Int := (if r y = 0 then 1 else 2) + zB (rivB r x d)
theorem stepC_R (r : Int → Int) (x d y : Int) : 1 ≤ stepC r x d y ∧ stepC r x d y ≤ 3 := by
  unfold stepC
  have h1 := zB_1 (rivB r x d)
  split <;> omega
theorem c_X8_entering (g : ZH) (hk : okB (g 101)) {x d y : Int} (hx : 0 ≤ x ∧ x < 63) (hd : 0 ≤ d ∧ d < 6) (hy : 0 ≤ y ∧ y < 63) : ZC 1 mX8_entering [.inr 100, .inl x, .inl d, .inl y] g (fun r g' => r = stepC (g 101) x d y ∧ g' = g) := by
  have h1 := hk.1 y (by omega) (by omega)
  refine ZC.of (by decide +kernel) (Nat.le_of_ble_eq_true rfl) ?_
  refine ZW.aload_n dX8_entering_0 rfl ?_
  refine ZW.getR dX8_entering_1 fl_X8_7 ⟨_, rfl, rfl⟩ ?_
  refine ZW.iconst dX8_entering_4 ?_
  refine ZW.iload_n dX8_entering_5 rfl ?_
  refine ZW.iadd dX8_entering_6 (ZW.top (Int.zero_add y) ?_)
  have tail : ∀ v : Int, v = (if g 101 y = 0 then 1 else 2) → ZW 1 mX8_entering 16 [some (.inr 100), some (.inl x), some (.inl d), some (.inl y)] [.inl v] g (fun r g' => r = stepC (g 101) x d y ∧ g' = g) := by
    intro v hv
    refine ZW.aload_n dX8_entering_16 rfl ?_
    refine ZW.iload_n dX8_entering_17 rfl ?_
    refine ZW.iload_n dX8_entering_18 rfl ?_
    refine ZW.callV (as := [_, _]) dX8_entering_19 cv_X8_77 ⟨_, rfl⟩ rfl (by decide) (Nat.le_of_ble_eq_true rfl) rfl (c_X8_hasRiver _ hk hx hd) (fun r1 g1 ⟨e1, e2⟩ => ?_)
    subst e1; subst e2
    refine ZW.if_eq (tgt := 29) dX8_entering_22 (by decide) (by exact zB_R _) (fun c22 => ?_) (fun c22 => ?_)
    · have e := zB_eq c22
      refine ZW.iconst dX8_entering_29 ?_
      refine ZW.iadd dX8_entering_30 ?_
      refine ZW.ireti dX8_entering_31 rfl ?_
      exact ⟨by unfold stepC; rw [hv, e]; rfl, rfl⟩
    · have e := zB_ne c22
      refine ZW.iconst dX8_entering_25 ?_
      refine ZW.goto (tgt := 30) dX8_entering_26 (by decide) ?_
      refine ZW.iadd dX8_entering_30 ?_
      refine ZW.ireti dX8_entering_31 rfl ?_
      exact ⟨by unfold stepC; rw [hv, e]; rfl, rfl⟩
  refine ZW.iald dX8_entering_7 rfl (by decide) (by omega) rfl ?_
  refine ZW.if_ne (tgt := 15) dX8_entering_8 (by decide) (by omega) (fun c8 => ?_) (fun c8 => ?_)
  · refine ZW.iconst dX8_entering_15 ?_
    exact tail 2 (by rw [if_neg c8])
  · refine ZW.iconst dX8_entering_11 ?_
    refine ZW.goto (tgt := 16) dX8_entering_12 (by decide) ?_
    exact tail 1 (by rw [if_pos c8])
def goB (r : Int → Int) (u x : Int) : Bool := decide (x = ofF r u 2) || !zoneB r x (1 - ofF r u 0)
def entB (r : Int → Int) (u y : Int) : Bool := !isOnB r y (1 - ofF r u 0)
/-- from x in the direction d a way of the unit u goes on to y -/
def edgeP (r : Int → Int) (u x d y : Int) : Prop := 0 ≤ x ∧ x < 63 ∧ 0 ≤ d ∧ d < 6 ∧ nextF x d = y ∧ y ≠ -5 ∧ goB r u x = true ∧ entB r u y = true
theorem edgeP_y {r : Int → Int} {u x d y : Int} (h : edgeP r u x d y) : 0 ≤ y ∧ y < 63 := by
  obtain ⟨_, _, _, _, h5, h6, _⟩ := h
  have := (nextF_R (x := x) (d := d)).resolve_left (by omega)
  omega
/-- a row of costs within B: by its steps, and no more than they give -/
def wayP (r : Int → Int) (u B : Int) (f : Int → Int) : Prop :=
  f (ofF r u 2) = 0 ∧ (∀ x, 0 ≤ x → x < 63 → f x = 1000 ∨ (0 ≤ f x ∧ f x ≤ B)) ∧ (∀ x d y, edgeP r u x d y → f x ≠ 1000 → f x + stepC r x d y ≤ B → f y ≤ f x + stepC r x d y) ∧ ∀ y, 0 ≤ y → y < 63 → y ≠ ofF r u 2 → f y ≠ 1000 → ∃ x d, edgeP r u x d y ∧ f x ≠ 1000 ∧ f y = f x + stepC r x d y
theorem wayP_le {r : Int → Int} {u B B' : Int} {f f' : Int → Int} (h : wayP r u B f) (h' : wayP r u B' f') (hB : B ≤ B') (hB' : B' < 1000) : ∀ (k : Nat) (x : Int), 0 ≤ x → x < 63 → f x = k → f x ≠ 1000 → f' x ≤ f x := by
  intro k
  induction k using Nat.strongRecOn with
  | ind k ih =>
    intro x h0 h1 hk hn
    by_cases hx : x = ofF r u 2
    · rw [hx, h.1, h'.1]
      exact Int.le_refl 0
    · obtain ⟨y, d, he, hy, hyx⟩ := h.2.2.2 x h0 h1 hx hn
      have hc := stepC_R r y d x
      have hr := (h.2.1 y he.1 he.2.1).resolve_left hy
      have hrx := (h.2.1 x h0 h1).resolve_left hn
      have h2 := ih (f y).toNat (by omega) y he.1 he.2.1 (by omega) hy
      have h3 := h'.2.2.1 y d x he (by omega) (by omega)
      omega
theorem wayP_eq {r : Int → Int} {u B B' : Int} {f f' : Int → Int} (h : wayP r u B f) (h' : wayP r u B' f') (hB : B ≤ B') (hB' : B' < 1000) {x : Int} (h0 : 0 ≤ x) (h1 : x < 63) : (f' x ≤ B → f x = f' x) ∧ (f x ≠ 1000 → f' x = f x) := by
  have hle : ∀ (k : Nat) (x : Int), 0 ≤ x → x < 63 → f' x = k → f' x ≤ B → f x ≤ f' x := by
    intro k
    induction k using Nat.strongRecOn with
    | ind k ih =>
      intro x h0 h1 hk hn
      by_cases hx : x = ofF r u 2
      · rw [hx, h.1, h'.1]
        exact Int.le_refl 0
      · obtain ⟨y, d, he, hy, hyx⟩ := h'.2.2.2 x h0 h1 hx (by omega)
        have hc := stepC_R r y d x
        have hr := (h'.2.1 y he.1 he.2.1).resolve_left hy
        have hrx := (h'.2.1 x h0 h1).resolve_left (by omega)
        have h2 := ih (f' y).toNat (by omega) y he.1 he.2.1 (by omega) (by omega)
        have h3 := h.2.2.1 y d x he (by omega) (by omega)
        omega
  have a1 : f' x ≤ B → f x = f' x := by
    intro hb
    have hrx := (h'.2.1 x h0 h1).resolve_left (by omega)
    have h2 := hle (f' x).toNat x h0 h1 (by omega) hb
    have h3 := wayP_le h h' hB hB' (f x).toNat x h0 h1 (by have := h.2.1 x h0 h1; omega) (by omega)
    omega
  refine ⟨a1, fun hn => ?_⟩
  have hrx := (h.2.1 x h0 h1).resolve_left hn
  have h3 := wayP_le h h' hB hB' (f x).toNat x h0 h1 (by omega) hn
  rw [a1 (by omega)]
-- the costs, as a function
def stR (r : Int → Int) (u : Int) : Nat → Int → Int → Prop
  | 0, k, y => k = 0 ∧ y = ofF r u 2
  | n + 1, k, y => ∃ x d, edgeP r u x d y ∧ stR r u n (k - stepC r x d y) x
theorem stR_nn {r : Int → Int} {u : Int} : ∀ {n : Nat} {k y : Int}, stR r u n k y → 0 ≤ k
  | 0, _, _, h => by rw [h.1]; exact Int.le_refl 0
  | n + 1, k, y, ⟨x, d, _, h⟩ => by
    have h1 := stR_nn h
    have h2 := stepC_R r x d y
    omega
noncomputable def wayF (r : Int → Int) (u x : Int) : Int := @dite Int (∃ k : Nat, k ≤ 999 ∧ ∃ n, stR r u n (k : Int) x) (Classical.propDecidable _) (fun h => ((Classical.choose (pk_least _ h) : Nat) : Int)) (fun _ => 1000)
theorem wayF_spec {r : Int → Int} {u x : Int} (h : wayF r u x ≠ 1000) : 0 ≤ wayF r u x ∧ wayF r u x ≤ 999 ∧ (∃ n, stR r u n (wayF r u x) x) := by
  unfold wayF at h ⊢
  split
  · next hk =>
    obtain ⟨h1, h2⟩ := Classical.choose_spec (pk_least _ hk)
    exact ⟨by omega, by omega, h1.2⟩
  · next hk => rw [dif_neg hk] at h; exact absurd rfl h
theorem wayF_le {r : Int → Int} {u x k : Int} {n : Nat} (h : stR r u n k x) (hk : k ≤ 999) : wayF r u x ≤ k := by
  have h0 := stR_nn h
  have hex : ∃ k : Nat, k ≤ 999 ∧ ∃ n, stR r u n (k : Int) x := ⟨k.toNat, by omega, n, by rw [Int.toNat_of_nonneg h0]; exact h⟩
  unfold wayF
  rw [dif_pos hex]
  obtain ⟨h1, h2⟩ := Classical.choose_spec (pk_least _ hex)
  apply Classical.byContradiction
  intro hlt
  exact h2 k.toNat (by omega) ⟨by omega, n, by rw [Int.toNat_of_nonneg h0]; exact h⟩
theorem wayF_P (r : Int → Int) (u : Int) (hf : 0 ≤ ofF r u 2 ∧ ofF r u 2 < 63) : wayP r u 999 (wayF r u) := by
  have h0 : wayF r u (ofF r u 2) = 0 := by
    have h1 := wayF_le (r := r) (u := u) (x := ofF r u 2) (k := 0) (n := 0) ⟨rfl, rfl⟩ (by decide)
    have h2 := wayF_spec (r := r) (u := u) (x := ofF r u 2) (by omega)
    omega
  refine ⟨h0, fun x _ _ => ?_, fun x d y he hx hb => ?_, fun y _ _ hy hn => ?_⟩
  · by_cases h : wayF r u x = 1000
    · exact Or.inl h
    · have := wayF_spec h
      exact Or.inr ⟨this.1, this.2.1⟩
  · obtain ⟨_, _, n, h2⟩ := wayF_spec hx
    refine wayF_le (n := n + 1) ⟨x, d, he, ?_⟩ hb
    rw [Int.add_sub_cancel]
    exact h2
  · obtain ⟨h1, h2, n, h3⟩ := wayF_spec hn
    cases n with
    | zero => exact absurd h3.2 hy
    | succ n =>
      obtain ⟨x, d, he, h4⟩ := h3
      have hc := stepC_R r x d y
      have h5 := wayF_le h4 (by omega)
      have h6 : wayF r u x ≠ 1000 := by omega
      obtain ⟨h7, h8, m, h9⟩ := wayF_spec h6
      have h10 := wayF_le (r := r) (u := u) (x := y) (k := wayF r u x + stepC r x d y) (n := m + 1) ⟨x, d, he, by rw [Int.add_sub_cancel]; exact h9⟩ (by omega)
      exact ⟨x, d, he, h6, by omega⟩
theorem wayP_F {r : Int → Int} {u : Int} (hf : 0 ≤ ofF r u 2 ∧ ofF r u 2 < 63) {f : Int → Int} (h : wayP r u 999 f) {x : Int} (h0 : 0 ≤ x) (h1 : x < 63) : f x = wayF r u x := by
  have h2 := wayP_eq h (wayF_P r u hf) (Int.le_refl _) (by decide) h0 h1
  rcases h.2.1 x h0 h1 with q | q
  · rcases (wayF_P r u hf).2.1 x h0 h1 with q2 | q2
    · rw [q, q2]
    · exact h2.1 q2.2
  · exact (h2.2 (by omega)).symm
-- the loop that finds the cheapest
def chP (f e : Int → Int) (v n : Int) : Prop := (v = -5 ∧ ∀ x, 0 ≤ x → x < n → e x = 0 → ¬ f x < 1000) ∨ (0 ≤ v ∧ v < n ∧ e v = 0 ∧ f v < 1000 ∧ ∀ x, 0 ≤ x → x < n → e x = 0 → f v ≤ f x)
theorem c_X8_cheapest (g : ZH) (h106 : ∀ x, 0 ≤ x → x < 63 → 0 ≤ g 106 x ∧ g 106 x ≤ 1000) (h107 : ∀ x, 0 ≤ x → x < 63 → g 107 x = 0 ∨ g 107 x = 1) : ZC 0 mX8_cheapest [.inr 100] g (fun r g' => chP (g 106) (g 107) r 63 ∧ g' = g) := by
  refine ZC.of (by decide +kernel) (Nat.le_of_ble_eq_true rfl) ?_
  have loop : ∀ (n : Nat) (x v : Int), 0 ≤ x → x + n = 63 → chP (g 106) (g 107) v x → ZW 0 mX8_cheapest 5 [some (.inr 100), some (.inl v), some (.inl x)] [] g (fun r g' => chP (g 106) (g 107) r 63 ∧ g' = g) := by
    intro n
    induction n with
    | zero =>
      intro x v hx hn hc
      have e : x = 63 := by omega
      subst e
      refine ZW.iload_n dX8_cheapest_5 rfl ?_
      refine ZW.bipush dX8_cheapest_6 rfl ?_
      refine ZW.icmp_ge (tgt := 65) dX8_cheapest_8 (by decide) (by omega) (by omega) (fun c8 => ?_) (fun c8 => ?_)
      · refine ZW.iload_n dX8_cheapest_65 rfl ?_
        refine ZW.ireti dX8_cheapest_66 rfl ?_
        exact ⟨hc, rfl⟩
      · exact absurd c8 (by omega)
    | succ n ih =>
      intro x v hx hn hc
      have a1 := h106 x hx (by omega)
      have a2 := h107 x hx (by omega)
      have hv : zR v := by rcases hc with ⟨q, _⟩ | ⟨q, q2, _⟩ <;> exact ⟨by omega, by omega⟩
      have keep : (g 107 x = 1 ∨ ¬ g 106 x < 1000 ∨ (v ≠ -5 ∧ g 106 v ≤ g 106 x)) → chP (g 106) (g 107) v (x + 1) := by
        intro hk
        rcases hc with ⟨q1, q2⟩ | ⟨q1, q2, q3, q4, q5⟩
        · refine Or.inl ⟨q1, fun y y0 y1 ye => ?_⟩
          by_cases hy : y = x
          · subst hy; omega
          · exact q2 y y0 (by omega) ye
        · refine Or.inr ⟨q1, by omega, q3, q4, fun y y0 y1 ye => ?_⟩
          by_cases hy : y = x
          · subst hy; omega
          · exact q5 y y0 (by omega) ye
      refine ZW.iload_n dX8_cheapest_5 rfl ?_
      refine ZW.bipush dX8_cheapest_6 rfl ?_
      refine ZW.icmp_ge (tgt := 65) dX8_cheapest_8 (by decide) (by omega) (by omega) (fun c8 => ?_) (fun c8 => ?_)
      · exact absurd c8 (by omega)
      · refine ZW.aload_n dX8_cheapest_11 rfl ?_
        refine ZW.getR dX8_cheapest_12 fl_X8_28 ⟨_, rfl, rfl⟩ ?_
        refine ZW.iload_n dX8_cheapest_15 rfl ?_
        refine ZW.zald dX8_cheapest_16 rfl (by decide) (by omega) rfl ?_
        refine ZW.if_ne (tgt := 57) dX8_cheapest_17 (by decide) (by omega) (fun c17 => ?_) (fun c17 => ?_)
        · refine ZW.iload_n dX8_cheapest_57 rfl ?_
          refine ZW.istore_n dX8_cheapest_58 (by decide) rfl ?_
          refine ZW.iinc dX8_cheapest_59 rfl (by decide) rfl ?_
          refine ZW.goto (tgt := 5) dX8_cheapest_62 (by decide) ?_
          exact ih (x + 1) v (by omega) (by omega) (keep (by omega))
        · refine ZW.aload_n dX8_cheapest_20 rfl ?_
          refine ZW.getR dX8_cheapest_21 fl_X8_25 ⟨_, rfl, rfl⟩ ?_
          refine ZW.iload_n dX8_cheapest_24 rfl ?_
          refine ZW.iald dX8_cheapest_25 rfl (by decide) (by omega) rfl ?_
          refine ZW.sipush dX8_cheapest_26 rfl ?_
          refine ZW.icmp_ge (tgt := 57) dX8_cheapest_29 (by decide) (by omega) (by omega) (fun c29 => ?_) (fun c29 => ?_)
          · refine ZW.iload_n dX8_cheapest_57 rfl ?_
            refine ZW.istore_n dX8_cheapest_58 (by decide) rfl ?_
            refine ZW.iinc dX8_cheapest_59 rfl (by decide) rfl ?_
            refine ZW.goto (tgt := 5) dX8_cheapest_62 (by decide) ?_
            exact ih (x + 1) v (by omega) (by omega) (keep (by omega))
          · refine ZW.iload_n dX8_cheapest_32 rfl ?_
            refine ZW.bipush dX8_cheapest_33 rfl ?_
            refine ZW.icmp_eq (tgt := 53) dX8_cheapest_35 (by decide) (by omega) (by omega) (fun c35 => ?_) (fun c35 => ?_)
            · refine ZW.iload_n dX8_cheapest_53 rfl ?_
              refine ZW.goto (tgt := 58) dX8_cheapest_54 (by decide) ?_
              refine ZW.istore_n dX8_cheapest_58 (by decide) rfl ?_
              refine ZW.iinc dX8_cheapest_59 rfl (by decide) rfl ?_
              refine ZW.goto (tgt := 5) dX8_cheapest_62 (by decide) ?_
              refine ih (x + 1) x (by omega) (by omega) (Or.inr ⟨hx, by omega, c17, by omega, fun y y0 y1 ye => ?_⟩)
              rcases hc with ⟨q1, q2⟩ | ⟨q1, _⟩
              · by_cases hy : y = x
                · rw [hy]; exact Int.le_refl _
                · have := q2 y y0 (by omega) ye
                  omega
              · omega
            · have hvr : 0 ≤ v ∧ v < x := by rcases hc with ⟨q1, _⟩ | ⟨q1, q2, _⟩ <;> omega
              have a3 := h106 v (by omega) (by omega)
              refine ZW.aload_n dX8_cheapest_38 rfl ?_
              refine ZW.getR dX8_cheapest_39 fl_X8_25 ⟨_, rfl, rfl⟩ ?_
              refine ZW.iload_n dX8_cheapest_42 rfl ?_
              refine ZW.iald dX8_cheapest_43 rfl (by decide) (by omega) rfl ?_
              refine ZW.aload_n dX8_cheapest_44 rfl ?_
              refine ZW.getR dX8_cheapest_45 fl_X8_25 ⟨_, rfl, rfl⟩ ?_
              refine ZW.iload_n dX8_cheapest_48 rfl ?_
              refine ZW.iald dX8_cheapest_49 rfl (by decide) (by omega) rfl ?_
              refine ZW.icmp_ge (tgt := 57) dX8_cheapest_50 (by decide) (by omega) (by omega) (fun c50 => ?_) (fun c50 => ?_)
              · refine ZW.iload_n dX8_cheapest_57 rfl ?_
                refine ZW.istore_n dX8_cheapest_58 (by decide) rfl ?_
                refine ZW.iinc dX8_cheapest_59 rfl (by decide) rfl ?_
                refine ZW.goto (tgt := 5) dX8_cheapest_62 (by decide) ?_
                exact ih (x + 1) v (by omega) (by omega) (keep (by omega))
              · refine ZW.iload_n dX8_cheapest_53 rfl ?_
                refine ZW.goto (tgt := 58) dX8_cheapest_54 (by decide) ?_
                refine ZW.istore_n dX8_cheapest_58 (by decide) rfl ?_
                refine ZW.iinc dX8_cheapest_59 rfl (by decide) rfl ?_
                refine ZW.goto (tgt := 5) dX8_cheapest_62 (by decide) ?_
                refine ih (x + 1) x (by omega) (by omega) (Or.inr ⟨hx, by omega, c17, by omega, fun y y0 y1 ye => ?_⟩)
                rcases hc with ⟨q1, q2⟩ | ⟨q1, q2, q3, q4, q5⟩
                · omega
                · by_cases hy : y = x
                  · rw [hy]; exact Int.le_refl _
                  · have := q5 y y0 (by omega) ye
                    omega
  refine ZW.bipush dX8_cheapest_0 rfl ?_
  refine ZW.istore_n dX8_cheapest_2 (by decide) rfl ?_
  refine ZW.iconst dX8_cheapest_3 ?_
  refine ZW.istore_n dX8_cheapest_4 (by decide) rfl ?_
  exact loop 63 0 (-5) (by omega) (by omega) (Or.inl ⟨rfl, fun y y0 y1 => by omega⟩)
end
section
-- the reference's costs are those of wayF
theorem cntF_up {e : Int → Int} {x : Int} (he : e x = 0) : ∀ {n : Nat} {i : Int}, i ≤ x → x < i + n → cntF (zUp e x 1) n i = cntF e n i + 1
  | 0, _, _, _ => by omega
  | n + 1, i, h0, h1 => by
    unfold cntF
    by_cases hi : i = x
    · subst hi
      rw [zUp_same, he, cntF_cong (p := zUp e i 1) (q := e) (fun j h2 h3 => zUp_ne _ _ (by omega))]
      omega
    · rw [zUp_ne _ _ hi, cntF_up he (by omega) (by omega)]
      omega
theorem zUp_id {f : Int → Int} {i v : Int} (h : f i = v) : zUp f i v = f := by
  funext x
  unfold zUp
  split
  · next hx => rw [hx, h]
  · rfl
def djA (r : Int → Int) (u : Int) (f e : Int → Int) (k : Int) : Prop :=
  (∀ x, 0 ≤ x → x < 63 → e x = 0 ∨ e x = 1) ∧ cntF e 63 0 = k ∧ f (ofF r u 2) = 0 ∧ (∀ x, 0 ≤ x → x < 63 → f x = 1000 ∨ (0 ≤ f x ∧ f x ≤ 3 * k)) ∧ (∀ y, 0 ≤ y → y < 63 → y ≠ ofF r u 2 → f y ≠ 1000 → ∃ x d, edgeP r u x d y ∧ e x = 1 ∧ f y = f x + stepC r x d y)
/-- ahead of a choice -/
def djI (r : Int → Int) (u : Int) (f e : Int → Int) (k : Int) : Prop :=
  djA r u f e k ∧ (∀ x d y, edgeP r u x d y → e x = 1 → f y ≤ f x + stepC r x d y) ∧ (∀ x y, 0 ≤ x → x < 63 → 0 ≤ y → y < 63 → e x = 1 → e y = 0 → f x ≤ f y) ∧ (∀ x, 0 ≤ x → x < 63 → e x = 1 → f x < 1000)
/-- while the steps from h on are laid, those below d are -/
def djJ (r : Int → Int) (u : Int) (f e : Int → Int) (k h d : Int) : Prop :=
  djA r u f e k ∧ k ≤ 63 ∧ e h = 1 ∧ 0 ≤ f h ∧ f h ≤ 3 * (k - 1) ∧ (∀ x, 0 ≤ x → x < 63 → e x = 1 → f x ≤ f h) ∧ (∀ y, 0 ≤ y → y < 63 → e y = 0 → f h ≤ f y) ∧ (∀ x d' y, edgeP r u x d' y → e x = 1 → (x ≠ h ∨ d' < d) → f y ≤ f x + stepC r x d' y)
theorem djJ_end {r : Int → Int} {u : Int} {f e : Int → Int} {k h d : Int} (hj : djJ r u f e k h d) (hd : ∀ d' y, edgeP r u h d' y → d' < d) : djI r u f e k := by
  obtain ⟨hA, hk, h1, h2, h3, h4, h5, h6⟩ := hj
  refine ⟨hA, fun x d' y he hx => h6 x d' y he hx ?_, fun x y x0 x1 y0 y1 hx hy => Int.le_trans (h4 x x0 x1 hx) (h5 y y0 y1 hy), fun x x0 x1 hx => ?_⟩
  · by_cases q : x = h
    · subst q; exact Or.inr (hd d' y he)
    · exact Or.inl q
  · have := h4 x x0 x1 hx
    omega
theorem djI_pick {r : Int → Int} {u : Int} {f e : Int → Int} {k h : Int} (hi : djI r u f e k) (h0 : 0 ≤ h) (h1 : h < 63) (he : e h = 0) (hf : f h < 1000) (hm : ∀ y, 0 ≤ y → y < 63 → e y = 0 → f h ≤ f y) : djJ r u f (zUp e h 1) (k + 1) h 0 := by
  obtain ⟨⟨a1, a2, a3, a4, a5⟩, b1, b2, b3⟩ := hi
  have e1 : ∀ x, zUp e h 1 x = 1 → x = h ∨ e x = 1 := fun x q => by
    by_cases hx : x = h
    · exact Or.inl hx
    · rw [zUp_ne _ _ hx] at q; exact Or.inr q
  have e2 : ∀ x, e x = 1 → zUp e h 1 x = 1 := fun x q => by
    by_cases hx : x = h
    · rw [hx, zUp_same]
    · rw [zUp_ne _ _ hx]; exact q
  have hc := cntF_up he (n := 63) (i := 0) (by omega) (by omega)
  have a1' : ∀ x, 0 ≤ x → x < 63 → zUp e h 1 x = 0 ∨ zUp e h 1 x = 1 := fun x x0 x1 => by
    by_cases hx : x = h
    · rw [hx, zUp_same]; exact Or.inr rfl
    · rw [zUp_ne _ _ hx]; exact a1 x x0 x1
  have hb := cntF_R (p := zUp e h 1) (b := 1) (by decide) (n := 63) (i := 0) (fun j j0 j1 => by have := a1' j j0 (by omega); omega)
  have fh := (a4 h h0 h1).resolve_left (by omega)
  refine ⟨⟨a1', by omega, a3, fun x x0 x1 => ?_, fun y y0 y1 yn yf => ?_⟩, by omega, zUp_same _ _ _, fh.1, by omega, fun x x0 x1 hx => ?_, fun y y0 y1 hy => ?_, fun x d' y hed hx hor => ?_⟩
  · rcases a4 x x0 x1 with q | q
    · exact Or.inl q
    · exact Or.inr ⟨q.1, by omega⟩
  · obtain ⟨x, d, q1, q2, q3⟩ := a5 y y0 y1 yn yf
    exact ⟨x, d, q1, e2 x q2, q3⟩
  · rcases e1 x hx with q | q
    · rw [q]; exact Int.le_refl _
    · exact b2 x h x0 x1 h0 h1 q he
  · by_cases q : y = h
    · rw [q]; exact Int.le_refl _
    · rw [zUp_ne _ _ q] at hy; exact hm y y0 y1 hy
  · rcases e1 x hx with q | q
    · subst q
      have := hed.2.2.1
      omega
    · exact b1 x d' y hed q
theorem djJ_step {r : Int → Int} {u : Int} {f e : Int → Int} {k h d y : Int} (hj : djJ r u f e k h d) (he : edgeP r u h d y) (hd : f h + stepC r h d y < f y) : djJ r u (zUp f y (f h + stepC r h d y)) e k h (d + 1) := by
  obtain ⟨⟨a1, a2, a3, a4, a5⟩, hk, h1, h2, h3, h4, h5, h6⟩ := hj
  have hc := stepC_R r h d y
  have hy := edgeP_y he
  have hh : 0 ≤ h ∧ h < 63 := ⟨he.1, he.2.1⟩
  have hyn : e y = 0 := (a1 y hy.1 hy.2).resolve_right (fun q => by have := h4 y hy.1 hy.2 q; omega)
  have hdone : ∀ x, e x = 1 → x ≠ y := fun x q z => by rw [z, hyn] at q; omega
  have hfr : y ≠ ofF r u 2 := fun q => by
    rw [← q] at a3
    omega
  have hhy : h ≠ y := hdone h h1
  refine ⟨⟨a1, a2, by rw [zUp_ne _ _ (fun q => hfr q.symm)]; exact a3, fun x x0 x1 => ?_, fun z z0 z1 zn zf => ?_⟩, hk, h1, by rw [zUp_ne _ _ hhy]; exact h2, by rw [zUp_ne _ _ hhy]; exact h3, fun x x0 x1 hx => ?_, fun z z0 z1 hz => ?_, fun x d' z hed hx hor => ?_⟩
  · by_cases q : x = y
    · rw [q, zUp_same]; exact Or.inr ⟨by omega, by omega⟩
    · rw [zUp_ne _ _ q]; exact a4 x x0 x1
  · by_cases q : z = y
    · subst q
      exact ⟨h, d, he, h1, by rw [zUp_same, zUp_ne _ _ hhy]⟩
    · rw [zUp_ne _ _ q] at zf ⊢
      obtain ⟨x, d', q1, q2, q3⟩ := a5 z z0 z1 zn zf
      exact ⟨x, d', q1, q2, by rw [zUp_ne _ _ (hdone x q2)]; exact q3⟩
  · rw [zUp_ne _ _ (hdone x hx), zUp_ne _ _ hhy]
    exact h4 x x0 x1 hx
  · rw [zUp_ne _ _ hhy]
    by_cases q : z = y
    · rw [q, zUp_same]; omega
    · rw [zUp_ne _ _ q]; exact h5 z z0 z1 hz
  · rw [zUp_ne _ _ (hdone x hx)]
    by_cases q : z = y
    · rw [q, zUp_same]
      by_cases q2 : x = h ∧ d' = d
      · rw [q2.1, q2.2]; exact Int.le_refl _
      · have := h6 x d' y (q ▸ hed) hx (by omega)
        omega
    · rw [zUp_ne _ _ q]
      refine h6 x d' z hed hx ?_
      by_cases q2 : x = h
      · subst q2
        by_cases q3 : d' = d
        · subst q3
          exact absurd (hed.2.2.2.2.1.symm.trans he.2.2.2.2.1) q
        · omega
      · exact Or.inl q2
theorem djJ_skip {r : Int → Int} {u : Int} {f e : Int → Int} {k h d : Int} (hj : djJ r u f e k h d) (hd : ∀ y, edgeP r u h d y → f y ≤ f h + stepC r h d y) : djJ r u f e k h (d + 1) := by
  obtain ⟨hA, hk, h1, h2, h3, h4, h5, h6⟩ := hj
  refine ⟨hA, hk, h1, h2, h3, h4, h5, fun x d' y hed hx hor => ?_⟩
  by_cases q : x = h ∧ d' = d
  · rw [q.1, q.2]
    exact hd y (by rw [← q.1, ← q.2]; exact hed)
  · exact h6 x d' y hed hx (by omega)
theorem djI_way {r : Int → Int} {u : Int} {f e : Int → Int} {k : Int} (hi : djI r u f e k) (hn : ∀ x, 0 ≤ x → x < 63 → e x = 0 → ¬ f x < 1000) : wayP r u 999 f := by
  obtain ⟨⟨a1, a2, a3, a4, a5⟩, b1, b2, b3⟩ := hi
  have hb := cntF_R (p := e) (b := 1) (by decide) (n := 63) (i := 0) (fun j j0 j1 => by have := a1 j j0 (by omega); omega)
  have fin : ∀ x, 0 ≤ x → x < 63 → f x ≠ 1000 → e x = 1 := fun x x0 x1 hx => (a1 x x0 x1).resolve_left (fun q => by
    have := hn x x0 x1 q
    have := (a4 x x0 x1).resolve_left hx
    omega)
  refine ⟨a3, fun x x0 x1 => ?_, fun x d y he hx hb => b1 x d y he (fin x he.1 he.2.1 hx), fun y y0 y1 yn yf => ?_⟩
  · rcases a4 x x0 x1 with q | q
    · exact Or.inl q
    · exact Or.inr ⟨q.1, by omega⟩
  · obtain ⟨x, d, q1, q2, q3⟩ := a5 y y0 y1 yn yf
    have := b3 x q1.1 q1.2.1 q2
    exact ⟨x, d, q1, by omega, q3⟩
def zWays (g g' : ZH) (r : Int → Int) (u : Int) : Prop := zFr [106, 107, 109] g g' ∧ ∀ x, 0 ≤ x → x < 63 → g' 106 x = wayF r u x
set_option maxHeartbeats 1000000 in
theorem c_X8_laysWays (g : ZH) (hk : okB (g 101)) (hu : okU (g 101)) {u : Int} (hu0 : 0 ≤ u ∧ u < 16) : ZC 5 mX8_laysWays [.inr 100, .inl u] g (fun _ g' => zWays g g' (g 101) u) := by
  have hU := hu u hu0.1 hu0.2
  have hb0 := ofU_R hk hu0 (w := 0) (by omega)
  have hb2 := ofU_R hk hu0 (w := 2) (by omega)
  refine ZC.of (by decide +kernel) (Nat.le_of_ble_eq_true rfl) ?_
  have loopD : ∀ (n : Nat) (d x k : Int) (g1 : ZH) (o6 o7 : Option ZV), 0 ≤ d → d + n = 6 → 0 ≤ x → x < 63 → zFr [106, 107, 109] g g1 → (∀ x, 0 ≤ x → x < 63 → g1 109 x = zB (zoneB (g 101) x (1 - ofF (g 101) u 0))) → djJ (g 101) u (g1 106) (g1 107) k x d → (∀ (g2 : ZH) (o5 o6 o7 : Option ZV), zFr [106, 107, 109] g g2 → (∀ x, 0 ≤ x → x < 63 → g2 109 x = zB (zoneB (g 101) x (1 - ofF (g 101) u 0))) → djI (g 101) u (g2 106) (g2 107) k → ZW 5 mX8_laysWays 192 [some (.inr 100), some (.inl u), some (.inl (1 - ofF (g 101) u 0)), some (.inl (ofF (g 101) u 2)), some (.inl x), o5, o6, o7] [] g2 (fun _ g' => zWays g g' (g 101) u)) → ZW 5 mX8_laysWays 86 [some (.inr 100), some (.inl u), some (.inl (1 - ofF (g 101) u 0)), some (.inl (ofF (g 101) u 2)), some (.inl x), some (.inl d), o6, o7] [] g1 (fun _ g' => zWays g g' (g 101) u) := by
    intro n
    induction n with
    | zero =>
      intro d x k g1 o6 o7 h0 hn hx hx2 hf hz hj kk
      refine ZW.iload dX8_laysWays_86 rfl ?_
      refine ZW.bipush dX8_laysWays_88 rfl ?_
      refine ZW.icmp_ge (tgt := 192) dX8_laysWays_90 (by decide) (by omega) (by omega) (fun c90 => ?_) (fun c90 => ?_)
      · exact kk g1 _ _ _ hf hz (djJ_end hj (fun d' y he => by have := he.2.2.2.1; omega))
      · exact absurd c90 (by omega)
    | succ n ih =>
      intro d x k g1 o6 o7 h0 hn hx hx2 hf hz hj kk
      have e1 : g1 101 = g 101 := hf 101 (by decide)
      refine ZW.iload dX8_laysWays_86 rfl ?_
      refine ZW.bipush dX8_laysWays_88 rfl ?_
      refine ZW.icmp_ge (tgt := 192) dX8_laysWays_90 (by decide) (by omega) (by omega) (fun c90 => ?_) (fun c90 => ?_)
      · exact absurd c90 (by omega)
      · have go : goB (g 101) u x = true → ZW 5 mX8_laysWays 109 [some (.inr 100), some (.inl u), some (.inl (1 - ofF (g 101) u 0)), some (.inl (ofF (g 101) u 2)), some (.inl x), some (.inl d), o6, o7] [] g1 (fun _ g' => zWays g g' (g 101) u) := by
          intro hgo
          refine ZW.iload dX8_laysWays_109 rfl ?_
          refine ZW.iload dX8_laysWays_111 rfl ?_
          refine ZW.callS (as := [_, _]) dX8_laysWays_113 cs_X8_59 rfl (by decide) (Nat.le_of_ble_eq_true rfl) rfl (c_X8_next _ ⟨hx, hx2⟩ (by omega)) (fun r1 g2 ⟨q1, q2⟩ => ?_)
          subst q1; subst q2
          have hnr := nextF_R' x d
          refine ZW.istore dX8_laysWays_116 (by decide) rfl ?_
          refine ZW.iload dX8_laysWays_118 rfl ?_
          refine ZW.bipush dX8_laysWays_120 rfl ?_
          refine ZW.icmp_eq (tgt := 186) dX8_laysWays_122 (by decide) (by omega) (by omega) (fun c122 => ?_) (fun c122 => ?_)
          · refine ZW.iinc dX8_laysWays_186 rfl (by decide) rfl ?_
            refine ZW.goto (tgt := 86) dX8_laysWays_189 (by decide) ?_
            exact ih (d + 1) x k _ _ _ (by omega) (by omega) hx hx2 hf hz (djJ_skip hj (fun y he => absurd (he.2.2.2.2.1.symm.trans c122) (fun q => he.2.2.2.2.2.1 q))) kk
          · have hr := (nextF_R (x := x) (d := d)).resolve_left c122
            refine ZW.aload_n dX8_laysWays_125 rfl ?_
            refine ZW.iload dX8_laysWays_126 rfl ?_
            refine ZW.iload_n dX8_laysWays_128 rfl ?_
            refine ZW.callV (as := [_, _]) dX8_laysWays_129 cv_X8_66 ⟨_, rfl⟩ rfl (by decide) (Nat.le_of_ble_eq_true rfl) rfl (c_X8_isOn _ (e1 ▸ hk) (by omega) (by omega)) (fun r1 g3 ⟨q1, q2⟩ => ?_)
            subst q1; subst q2
            rw [e1]
            refine ZW.if_ne (tgt := 186) dX8_laysWays_132 (by decide) (by exact zB_R _) (fun c132 => ?_) (fun c132 => ?_)
            · have e := zB_ne c132
              refine ZW.iinc dX8_laysWays_186 rfl (by decide) rfl ?_
              refine ZW.goto (tgt := 86) dX8_laysWays_189 (by decide) ?_
              refine ih (d + 1) x k _ _ _ (by omega) (by omega) hx hx2 hf hz (djJ_skip hj (fun y he => ?_)) kk
              have h8 := he.2.2.2.2.2.2.2
              unfold entB at h8
              rw [← he.2.2.2.2.1, e] at h8
              cases h8
            · have e := zB_eq c132
              have hed : edgeP (g 101) u x d (nextF x d) := ⟨hx, hx2, h0, by omega, rfl, c122, hgo, by unfold entB; rw [e]; rfl⟩
              have hfx := hj.1.2.2.2.1 x hx hx2
              have hfo := hj.1.2.2.2.1 (nextF x d) hr.1 hr.2
              have hkk := hj.2.1
              have hc := stepC_R (g 101) x d (nextF x d)
              refine ZW.aload_n dX8_laysWays_135 rfl ?_
              refine ZW.getR dX8_laysWays_136 fl_X8_25 ⟨_, rfl, rfl⟩ ?_
              refine ZW.iload dX8_laysWays_139 rfl ?_
              refine ZW.iald dX8_laysWays_141 rfl (by decide) (by omega) rfl ?_
              refine ZW.aload_n dX8_laysWays_142 rfl ?_
              refine ZW.iload dX8_laysWays_143 rfl ?_
              refine ZW.iload dX8_laysWays_145 rfl ?_
              refine ZW.iload dX8_laysWays_147 rfl ?_
              refine ZW.callV (as := [_, _, _]) dX8_laysWays_149 cv_X8_84 ⟨_, rfl⟩ rfl (by decide) (Nat.le_of_ble_eq_true rfl) rfl (c_X8_entering _ (e1 ▸ hk) ⟨hx, hx2⟩ (by omega) hr) (fun r1 g4 ⟨q1, q2⟩ => ?_)
              subst q1; subst q2
              rw [e1]
              refine ZW.iadd dX8_laysWays_152 ?_
              refine ZW.istore dX8_laysWays_153 (by decide) rfl ?_
              refine ZW.aload_n dX8_laysWays_155 rfl ?_
              refine ZW.getR dX8_laysWays_156 fl_X8_25 ⟨_, rfl, rfl⟩ ?_
              refine ZW.iload dX8_laysWays_159 rfl ?_
              refine ZW.iload dX8_laysWays_161 rfl ?_
              refine ZW.aload_n dX8_laysWays_163 rfl ?_
              refine ZW.getR dX8_laysWays_164 fl_X8_25 ⟨_, rfl, rfl⟩ ?_
              refine ZW.iload dX8_laysWays_167 rfl ?_
              refine ZW.iald dX8_laysWays_169 rfl (by decide) (by omega) rfl ?_
              refine ZW.icmp_ge (tgt := 178) dX8_laysWays_170 (by decide) (by omega) (by omega) (fun c170 => ?_) (fun c170 => ?_)
              · refine ZW.aload_n dX8_laysWays_178 rfl ?_
                refine ZW.getR dX8_laysWays_179 fl_X8_25 ⟨_, rfl, rfl⟩ ?_
                refine ZW.iload dX8_laysWays_182 rfl ?_
                refine ZW.iald dX8_laysWays_184 rfl (by decide) (by omega) rfl ?_
                refine ZW.iast dX8_laysWays_185 rfl (by decide) (by omega) ?_
                refine ZW.iinc dX8_laysWays_186 rfl (by decide) rfl ?_
                refine ZW.goto (tgt := 86) dX8_laysWays_189 (by decide) ?_
                rw [zSet_row, zUp_id rfl, zRow_self]
                refine ih (d + 1) x k _ _ _ (by omega) (by omega) hx hx2 hf hz (djJ_skip hj (fun y he => ?_)) kk
                rw [← he.2.2.2.2.1]
                exact c170
              · refine ZW.iload dX8_laysWays_173 rfl ?_
                refine ZW.goto (tgt := 185) dX8_laysWays_175 (by decide) ?_
                refine ZW.iast dX8_laysWays_185 rfl (by decide) (by omega) ?_
                refine ZW.iinc dX8_laysWays_186 rfl (by decide) rfl ?_
                refine ZW.goto (tgt := 86) dX8_laysWays_189 (by decide) ?_
                refine ih (d + 1) x k _ _ _ (by omega) (by omega) hx hx2 (hf.set (by decide) _ _) (fun z z0 z1 => ?_) ?_ kk
                · rw [zSet_ne _ _ _ (by decide)]
                  exact hz z z0 z1
                · rw [zSet_same, zSet_ne _ _ _ (by decide)]
                  exact djJ_step hj hed c170
        refine ZW.iload dX8_laysWays_93 rfl ?_
        refine ZW.iload_n dX8_laysWays_95 rfl ?_
        refine ZW.icmp_eq (tgt := 109) dX8_laysWays_96 (by decide) (by omega) (by omega) (fun c96 => ?_) (fun c96 => ?_)
        · exact go (by unfold goB; simp [c96])
        · have hzx := hz x hx hx2
          have hzr := zB_R (zoneB (g 101) x (1 - ofF (g 101) u 0))
          refine ZW.aload_n dX8_laysWays_99 rfl ?_
          refine ZW.getR dX8_laysWays_100 fl_X8_35 ⟨_, rfl, rfl⟩ ?_
          refine ZW.iload dX8_laysWays_103 rfl ?_
          refine ZW.zald dX8_laysWays_105 rfl (by decide) (by omega) rfl ?_
          refine ZW.if_ne (tgt := 192) dX8_laysWays_106 (by decide) (by rw [hzx]; exact zB_R _) (fun c106 => ?_) (fun c106 => ?_)
          · rw [hzx] at c106
            have e := zB_ne c106
            refine kk g1 _ _ _ hf hz (djJ_end hj (fun d' y he => ?_))
            have h7 := he.2.2.2.2.2.2.1
            unfold goB at h7
            rw [e] at h7
            simp at h7
            exact absurd h7 c96
          · rw [hzx] at c106
            have e := zB_eq c106
            exact go (by unfold goB; rw [e]; simp)
  have main : ∀ (n : Nat) (x k : Int) (g1 : ZH) (o5 o6 o7 : Option ZV), k + n = 63 → zFr [106, 107, 109] g g1 → (∀ x, 0 ≤ x → x < 63 → g1 109 x = zB (zoneB (g 101) x (1 - ofF (g 101) u 0))) → djI (g 101) u (g1 106) (g1 107) k → chP (g1 106) (g1 107) x 63 → ZW 5 mX8_laysWays 68 [some (.inr 100), some (.inl u), some (.inl (1 - ofF (g 101) u 0)), some (.inl (ofF (g 101) u 2)), some (.inl x), o5, o6, o7] [] g1 (fun _ g' => zWays g g' (g 101) u) := by
    intro n
    induction n with
    | zero =>
      intro x k g1 o5 o6 o7 hn hf hz hi hc
      rcases hc with ⟨rfl, hc⟩ | ⟨q1, q2, q3, q4, q5⟩
      · refine ZW.iload dX8_laysWays_68 rfl ?_
        refine ZW.bipush dX8_laysWays_70 rfl ?_
        refine ZW.icmp_eq (tgt := 201) dX8_laysWays_72 (by decide) (by omega) (by omega) (fun c72 => ?_) (fun c72 => ?_)
        · refine ZW.vret dX8_laysWays_201 rfl ?_
          exact ⟨hf, fun y y0 y1 => wayP_F hU.2 (djI_way hi hc) y0 y1⟩
        · exact absurd rfl c72
      · have := (djI_pick hi q1 q2 q3 q4 q5).2.1
        omega
    | succ n ih =>
      intro x k g1 o5 o6 o7 hn hf hz hi hc
      rcases hc with ⟨rfl, hc⟩ | ⟨q1, q2, q3, q4, q5⟩
      · refine ZW.iload dX8_laysWays_68 rfl ?_
        refine ZW.bipush dX8_laysWays_70 rfl ?_
        refine ZW.icmp_eq (tgt := 201) dX8_laysWays_72 (by decide) (by omega) (by omega) (fun c72 => ?_) (fun c72 => ?_)
        · refine ZW.vret dX8_laysWays_201 rfl ?_
          exact ⟨hf, fun y y0 y1 => wayP_F hU.2 (djI_way hi hc) y0 y1⟩
        · exact absurd rfl c72
      · have hj := djI_pick hi q1 q2 q3 q4 q5
        refine ZW.iload dX8_laysWays_68 rfl ?_
        refine ZW.bipush dX8_laysWays_70 rfl ?_
        refine ZW.icmp_eq (tgt := 201) dX8_laysWays_72 (by decide) (by omega) (by omega) (fun c72 => ?_) (fun c72 => ?_)
        · exact absurd c72 (by omega)
        · refine ZW.aload_n dX8_laysWays_75 rfl ?_
          refine ZW.getR dX8_laysWays_76 fl_X8_28 ⟨_, rfl, rfl⟩ ?_
          refine ZW.iload dX8_laysWays_79 rfl ?_
          refine ZW.iconst dX8_laysWays_81 ?_
          refine ZW.zast dX8_laysWays_82 rfl (by decide) (by omega) (by first | exact Or.inl rfl | exact Or.inr rfl | assumption | omega) ?_
          refine ZW.iconst dX8_laysWays_83 ?_
          refine ZW.istore dX8_laysWays_84 (by decide) rfl ?_
          refine loopD 6 0 x (k + 1) _ _ _ (by omega) (by omega) q1 q2 (hf.set (by decide) _ _) (fun z z0 z1 => ?_) ?_ (fun g2 p5 p6 p7 hf2 hz2 hi2 => ?_)
          · rw [zSet_ne _ _ _ (by decide)]
            exact hz z z0 z1
          · rw [zSet_same, zSet_ne _ _ _ (by decide)]
            exact hj
          · refine ZW.aload_n dX8_laysWays_192 rfl ?_
            have hk63 := hj.2.1
            refine ZW.callV (as := []) dX8_laysWays_193 cv_X8_88 ⟨_, rfl⟩ rfl (by decide) (Nat.le_of_ble_eq_true rfl) rfl (c_X8_cheapest _ (fun z z0 z1 => by rcases hi2.1.2.2.2.1 z z0 z1 with q | q <;> omega) hi2.1.1) (fun r1 g3 ⟨w1, w2⟩ => ?_)
            subst w2
            refine ZW.istore dX8_laysWays_196 (by decide) rfl ?_
            refine ZW.goto (tgt := 68) dX8_laysWays_198 (by decide) ?_
            exact ih r1 (k + 1) _ _ _ _ (by omega) hf2 hz2 hi2 w1
  have fill : ∀ (n : Nat) (x : Int) (g1 : ZH) (o5 o6 o7 : Option ZV), 0 ≤ x → x + n = 63 → zFr [106, 107, 109] g g1 → (∀ x, 0 ≤ x → x < 63 → g1 109 x = zB (zoneB (g 101) x (1 - ofF (g 101) u 0))) → (∀ y, 0 ≤ y → y < x → g1 106 y = (if y = ofF (g 101) u 2 then 0 else 1000) ∧ g1 107 y = 0) → ZW 5 mX8_laysWays 24 [some (.inr 100), some (.inl u), some (.inl (1 - ofF (g 101) u 0)), some (.inl (ofF (g 101) u 2)), some (.inl x), o5, o6, o7] [] g1 (fun _ g' => zWays g g' (g 101) u) := by
    intro n
    induction n with
    | zero =>
      intro x g1 o5 o6 o7 hx hn hf hz hy
      have hx63 : x = 63 := by omega
      subst hx63
      refine ZW.iload dX8_laysWays_24 rfl ?_
      refine ZW.bipush dX8_laysWays_26 rfl ?_
      refine ZW.icmp_ge (tgt := 65) dX8_laysWays_28 (by decide) (by omega) (by omega) (fun c28 => ?_) (fun c28 => ?_)
      · refine ZW.iload_n dX8_laysWays_65 rfl ?_
        refine ZW.istore dX8_laysWays_66 (by decide) rfl ?_
        have hc0 : cntF (g1 107) 63 0 = 0 := by
          rw [cntF_cong (q := fun _ => 0) (fun j j0 j1 => (hy j j0 (by omega)).2)]
          decide
        refine main 63 _ 0 g1 _ _ _ (by omega) hf hz ⟨⟨fun z z0 z1 => Or.inl (hy z z0 z1).2, hc0, ?_, fun z z0 z1 => ?_, fun z z0 z1 zn zf => ?_⟩, fun z d' y he hz1 => ?_, fun z y z0 z1 y0 y1 hz1 => ?_, fun z z0 z1 hz1 => ?_⟩ (Or.inr ⟨hU.2.1, hU.2.2, (hy _ hU.2.1 hU.2.2).2, ?_, fun z z0 z1 _ => ?_⟩)
        · rw [(hy _ hU.2.1 hU.2.2).1, if_pos rfl]
        · rw [(hy z z0 z1).1]
          by_cases q : z = ofF (g 101) u 2
          · rw [if_pos q]; exact Or.inr ⟨by decide, by decide⟩
          · rw [if_neg q]; exact Or.inl rfl
        · rw [(hy z z0 z1).1, if_neg zn] at zf
          exact absurd rfl zf
        · rw [(hy z he.1 he.2.1).2] at hz1
          omega
        · rw [(hy z z0 z1).2] at hz1
          omega
        · rw [(hy z z0 z1).2] at hz1
          omega
        · rw [(hy _ hU.2.1 hU.2.2).1, if_pos rfl]
          decide
        · rw [(hy _ hU.2.1 hU.2.2).1, if_pos rfl, (hy z z0 z1).1]
          split <;> decide
      · exact absurd c28 (by omega)
    | succ n ih =>
      intro x g1 o5 o6 o7 hx hn hf hz hy
      refine ZW.iload dX8_laysWays_24 rfl ?_
      refine ZW.bipush dX8_laysWays_26 rfl ?_
      refine ZW.icmp_ge (tgt := 65) dX8_laysWays_28 (by decide) (by omega) (by omega) (fun c28 => ?_) (fun c28 => ?_)
      · exact absurd c28 (by omega)
      · refine ZW.aload_n dX8_laysWays_31 rfl ?_
        refine ZW.getR dX8_laysWays_32 fl_X8_25 ⟨_, rfl, rfl⟩ ?_
        refine ZW.iload dX8_laysWays_35 rfl ?_
        refine ZW.iload dX8_laysWays_37 rfl ?_
        refine ZW.iload_n dX8_laysWays_39 rfl ?_
        refine ZW.icmp_ne (tgt := 47) dX8_laysWays_40 (by decide) (by omega) (by omega) (fun c40 => ?_) (fun c40 => ?_)
        · refine ZW.sipush dX8_laysWays_47 rfl ?_
          refine ZW.iast dX8_laysWays_50 rfl (by decide) (by omega) ?_
          refine ZW.aload_n dX8_laysWays_51 rfl ?_
          refine ZW.getR dX8_laysWays_52 fl_X8_28 ⟨_, rfl, rfl⟩ ?_
          refine ZW.iload dX8_laysWays_55 rfl ?_
          refine ZW.iconst dX8_laysWays_57 ?_
          refine ZW.zast dX8_laysWays_58 rfl (by decide) (by omega) (by first | exact Or.inl rfl | exact Or.inr rfl | assumption | omega) ?_
          refine ZW.iinc dX8_laysWays_59 rfl (by decide) rfl ?_
          refine ZW.goto (tgt := 24) dX8_laysWays_62 (by decide) ?_
          refine ih (x + 1) _ _ _ _ (by omega) (by omega) ((hf.set (by decide) _ _).set (by decide) _ _) (fun z z0 z1 => ?_) (fun z z0 z1 => ?_)
          · rw [zSet_ne _ _ _ (by decide), zSet_ne _ _ _ (by decide)]
            exact hz z z0 z1
          · simp only [zSet_same, zSet_ne _ _ _ (show (106 : Nat) ≠ 107 by decide), zSet_ne _ _ _ (show (107 : Nat) ≠ 106 by decide)]
            by_cases q : z = x
            · rw [q, zUp_same, zUp_same, if_neg c40]
              exact ⟨rfl, rfl⟩
            · rw [zUp_ne _ _ q, zUp_ne _ _ q]
              exact hy z z0 (by omega)
        · refine ZW.iconst dX8_laysWays_43 ?_
          refine ZW.goto (tgt := 50) dX8_laysWays_44 (by decide) ?_
          refine ZW.iast dX8_laysWays_50 rfl (by decide) (by omega) ?_
          refine ZW.aload_n dX8_laysWays_51 rfl ?_
          refine ZW.getR dX8_laysWays_52 fl_X8_28 ⟨_, rfl, rfl⟩ ?_
          refine ZW.iload dX8_laysWays_55 rfl ?_
          refine ZW.iconst dX8_laysWays_57 ?_
          refine ZW.zast dX8_laysWays_58 rfl (by decide) (by omega) (by first | exact Or.inl rfl | exact Or.inr rfl | assumption | omega) ?_
          refine ZW.iinc dX8_laysWays_59 rfl (by decide) rfl ?_
          refine ZW.goto (tgt := 24) dX8_laysWays_62 (by decide) ?_
          refine ih (x + 1) _ _ _ _ (by omega) (by omega) ((hf.set (by decide) _ _).set (by decide) _ _) (fun z z0 z1 => ?_) (fun z z0 z1 => ?_)
          · rw [zSet_ne _ _ _ (by decide), zSet_ne _ _ _ (by decide)]
            exact hz z z0 z1
          · simp only [zSet_same, zSet_ne _ _ _ (show (106 : Nat) ≠ 107 by decide), zSet_ne _ _ _ (show (107 : Nat) ≠ 106 by decide)]
            by_cases q : z = x
            · rw [q, zUp_same, zUp_same, if_pos c40]
              exact ⟨rfl, rfl⟩
            · rw [zUp_ne _ _ q, zUp_ne _ _ q]
              exact hy z z0 (by omega)
  refine ZW.iconst dX8_laysWays_0 ?_
  refine ZW.aload_n dX8_laysWays_1 rfl ?_
  refine ZW.iload_n dX8_laysWays_2 rfl ?_
  refine ZW.iconst dX8_laysWays_3 ?_
  refine ZW.callV (as := [_, _]) dX8_laysWays_4 cv_X8_52 ⟨_, rfl⟩ rfl (by decide) (Nat.le_of_ble_eq_true rfl) rfl (c_X8_of _ hu0 (by omega)) (fun r1 g1 ⟨q1, q2⟩ => ?_)
  subst q1; subst q2
  refine ZW.isub dX8_laysWays_7 ?_
  refine ZW.istore_n dX8_laysWays_8 (by decide) rfl ?_
  refine ZW.aload_n dX8_laysWays_9 rfl ?_
  refine ZW.iload_n dX8_laysWays_10 rfl ?_
  refine ZW.iconst dX8_laysWays_11 ?_
  refine ZW.callV (as := [_, _]) dX8_laysWays_12 cv_X8_52 ⟨_, rfl⟩ rfl (by decide) (Nat.le_of_ble_eq_true rfl) rfl (c_X8_of _ hu0 (by omega)) (fun r1 g1 ⟨q1, q2⟩ => ?_)
  subst q1; subst q2
  refine ZW.istore_n dX8_laysWays_15 (by decide) rfl ?_
  refine ZW.aload_n dX8_laysWays_16 rfl ?_
  refine ZW.iload_n dX8_laysWays_17 rfl ?_
  refine ZW.callVv (as := [_]) dX8_laysWays_18 cv_X8_80 ⟨_, rfl⟩ rfl (by decide) (Nat.le_of_ble_eq_true rfl) rfl (fun _ _ hz _ => hz) (c_X8_laysZone _ hk (by omega)) (fun g1 ⟨q1, q2⟩ => ?_)
  refine ZW.iconst dX8_laysWays_21 ?_
  refine ZW.istore dX8_laysWays_22 (by decide) rfl ?_
  exact fill 63 0 g1 _ _ _ (by omega) (by omega) (q1.up (by decide)) q2 (fun y y0 y1 => by omega)
end
section
-- supply: the reference goes from the unit to the sources
def freeB (r : Int → Int) (side x : Int) : Bool := !isOnB r x (1 - side) && (!zoneB r x (1 - side) || isOnB r x side)
def srcB (r : Int → Int) (side x : Int) : Bool := decide (r (189 + side) = x ∨ r (126 + x) = side + 1)
theorem c_X8_isSource (g : ZH) (hk : okB (g 101)) {x side : Int} (hx : 0 ≤ x ∧ x < 63) (hs : side = 0 ∨ side = 1) : ZC 0 mX8_isSource [.inr 100, .inl x, .inl side] g (fun r g' => r = zB (srcB (g 101) side x) ∧ g' = g) := by
  have h1 := hk.1 (189 + side) (by omega) (by omega)
  have h2 := hk.1 (126 + x) (by omega) (by omega)
  refine ZC.of (by decide +kernel) (Nat.le_of_ble_eq_true rfl) ?_
  refine ZW.aload_n dX8_isSource_0 rfl ?_
  refine ZW.getR dX8_isSource_1 fl_X8_7 ⟨_, rfl, rfl⟩ ?_
  refine ZW.sipush dX8_isSource_4 rfl ?_
  refine ZW.iload_n dX8_isSource_7 rfl ?_
  refine ZW.iadd dX8_isSource_8 ?_
  refine ZW.iald dX8_isSource_9 rfl (by decide) (by omega) rfl ?_
  refine ZW.iload_n dX8_isSource_10 rfl ?_
  refine ZW.icmp_eq (tgt := 29) dX8_isSource_11 (by decide) (by omega) (by omega) (fun c11 => ?_) (fun c11 => ?_)
  · refine ZW.iconst dX8_isSource_29 ?_
    refine ZW.goto (tgt := 34) dX8_isSource_30 (by decide) ?_
    refine ZW.iretz dX8_isSource_34 rfl (by first | exact Or.inl rfl | exact Or.inr rfl | assumption | omega) ?_
    exact ⟨by simp [srcB, zB, c11], rfl⟩
  · refine ZW.aload_n dX8_isSource_14 rfl ?_
    refine ZW.getR dX8_isSource_15 fl_X8_7 ⟨_, rfl, rfl⟩ ?_
    refine ZW.bipush dX8_isSource_18 rfl ?_
    refine ZW.iload_n dX8_isSource_20 rfl ?_
    refine ZW.iadd dX8_isSource_21 ?_
    refine ZW.iald dX8_isSource_22 rfl (by decide) (by omega) rfl ?_
    refine ZW.iload_n dX8_isSource_23 rfl ?_
    refine ZW.iconst dX8_isSource_24 ?_
    refine ZW.iadd dX8_isSource_25 ?_
    refine ZW.icmp_ne (tgt := 33) dX8_isSource_26 (by decide) (by omega) (by omega) (fun c26 => ?_) (fun c26 => ?_)
    · refine ZW.iconst dX8_isSource_33 ?_
      refine ZW.iretz dX8_isSource_34 rfl (by first | exact Or.inl rfl | exact Or.inr rfl | assumption | omega) ?_
      exact ⟨by simp [srcB, zB, c11, c26], rfl⟩
    · refine ZW.iconst dX8_isSource_29 ?_
      refine ZW.goto (tgt := 34) dX8_isSource_30 (by decide) ?_
      refine ZW.iretz dX8_isSource_34 rfl (by first | exact Or.inl rfl | exact Or.inr rfl | assumption | omega) ?_
      exact ⟨by simp [srcB, zB, c26], rfl⟩
theorem c_X8_isFree (g : ZH) (hk : okB (g 101)) {x side : Int} (hx : 0 ≤ x ∧ x < 63) (hs : side = 0 ∨ side = 1) (hz : g 109 x = zB (zoneB (g 101) x (1 - side))) : ZC 3 mX8_isFree [.inr 100, .inl x, .inl side] g (fun r g' => r = zB (freeB (g 101) side x) ∧ g' = g) := by
  refine ZC.of (by decide +kernel) (Nat.le_of_ble_eq_true rfl) ?_
  refine ZW.aload_n dX8_isFree_0 rfl ?_
  refine ZW.iload_n dX8_isFree_1 rfl ?_
  refine ZW.iconst dX8_isFree_2 ?_
  refine ZW.iload_n dX8_isFree_3 rfl ?_
  refine ZW.isub dX8_isFree_4 ?_
  refine ZW.callV (as := [_, _]) dX8_isFree_5 cv_X8_66 ⟨_, rfl⟩ rfl (by decide) (Nat.le_of_ble_eq_true rfl) rfl (c_X8_isOn _ hk (by omega) (by omega)) (fun r1 g1 ⟨q1, q2⟩ => ?_)
  subst q1; subst q2
  refine ZW.if_ne (tgt := 33) dX8_isFree_8 (by decide) (by exact zB_R _) (fun c8 => ?_) (fun c8 => ?_)
  · have e := zB_ne c8
    refine ZW.iconst dX8_isFree_33 ?_
    refine ZW.iretz dX8_isFree_34 rfl (by first | exact Or.inl rfl | exact Or.inr rfl | assumption | omega) ?_
    exact ⟨by simp [freeB, zB, e], rfl⟩
  · have e := zB_eq c8
    refine ZW.aload_n dX8_isFree_11 rfl ?_
    refine ZW.getR dX8_isFree_12 fl_X8_35 ⟨_, rfl, rfl⟩ ?_
    refine ZW.iload_n dX8_isFree_15 rfl ?_
    refine ZW.zald dX8_isFree_16 rfl (by decide) (by omega) rfl ?_
    refine ZW.if_eq (tgt := 29) dX8_isFree_17 (by decide) (by rw [hz]; exact zB_R _) (fun c17 => ?_) (fun c17 => ?_)
    · rw [hz] at c17
      have e2 := zB_eq c17
      refine ZW.iconst dX8_isFree_29 ?_
      refine ZW.goto (tgt := 34) dX8_isFree_30 (by decide) ?_
      refine ZW.iretz dX8_isFree_34 rfl (by first | exact Or.inl rfl | exact Or.inr rfl | assumption | omega) ?_
      exact ⟨by simp [freeB, zB, e, e2], rfl⟩
    · rw [hz] at c17
      have e2 := zB_ne c17
      refine ZW.aload_n dX8_isFree_20 rfl ?_
      refine ZW.iload_n dX8_isFree_21 rfl ?_
      refine ZW.iload_n dX8_isFree_22 rfl ?_
      refine ZW.callV (as := [_, _]) dX8_isFree_23 cv_X8_66 ⟨_, rfl⟩ rfl (by decide) (Nat.le_of_ble_eq_true rfl) rfl (c_X8_isOn _ hk (by omega) (by omega)) (fun r1 g2 ⟨q1, q2⟩ => ?_)
      subst q1; subst q2
      refine ZW.if_eq (tgt := 33) dX8_isFree_26 (by decide) (by exact zB_R _) (fun c26 => ?_) (fun c26 => ?_)
      · have e3 := zB_eq c26
        refine ZW.iconst dX8_isFree_33 ?_
        refine ZW.iretz dX8_isFree_34 rfl (by first | exact Or.inl rfl | exact Or.inr rfl | assumption | omega) ?_
        exact ⟨by simp [freeB, zB, e, e2, e3], rfl⟩
      · have e3 := zB_ne c26
        refine ZW.iconst dX8_isFree_29 ?_
        refine ZW.goto (tgt := 34) dX8_isFree_30 (by decide) ?_
        refine ZW.iretz dX8_isFree_34 rfl (by first | exact Or.inl rfl | exact Or.inr rfl | assumption | omega) ?_
        exact ⟨by simp [freeB, zB, e, e3], rfl⟩
def sEdge (r : Int → Int) (side z d y : Int) : Prop := 0 ≤ z ∧ z < 63 ∧ 0 ≤ d ∧ d < 6 ∧ nextF z d = y ∧ y ≠ -5 ∧ freeB r side y = true
theorem sEdge_y {r : Int → Int} {side z d y : Int} (h : sEdge r side z d y) : 0 ≤ y ∧ y < 63 := by
  obtain ⟨_, _, _, _, h5, h6, _⟩ := h
  have := (nextF_R (x := z) (d := d)).resolve_left (by omega)
  omega
/-- n steps from x to y, each hex behind x being free -/
def wkP (r : Int → Int) (side x : Int) : Nat → Int → Prop
  | 0, y => y = x
  | n + 1, y => ∃ z d, wkP r side x n z ∧ sEdge r side z d y
noncomputable def wkD (r : Int → Int) (side x y : Int) : Int := @dite Int (∃ k : Nat, k ≤ 999 ∧ wkP r side x k y) (Classical.propDecidable _) (fun h => ((Classical.choose (pk_least _ h) : Nat) : Int)) (fun _ => 1000)
theorem wkD_spec {r : Int → Int} {side x y : Int} (h : wkD r side x y ≠ 1000) : ∃ n : Nat, wkD r side x y = n ∧ n ≤ 999 ∧ wkP r side x n y := by
  unfold wkD at h ⊢
  split
  · next hk =>
    obtain ⟨h1, h2⟩ := Classical.choose_spec (pk_least _ hk)
    exact ⟨_, rfl, h1.1, h1.2⟩
  · next hk => rw [dif_neg hk] at h; exact absurd rfl h
theorem wkD_le {r : Int → Int} {side x y : Int} {n : Nat} (h : wkP r side x n y) (hn : n ≤ 999) : wkD r side x y ≤ n := by
  have hex : ∃ k : Nat, k ≤ 999 ∧ wkP r side x k y := ⟨n, hn, h⟩
  unfold wkD
  rw [dif_pos hex]
  obtain ⟨h1, h2⟩ := Classical.choose_spec (pk_least _ hex)
  apply Classical.byContradiction
  intro hlt
  exact h2 n (by omega) ⟨hn, h⟩
theorem wkD_R (r : Int → Int) (side x y : Int) : 0 ≤ wkD r side x y ∧ wkD r side x y ≤ 1000 := by
  by_cases h : wkD r side x y = 1000
  · omega
  · obtain ⟨n, h1, h2, _⟩ := wkD_spec h
    omega
theorem wkD_0 {r : Int → Int} {side x y : Int} : wkD r side x y = 0 ↔ y = x := by
  constructor
  · intro h
    obtain ⟨n, h1, h2, h3⟩ := wkD_spec (r := r) (side := side) (x := x) (y := y) (by omega)
    have : n = 0 := by omega
    subst this
    exact h3
  · intro h
    have h1 := wkD_le (r := r) (side := side) (x := x) (y := y) (n := 0) h (by decide)
    have h2 := wkD_R r side x y
    omega
theorem wkD_2 {r : Int → Int} {side x z d y : Int} (he : sEdge r side z d y) (hz : wkD r side x z ≤ 998) : wkD r side x y ≤ wkD r side x z + 1 := by
  obtain ⟨n, h1, h2, h3⟩ := wkD_spec (r := r) (side := side) (x := x) (y := z) (by omega)
  have h4 := wkD_le (r := r) (side := side) (x := x) (y := y) (n := n + 1) ⟨z, d, h3, he⟩ (by omega)
  omega
theorem wkD_3 {r : Int → Int} {side x y R : Int} (hR : 0 ≤ R) (hR2 : R ≤ 998) (h : wkD r side x y = R + 1) : ∃ z d, sEdge r side z d y ∧ wkD r side x z = R := by
  obtain ⟨n, h1, h2, h3⟩ := wkD_spec (r := r) (side := side) (x := x) (y := y) (by omega)
  cases n with
  | zero => omega
  | succ n =>
    obtain ⟨z, d, h4, h5⟩ := h3
    have h6 := wkD_le h4 (by omega)
    have h7 := wkD_2 (x := x) h5 (by omega)
    exact ⟨z, d, h5, by omega⟩
def wsI (D f : Int → Int) (R : Int) : Prop := ∀ x, 0 ≤ x → x < 63 → (D x ≤ R → f x = D x) ∧ (D x = R + 1 → f x = R + 1 ∨ f x = 1000) ∧ (R + 1 < D x → f x = 1000)
def wsP (r : Int → Int) (side : Int) (D f : Int → Int) (R hx hd : Int) : Prop := ∀ x d y, sEdge r side x d y → (x < hx ∨ (x = hx ∧ d < hd)) → D x = R → f y ≠ 1000
theorem ws_round {r : Int → Int} {side a R : Int} {f : Int → Int} (hR : 0 ≤ R) (hR2 : R ≤ 900) (hI : wsI (wkD r side a) f R) (hP : wsP r side (wkD r side a) f R 63 0) : wsI (wkD r side a) f (R + 1) ∧ wsP r side (wkD r side a) f (R + 1) 0 0 := by
  refine ⟨fun x h0 h1 => ?_, fun x d y he h4 => by have := he.1; have := he.2.2.1; omega⟩
  obtain ⟨q1, q2, q3⟩ := hI x h0 h1
  refine ⟨fun h => ?_, fun h => Or.inr (q3 (by omega)), fun h => q3 (by omega)⟩
  by_cases hc : wkD r side a x ≤ R
  · exact q1 hc
  · have hq : wkD r side a x = R + 1 := by omega
    rcases q2 hq with e | e
    · rw [e, hq]
    · exfalso
      obtain ⟨z, d, h5, h6⟩ := wkD_3 hR (by omega) hq
      exact hP z d x h5 (Or.inl h5.2.1) h6 e
/-- there is a source n steps from x -/
def supN (r : Int → Int) (side x : Int) (n : Nat) : Prop := ∃ s, 0 ≤ s ∧ s < 63 ∧ srcB r side s = true ∧ wkP r side x n s
noncomputable def supF (r : Int → Int) (side x : Int) : Int := @dite Int (∃ k : Nat, k ≤ 6 ∧ supN r side x k) (Classical.propDecidable _) (fun h => ((Classical.choose (pk_least _ h) : Nat) : Int)) (fun _ => -5)
theorem supF_is {r : Int → Int} {side x : Int} {n : Nat} (hn : n ≤ 6) (h : supN r side x n) (hm : ∀ k, k < n → ¬ supN r side x k) : supF r side x = n := by
  have hex : ∃ k : Nat, k ≤ 6 ∧ supN r side x k := ⟨n, hn, h⟩
  unfold supF
  rw [dif_pos hex]
  obtain ⟨h1, h2⟩ := Classical.choose_spec (pk_least _ hex)
  have h3 : ¬ Classical.choose (pk_least _ hex) < n := fun q => hm _ q h1.2
  have h4 : ¬ n < Classical.choose (pk_least _ hex) := fun q => h2 n q ⟨hn, h⟩
  omega
theorem supF_no {r : Int → Int} {side x : Int} (hm : ∀ k, k ≤ 6 → ¬ supN r side x k) : supF r side x = -5 := by
  unfold supF
  rw [dif_neg (fun ⟨k, h1, h2⟩ => hm k h1 h2)]
theorem supF_R (r : Int → Int) (side x : Int) : supF r side x = -5 ∨ (0 ≤ supF r side x ∧ supF r side x ≤ 6) := by
  unfold supF
  split
  · next hex =>
    obtain ⟨h1, h2⟩ := Classical.choose_spec (pk_least _ hex)
    exact Or.inr ⟨by omega, by omega⟩
  · exact Or.inl rfl
theorem zR_5 : zR (-5) := ⟨by decide, by decide⟩
set_option maxHeartbeats 1000000 in
theorem c_X8_toSource (g : ZH) (hk : okB (g 101)) (hu : okU (g 101)) {u : Int} (hu0 : 0 ≤ u ∧ u < 16) : ZC 5 mX8_toSource [.inr 100, .inl u] g (fun r g' => r = supF (g 101) (ofF (g 101) u 0) (ofF (g 101) u 2) ∧ zFr [108, 109] g g') := by
  have hU := hu u hu0.1 hu0.2
  have hb2 := ofU_R hk hu0 (w := 2) (by omega)
  obtain ⟨side, hside⟩ : ∃ s, s = ofF (g 101) u 0 := ⟨_, rfl⟩
  obtain ⟨a, haE⟩ : ∃ s, s = ofF (g 101) u 2 := ⟨_, rfl⟩
  rw [← hside, ← haE]
  have hs : side = 0 ∨ side = 1 := by rw [hside]; exact hU.1
  have hb2 : zR a := by rw [haE]; exact hb2
  clear hU
  refine ZC.of (by decide +kernel) (Nat.le_of_ble_eq_true rfl) ?_
  -- over directions
  have loopD : ∀ (n : Nat) (d R x : Int) (g1 : ZH) (o6 : Option ZV), 0 ≤ d → d + n = 6 → 0 ≤ R → R < 7 → 0 ≤ x → x < 63 → zFr [108, 109] g g1 → (∀ x, 0 ≤ x → x < 63 → g1 109 x = zB (zoneB (g 101) x (1 - side))) → wsI (wkD (g 101) side a) (g1 108) R → wsP (g 101) side (wkD (g 101) side a) (g1 108) R x d → (∀ (g2 : ZH) (o5 o6 : Option ZV), zFr [108, 109] g g2 → (∀ x, 0 ≤ x → x < 63 → g2 109 x = zB (zoneB (g 101) x (1 - side))) → wsI (wkD (g 101) side a) (g2 108) R → wsP (g 101) side (wkD (g 101) side a) (g2 108) R (x + 1) 0 → ZW 5 mX8_toSource 184 [some (.inr 100), some (.inl u), some (.inl side), some (.inl R), some (.inl x), o5, o6] [] g2 (fun r g' => r = supF (g 101) side a ∧ zFr [108, 109] g g')) → ZW 5 mX8_toSource 111 [some (.inr 100), some (.inl u), some (.inl side), some (.inl R), some (.inl x), some (.inl d), o6] [] g1 (fun r g' => r = supF (g 101) side a ∧ zFr [108, 109] g g') := by
    intro n
    induction n with
    | zero =>
      intro d R x g1 o6 h0 hn hR hR2 hx hx2 hf hz hI hP k
      refine ZW.iload dX8_toSource_111 rfl ?_
      refine ZW.bipush dX8_toSource_113 rfl ?_
      refine ZW.icmp_ge (tgt := 184) dX8_toSource_115 (by decide) (by omega) (by omega) (fun c115 => ?_) (fun c115 => ?_)
      · refine k g1 _ _ hf hz hI (fun y e w he hor hy => hP y e w he ?_ hy)
        have h1 := he.2.2.2.1
        have h2 := he.2.2.1
        by_cases q : y = x
        · exact Or.inr ⟨q, by omega⟩
        · exact Or.inl (by omega)
      · exact absurd c115 (by omega)
    | succ n ih =>
      intro d R x g1 o6 h0 hn hR hR2 hx hx2 hf hz hI hP k
      have e1 : g1 101 = g 101 := hf 101 (by decide)
      have hIx := hI x hx hx2
      have hsx := wkD_R (g 101) side a x
      have hgx : zR (g1 108 x) ∧ (g1 108 x = R ↔ wkD (g 101) side a x = R) := by
        by_cases q : wkD (g 101) side a x ≤ R
        · rw [hIx.1 q]; omega
        · by_cases q2 : wkD (g 101) side a x = R + 1
          · rcases hIx.2.1 q2 with e | e <;> rw [e] <;> omega
          · rw [hIx.2.2 (by omega)]; omega
      have hgR := hgx.1
      have next : ∀ (g2 : ZH) (o6 : Option ZV), g2 = g1 → (∀ y, sEdge (g 101) side x d y → g1 108 y ≠ 1000) → ZW 5 mX8_toSource 111 [some (.inr 100), some (.inl u), some (.inl side), some (.inl R), some (.inl x), some (.inl (d + 1)), o6] [] g2 (fun r g' => r = supF (g 101) side a ∧ zFr [108, 109] g g') := by
        intro g2 o6 hg2 hne
        subst hg2
        refine ih (d + 1) R x _ _ (by omega) (by omega) hR hR2 hx hx2 hf hz hI (fun y e w he hor hy => ?_) k
        by_cases q : y = x ∧ e = d
        · rw [q.1, q.2] at he
          exact hne w he
        · exact hP y e w he (by omega) hy
      refine ZW.iload dX8_toSource_111 rfl ?_
      refine ZW.bipush dX8_toSource_113 rfl ?_
      refine ZW.icmp_ge (tgt := 184) dX8_toSource_115 (by decide) (by omega) (by omega) (fun c115 => ?_) (fun c115 => ?_)
      · exact absurd c115 (by omega)
      · refine ZW.aload_n dX8_toSource_118 rfl ?_
        refine ZW.getR dX8_toSource_119 fl_X8_32 ⟨_, rfl, rfl⟩ ?_
        refine ZW.iload dX8_toSource_122 rfl ?_
        refine ZW.iald dX8_toSource_124 rfl (by decide) (by omega) rfl ?_
        refine ZW.iload_n dX8_toSource_125 rfl ?_
        refine ZW.icmp_ne (tgt := 184) dX8_toSource_126 (by decide) (by omega) (by omega) (fun c126 => ?_) (fun c126 => ?_)
        · refine k g1 _ _ hf hz hI (fun y e w he hor hy => ?_)
          have h2 := he.2.2.1
          by_cases q : y = x
          · subst q
            exact absurd (hgx.2.mpr hy) c126
          · exact hP y e w he (Or.inl (by omega)) hy
        · have hdx := hgx.2.mp c126
          have hnr := nextF_R' x d
          refine ZW.iload dX8_toSource_129 rfl ?_
          refine ZW.iload dX8_toSource_131 rfl ?_
          refine ZW.callS (as := [_, _]) dX8_toSource_133 cs_X8_59 rfl (by decide) (Nat.le_of_ble_eq_true rfl) rfl (c_X8_next _ ⟨hx, hx2⟩ (by omega)) (fun r1 g2 ⟨w1, w2⟩ => ?_)
          subst w1; subst w2
          refine ZW.istore dX8_toSource_136 (by decide) rfl ?_
          refine ZW.iload dX8_toSource_138 rfl ?_
          refine ZW.bipush dX8_toSource_140 rfl ?_
          refine ZW.icmp_eq (tgt := 178) dX8_toSource_142 (by decide) (by omega) (by omega) (fun c142 => ?_) (fun c142 => ?_)
          · refine ZW.iinc dX8_toSource_178 rfl (by decide) rfl ?_
            refine ZW.goto (tgt := 111) dX8_toSource_181 (by decide) ?_
            exact next _ _ rfl (fun y he => absurd (he.2.2.2.2.1.symm.trans c142) he.2.2.2.2.2.1)
          · have hr := (nextF_R (x := x) (d := d)).resolve_left c142
            have hIo := hI (nextF x d) hr.1 hr.2
            have hwr := wkD_R (g 101) side a (nextF x d)
            have hgo : zR (g2 108 (nextF x d)) := by
              by_cases q : wkD (g 101) side a (nextF x d) ≤ R
              · rw [hIo.1 q]; omega
              · by_cases q2 : wkD (g 101) side a (nextF x d) = R + 1
                · rcases hIo.2.1 q2 with e | e <;> rw [e] <;> omega
                · rw [hIo.2.2 (by omega)]; omega
            refine ZW.aload_n dX8_toSource_145 rfl ?_
            refine ZW.getR dX8_toSource_146 fl_X8_32 ⟨_, rfl, rfl⟩ ?_
            refine ZW.iload dX8_toSource_149 rfl ?_
            refine ZW.iald dX8_toSource_151 rfl (by decide) (by omega) rfl ?_
            refine ZW.sipush dX8_toSource_152 rfl ?_
            refine ZW.icmp_ne (tgt := 178) dX8_toSource_155 (by decide) (by omega) (by omega) (fun c155 => ?_) (fun c155 => ?_)
            · refine ZW.iinc dX8_toSource_178 rfl (by decide) rfl ?_
              refine ZW.goto (tgt := 111) dX8_toSource_181 (by decide) ?_
              refine next _ _ rfl (fun y he => ?_)
              rw [← he.2.2.2.2.1]
              exact c155
            · refine ZW.aload_n dX8_toSource_158 rfl ?_
              refine ZW.iload dX8_toSource_159 rfl ?_
              refine ZW.iload_n dX8_toSource_161 rfl ?_
              refine ZW.callV (as := [_, _]) dX8_toSource_162 cv_X8_95 ⟨_, rfl⟩ rfl (by decide) (Nat.le_of_ble_eq_true rfl) rfl (c_X8_isFree _ (e1 ▸ hk) hr hs (by rw [e1]; exact hz _ hr.1 hr.2)) (fun r1 g3 ⟨w1, w2⟩ => ?_)
              subst w1; subst w2
              rw [e1]
              refine ZW.if_eq (tgt := 178) dX8_toSource_165 (by decide) (by exact zB_R _) (fun c165 => ?_) (fun c165 => ?_)
              · have e := zB_eq c165
                refine ZW.iinc dX8_toSource_178 rfl (by decide) rfl ?_
                refine ZW.goto (tgt := 111) dX8_toSource_181 (by decide) ?_
                refine next _ _ rfl (fun y he => ?_)
                have h7 := he.2.2.2.2.2.2
                rw [← he.2.2.2.2.1, e] at h7
                cases h7
              · have e := zB_ne c165
                have hed : sEdge (g 101) side x d (nextF x d) := ⟨hx, hx2, h0, by omega, rfl, c142, e⟩
                have h2 := wkD_2 (x := a) hed (by omega)
                have hq : wkD (g 101) side a (nextF x d) = R + 1 := by
                  by_cases q : wkD (g 101) side a (nextF x d) ≤ R
                  · have := hIo.1 q
                    omega
                  · omega
                refine ZW.aload_n dX8_toSource_168 rfl ?_
                refine ZW.getR dX8_toSource_169 fl_X8_32 ⟨_, rfl, rfl⟩ ?_
                refine ZW.iload dX8_toSource_172 rfl ?_
                refine ZW.iload_n dX8_toSource_174 rfl ?_
                refine ZW.iconst dX8_toSource_175 ?_
                refine ZW.iadd dX8_toSource_176 ?_
                refine ZW.iast dX8_toSource_177 rfl (by decide) (by omega) ?_
                refine ZW.iinc dX8_toSource_178 rfl (by decide) rfl ?_
                refine ZW.goto (tgt := 111) dX8_toSource_181 (by decide) ?_
                refine ih (d + 1) R x _ _ (by omega) (by omega) hR hR2 hx hx2 (hf.set (by decide) _ _) (fun y y0 y1 => ?_) (fun y y0 y1 => ?_) (fun y e w he hor hy => ?_) k
                · rw [zSet_ne _ _ _ (by decide)]; exact hz y y0 y1
                · rw [zSet_same]
                  by_cases q : y = nextF x d
                  · rw [q, zUp_same]
                    exact ⟨fun z => by omega, fun _ => Or.inl rfl, fun z => by omega⟩
                  · rw [zUp_ne _ _ q]
                    exact hI y y0 y1
                · rw [zSet_same]
                  by_cases q : w = nextF x d
                  · rw [q, zUp_same]
                    omega
                  · rw [zUp_ne _ _ q]
                    refine hP y e w he ?_ hy
                    by_cases q2 : y = x ∧ e = d
                    · have h5 := he.2.2.2.2.1
                      rw [q2.1, q2.2] at h5
                      exact absurd h5.symm q
                    · omega
  have loopX : ∀ (n : Nat) (x R : Int) (g1 : ZH) (o5 o6 : Option ZV), 0 ≤ x → x + n = 63 → 0 ≤ R → R < 7 → zFr [108, 109] g g1 → (∀ x, 0 ≤ x → x < 63 → g1 109 x = zB (zoneB (g 101) x (1 - side))) → wsI (wkD (g 101) side a) (g1 108) R → wsP (g 101) side (wkD (g 101) side a) (g1 108) R x 0 → (∀ (g2 : ZH) (o4 o5 o6 : Option ZV), zFr [108, 109] g g2 → (∀ x, 0 ≤ x → x < 63 → g2 109 x = zB (zoneB (g 101) x (1 - side))) → wsI (wkD (g 101) side a) (g2 108) (R + 1) → wsP (g 101) side (wkD (g 101) side a) (g2 108) (R + 1) 0 0 → ZW 5 mX8_toSource 190 [some (.inr 100), some (.inl u), some (.inl side), some (.inl R), o4, o5, o6] [] g2 (fun r g' => r = supF (g 101) side a ∧ zFr [108, 109] g g')) → ZW 5 mX8_toSource 101 [some (.inr 100), some (.inl u), some (.inl side), some (.inl R), some (.inl x), o5, o6] [] g1 (fun r g' => r = supF (g 101) side a ∧ zFr [108, 109] g g') := by
    intro n
    induction n with
    | zero =>
      intro x R g1 o5 o6 hx hn hR hR2 hf hz hI hP k
      refine ZW.iload dX8_toSource_101 rfl ?_
      refine ZW.bipush dX8_toSource_103 rfl ?_
      refine ZW.icmp_ge (tgt := 190) dX8_toSource_105 (by decide) (by omega) (by omega) (fun c105 => ?_) (fun c105 => ?_)
      · have e : x = 63 := by omega
        subst e
        have h1 := ws_round hR (by omega) hI hP
        exact k g1 _ _ _ hf hz h1.1 h1.2
      · exact absurd c105 (by omega)
    | succ n ih =>
      intro x R g1 o5 o6 hx hn hR hR2 hf hz hI hP k
      refine ZW.iload dX8_toSource_101 rfl ?_
      refine ZW.bipush dX8_toSource_103 rfl ?_
      refine ZW.icmp_ge (tgt := 190) dX8_toSource_105 (by decide) (by omega) (by omega) (fun c105 => ?_) (fun c105 => ?_)
      · exact absurd c105 (by omega)
      · refine ZW.iconst dX8_toSource_108 ?_
        refine ZW.istore dX8_toSource_109 (by decide) rfl ?_
        refine loopD 6 0 R x g1 _ (by omega) (by omega) hR hR2 hx (by omega) hf hz hI hP (fun g2 p5 p6 hf2 hz2 hI2 hP2 => ?_)
        refine ZW.iinc dX8_toSource_184 rfl (by decide) rfl ?_
        refine ZW.goto (tgt := 101) dX8_toSource_187 (by decide) ?_
        exact ih (x + 1) R g2 _ _ (by omega) (by omega) hR hR2 hf2 hz2 hI2 hP2 k
  -- the look for a source in the round R
  have loopS : ∀ (n : Nat) (x R : Int) (g1 : ZH) (o5 o6 : Option ZV), 0 ≤ x → x + n = 63 → 0 ≤ R → R < 7 → zFr [108, 109] g g1 → wsI (wkD (g 101) side a) (g1 108) R → (∀ s, 0 ≤ s → s < 63 → srcB (g 101) side s = true → R ≤ wkD (g 101) side a s) → (∀ s, 0 ≤ s → s < x → srcB (g 101) side s = true → wkD (g 101) side a s ≠ R) → ((∀ s, 0 ≤ s → s < 63 → srcB (g 101) side s = true → R + 1 ≤ wkD (g 101) side a s) → ∀ o4 : Option ZV, ZW 5 mX8_toSource 98 [some (.inr 100), some (.inl u), some (.inl side), some (.inl R), o4, o5, o6] [] g1 (fun r g' => r = supF (g 101) side a ∧ zFr [108, 109] g g')) → ZW 5 mX8_toSource 62 [some (.inr 100), some (.inl u), some (.inl side), some (.inl R), some (.inl x), o5, o6] [] g1 (fun r g' => r = supF (g 101) side a ∧ zFr [108, 109] g g') := by
    intro n
    induction n with
    | zero =>
      intro x R g1 o5 o6 hx hn hR hR2 hf hI hS hN k
      refine ZW.iload dX8_toSource_62 rfl ?_
      refine ZW.bipush dX8_toSource_64 rfl ?_
      refine ZW.icmp_ge (tgt := 98) dX8_toSource_66 (by decide) (by omega) (by omega) (fun c66 => ?_) (fun c66 => ?_)
      · refine k (fun s s0 s1 hs1 => ?_) _
        have := hS s s0 s1 hs1
        have := hN s s0 (by omega) hs1
        omega
      · exact absurd c66 (by omega)
    | succ n ih =>
      intro x R g1 o5 o6 hx hn hR hR2 hf hI hS hN k
      have e1 : g1 101 = g 101 := hf 101 (by decide)
      have hIx := hI x hx (by omega)
      have hsx := wkD_R (g 101) side a x
      have hgx : zR (g1 108 x) ∧ (g1 108 x = R ↔ wkD (g 101) side a x = R) := by
        by_cases q : wkD (g 101) side a x ≤ R
        · rw [hIx.1 q]; omega
        · by_cases q2 : wkD (g 101) side a x = R + 1
          · rcases hIx.2.1 q2 with e | e <;> rw [e] <;> omega
          · rw [hIx.2.2 (by omega)]; omega
      have hgR := hgx.1
      refine ZW.iload dX8_toSource_62 rfl ?_
      refine ZW.bipush dX8_toSource_64 rfl ?_
      refine ZW.icmp_ge (tgt := 98) dX8_toSource_66 (by decide) (by omega) (by omega) (fun c66 => ?_) (fun c66 => ?_)
      · exact absurd c66 (by omega)
      · refine ZW.aload_n dX8_toSource_69 rfl ?_
        refine ZW.getR dX8_toSource_70 fl_X8_32 ⟨_, rfl, rfl⟩ ?_
        refine ZW.iload dX8_toSource_73 rfl ?_
        refine ZW.iald dX8_toSource_75 rfl (by decide) (by omega) rfl ?_
        refine ZW.iload_n dX8_toSource_76 rfl ?_
        refine ZW.icmp_ne (tgt := 92) dX8_toSource_77 (by decide) (by omega) (by omega) (fun c77 => ?_) (fun c77 => ?_)
        · refine ZW.iinc dX8_toSource_92 rfl (by decide) rfl ?_
          refine ZW.goto (tgt := 62) dX8_toSource_95 (by decide) ?_
          refine ih (x + 1) R g1 _ _ (by omega) (by omega) hR hR2 hf hI hS (fun s s0 s1 hs1 => ?_) k
          by_cases q : s = x
          · rw [q]; exact fun z => c77 (hgx.2.mpr z)
          · exact hN s s0 (by omega) hs1
        · refine ZW.aload_n dX8_toSource_80 rfl ?_
          refine ZW.iload dX8_toSource_81 rfl ?_
          refine ZW.iload_n dX8_toSource_83 rfl ?_
          refine ZW.callV (as := [_, _]) dX8_toSource_84 cv_X8_92 ⟨_, rfl⟩ rfl (by decide) (Nat.le_of_ble_eq_true rfl) rfl (c_X8_isSource _ (e1 ▸ hk) (by omega) hs) (fun r1 g2 ⟨w1, w2⟩ => ?_)
          subst w1; subst w2
          rw [e1]
          refine ZW.if_eq (tgt := 92) dX8_toSource_87 (by decide) (by exact zB_R _) (fun c87 => ?_) (fun c87 => ?_)
          · have e := zB_eq c87
            refine ZW.iinc dX8_toSource_92 rfl (by decide) rfl ?_
            refine ZW.goto (tgt := 62) dX8_toSource_95 (by decide) ?_
            refine ih (x + 1) R _ _ _ (by omega) (by omega) hR hR2 hf hI hS (fun s s0 s1 hs1 => ?_) k
            by_cases q : s = x
            · rw [q, e] at hs1; cases hs1
            · exact hN s s0 (by omega) hs1
          · have e := zB_ne c87
            have hd := hgx.2.mp c77
            refine ZW.iload_n dX8_toSource_90 rfl ?_
            refine ZW.ireti dX8_toSource_91 rfl ?_
            refine ⟨?_, hf⟩
            obtain ⟨m, h1, h2, h3⟩ := wkD_spec (r := g 101) (side := side) (x := a) (y := x) (by omega)
            rw [supF_is (n := m) (by omega) ⟨x, hx, by omega, e, h3⟩ (fun k hk2 ⟨s, s0, s1, s2, s3⟩ => ?_)]
            · omega
            · have h4 := wkD_le s3 (by omega)
              have h5 := hS s s0 s1 s2
              omega
  have loopR : ∀ (n : Nat) (R : Int) (g1 : ZH) (o4 o5 o6 : Option ZV), 0 ≤ R → R + n = 7 → zFr [108, 109] g g1 → (∀ x, 0 ≤ x → x < 63 → g1 109 x = zB (zoneB (g 101) x (1 - side))) → wsI (wkD (g 101) side a) (g1 108) R → wsP (g 101) side (wkD (g 101) side a) (g1 108) R 0 0 → (∀ s, 0 ≤ s → s < 63 → srcB (g 101) side s = true → R ≤ wkD (g 101) side a s) → ZW 5 mX8_toSource 53 [some (.inr 100), some (.inl u), some (.inl side), some (.inl R), o4, o5, o6] [] g1 (fun r g' => r = supF (g 101) side a ∧ zFr [108, 109] g g') := by
    intro n
    induction n with
    | zero =>
      intro R g1 o4 o5 o6 hR hn hf hz hI hP hS
      refine ZW.iload_n dX8_toSource_53 rfl ?_
      refine ZW.bipush dX8_toSource_54 rfl ?_
      refine ZW.icmp_ge (tgt := 196) dX8_toSource_56 (by decide) (by omega) (by omega) (fun c56 => ?_) (fun c56 => ?_)
      · refine ZW.bipush dX8_toSource_196 rfl ?_
        refine ZW.ireti dX8_toSource_198 rfl ?_
        refine ⟨(supF_no (fun k hk2 ⟨s, s0, s1, s2, s3⟩ => ?_)).symm, hf⟩
        have h4 := wkD_le s3 (by omega)
        have h5 := hS s s0 s1 s2
        omega
      · exact absurd c56 (by omega)
    | succ n ih =>
      intro R g1 o4 o5 o6 hR hn hf hz hI hP hS
      refine ZW.iload_n dX8_toSource_53 rfl ?_
      refine ZW.bipush dX8_toSource_54 rfl ?_
      refine ZW.icmp_ge (tgt := 196) dX8_toSource_56 (by decide) (by omega) (by omega) (fun c56 => ?_) (fun c56 => ?_)
      · exact absurd c56 (by omega)
      · refine ZW.iconst dX8_toSource_59 ?_
        refine ZW.istore dX8_toSource_60 (by decide) rfl ?_
        refine loopS 63 0 R g1 _ _ (by omega) (by omega) hR (by omega) hf hI hS (fun s s0 s1 => by omega) (fun hS2 p4 => ?_)
        refine ZW.iconst dX8_toSource_98 ?_
        refine ZW.istore dX8_toSource_99 (by decide) rfl ?_
        refine loopX 63 0 R g1 _ _ (by omega) (by omega) hR (by omega) hf hz hI hP (fun g2 p4 p5 p6 hf2 hz2 hI2 hP2 => ?_)
        refine ZW.iinc dX8_toSource_190 rfl (by decide) rfl ?_
        refine ZW.goto (tgt := 53) dX8_toSource_193 (by decide) ?_
        exact ih (R + 1) g2 _ _ _ (by omega) (by omega) hf2 hz2 hI2 hP2 hS2
  have fill : ∀ (n : Nat) (x : Int) (g1 : ZH) (o4 o5 o6 : Option ZV), 0 ≤ x → x + n = 63 → zFr [108, 109] g g1 → (∀ x, 0 ≤ x → x < 63 → g1 109 x = zB (zoneB (g 101) x (1 - side))) → (∀ y, 0 ≤ y → y < x → g1 108 y = if y = a then 0 else 1000) → ZW 5 mX8_toSource 16 [some (.inr 100), some (.inl u), some (.inl side), some (.inl x), o4, o5, o6] [] g1 (fun r g' => r = supF (g 101) side a ∧ zFr [108, 109] g g') := by
    intro n
    induction n with
    | zero =>
      intro x g1 o4 o5 o6 hx hn hf hz hy
      refine ZW.iload_n dX8_toSource_16 rfl ?_
      refine ZW.bipush dX8_toSource_17 rfl ?_
      refine ZW.icmp_ge (tgt := 51) dX8_toSource_19 (by decide) (by omega) (by omega) (fun c19 => ?_) (fun c19 => ?_)
      · refine ZW.iconst dX8_toSource_51 ?_
        refine ZW.istore_n dX8_toSource_52 (by decide) rfl ?_
        refine loopR 7 0 g1 _ _ _ (by omega) (by omega) hf hz (fun y y0 y1 => ?_) (fun y e w he hor => by have := he.1; have := he.2.2.1; omega) (fun s s0 s1 s2 => (wkD_R _ _ _ _).1)
        rw [hy y y0 (by omega)]
        have h1 := wkD_0 (r := g 101) (side := side) (x := a) (y := y)
        have h2 := wkD_R (g 101) side a y
        by_cases q : y = a
        · rw [if_pos q]
          have := h1.mpr q
          omega
        · rw [if_neg q]
          have : wkD (g 101) side a y ≠ 0 := fun z => q (h1.mp z)
          omega
      · exact absurd c19 (by omega)
    | succ n ih =>
      intro x g1 o4 o5 o6 hx hn hf hz hy
      have e1 : g1 101 = g 101 := hf 101 (by decide)
      refine ZW.iload_n dX8_toSource_16 rfl ?_
      refine ZW.bipush dX8_toSource_17 rfl ?_
      refine ZW.icmp_ge (tgt := 51) dX8_toSource_19 (by decide) (by omega) (by omega) (fun c19 => ?_) (fun c19 => ?_)
      · exact absurd c19 (by omega)
      · refine ZW.aload_n dX8_toSource_22 rfl ?_
        refine ZW.getR dX8_toSource_23 fl_X8_32 ⟨_, rfl, rfl⟩ ?_
        refine ZW.iload_n dX8_toSource_26 rfl ?_
        refine ZW.iload_n dX8_toSource_27 rfl ?_
        refine ZW.aload_n dX8_toSource_28 rfl ?_
        refine ZW.iload_n dX8_toSource_29 rfl ?_
        refine ZW.iconst dX8_toSource_30 ?_
        refine ZW.callV (as := [_, _]) dX8_toSource_31 cv_X8_52 ⟨_, rfl⟩ rfl (by decide) (Nat.le_of_ble_eq_true rfl) rfl (c_X8_of _ hu0 (by omega)) (fun r1 g2 ⟨w1, w2⟩ => ?_)
        subst w1; subst w2
        rw [e1, ← haE]
        refine ZW.icmp_ne (tgt := 41) dX8_toSource_34 (by decide) (by omega) (by omega) (fun c34 => ?_) (fun c34 => ?_)
        · refine ZW.sipush dX8_toSource_41 rfl ?_
          refine ZW.iast dX8_toSource_44 rfl (by decide) (by omega) ?_
          refine ZW.iinc dX8_toSource_45 rfl (by decide) rfl ?_
          refine ZW.goto (tgt := 16) dX8_toSource_48 (by decide) ?_
          refine ih (x + 1) _ _ _ _ (by omega) (by omega) (hf.set (by decide) _ _) (fun y y0 y1 => by rw [zSet_ne _ _ _ (by decide)]; exact hz y y0 y1) (fun y y0 y1 => ?_)
          rw [zSet_same]
          by_cases q : y = x
          · rw [q, zUp_same, if_neg c34]
          · rw [zUp_ne _ _ q]; exact hy y y0 (by omega)
        · refine ZW.iconst dX8_toSource_37 ?_
          refine ZW.goto (tgt := 44) dX8_toSource_38 (by decide) ?_
          refine ZW.iast dX8_toSource_44 rfl (by decide) (by omega) ?_
          refine ZW.iinc dX8_toSource_45 rfl (by decide) rfl ?_
          refine ZW.goto (tgt := 16) dX8_toSource_48 (by decide) ?_
          refine ih (x + 1) _ _ _ _ (by omega) (by omega) (hf.set (by decide) _ _) (fun y y0 y1 => by rw [zSet_ne _ _ _ (by decide)]; exact hz y y0 y1) (fun y y0 y1 => ?_)
          rw [zSet_same]
          by_cases q : y = x
          · rw [q, zUp_same, if_pos c34]
          · rw [zUp_ne _ _ q]; exact hy y y0 (by omega)
  refine ZW.aload_n dX8_toSource_0 rfl ?_
  refine ZW.iload_n dX8_toSource_1 rfl ?_
  refine ZW.iconst dX8_toSource_2 ?_
  refine ZW.callV (as := [_, _]) dX8_toSource_3 cv_X8_52 ⟨_, rfl⟩ rfl (by decide) (Nat.le_of_ble_eq_true rfl) rfl (c_X8_of _ hu0 (by omega)) (fun r1 g1 ⟨w1, w2⟩ => ?_)
  subst w1; subst w2
  rw [← hside]
  refine ZW.istore_n dX8_toSource_6 (by decide) rfl ?_
  refine ZW.aload_n dX8_toSource_7 rfl ?_
  refine ZW.iconst dX8_toSource_8 ?_
  refine ZW.iload_n dX8_toSource_9 rfl ?_
  refine ZW.isub dX8_toSource_10 ?_
  refine ZW.callVv (as := [_]) dX8_toSource_11 cv_X8_80 ⟨_, rfl⟩ rfl (by decide) (Nat.le_of_ble_eq_true rfl) rfl (fun _ _ hz _ => hz) (c_X8_laysZone _ hk (by omega)) (fun g1 ⟨q1, q2⟩ => ?_)
  refine ZW.iconst dX8_toSource_14 ?_
  refine ZW.istore_n dX8_toSource_15 (by decide) rfl ?_
  exact fill 63 0 g1 _ _ _ (by omega) (by omega) (q1.up (by decide)) q2 (fun y y0 y1 => by omega)
noncomputable def supB (r : Int → Int) (u : Int) : Bool := decide (supF r (ofF r u 0) (ofF r u 2) ≠ -5)
theorem c_X8_isSupplied (g : ZH) (hk : okB (g 101)) (hu : okU (g 101)) {u : Int} (hu0 : 0 ≤ u ∧ u < 16) : ZC 6 mX8_isSupplied [.inr 100, .inl u] g (fun r g' => r = zB (supB (g 101) u) ∧ zFr [108, 109] g g') := by
  refine ZC.of (by decide +kernel) (Nat.le_of_ble_eq_true rfl) ?_
  refine ZW.aload_n dX8_isSupplied_0 rfl ?_
  refine ZW.iload_n dX8_isSupplied_1 rfl ?_
  refine ZW.callV (as := [_]) dX8_isSupplied_2 cv_X8_98 ⟨_, rfl⟩ rfl (by decide) (Nat.le_of_ble_eq_true rfl) rfl (c_X8_toSource _ hk hu hu0) (fun r1 g1 ⟨w1, w2⟩ => ?_)
  subst w1
  have q := supF_R (g 101) (ofF (g 101) u 0) (ofF (g 101) u 2)
  refine ZW.bipush dX8_isSupplied_5 rfl ?_
  refine ZW.icmp_eq (tgt := 14) dX8_isSupplied_7 (by decide) (by omega) (by omega) (fun c7 => ?_) (fun c7 => ?_)
  · refine ZW.iconst dX8_isSupplied_14 ?_
    refine ZW.iretz dX8_isSupplied_15 rfl (by first | exact Or.inl rfl | exact Or.inr rfl | assumption | omega) ?_
    exact ⟨by simp [supB, zB, c7], w2⟩
  · refine ZW.iconst dX8_isSupplied_10 ?_
    refine ZW.goto (tgt := 15) dX8_isSupplied_11 (by decide) ?_
    refine ZW.iretz dX8_isSupplied_15 rfl (by first | exact Or.inl rfl | exact Or.inr rfl | assumption | omega) ?_
    exact ⟨by simp [supB, zB, c7], w2⟩
end
section
-- the reference: sight, fights, the end of a turn
theorem zSet_up (g : ZH) (k : Nat) (f : Int → Int) (i v : Int) : zSet (zRow g k f) k i v = zRow g k (zUp f i v) := by
  rw [zSet_row, zRow_same, zRow_row]
theorem zFr.rowc {ks : List Nat} {g g1 : ZH} (h : zFr ks g g1) (k : Nat) (f : Int → Int) : zFr ks (zRow g k f) (zRow g1 k f) := by
  intro j hj
  by_cases q : j = k
  · rw [q, zRow_same, zRow_same]
  · rw [zRow_ne _ _ q, zRow_ne _ _ q]; exact h j hj
def layF (r : Int → Int) (u w v : Int) : Int → Int := zUp r (193 + 6 * u + w) v
def standsF (r : Int → Int) (u x : Int) : Int → Int := zUp (layF r u 2 x) (126 + x) (if r (126 + x) = 0 then 0 else ofF r u 0 + 1)
theorem layF_fort {r : Int → Int} {u w v x : Int} (hu : 0 ≤ u) (hw : 0 ≤ w) (hx : x < 63) : layF r u w v (126 + x) = r (126 + x) := zUp_ne _ _ (by omega)
theorem layF_same {r : Int → Int} {u w v : Int} : ofF (layF r u w v) u w = v := zUp_same _ _ _
theorem layF_ne {r : Int → Int} {u w v u2 w2 : Int} (hw : 0 ≤ w ∧ w < 6) (hw2 : 0 ≤ w2 ∧ w2 < 6) (h : u2 ≠ u ∨ w2 ≠ w) : ofF (layF r u w v) u2 w2 = ofF r u2 w2 := zUp_ne _ _ (by omega)
theorem c_X8_layR (g : ZH) {u w v : Int} (hu : 0 ≤ u ∧ u < 16) (hw : 0 ≤ w ∧ w < 6) : ZC 0 mX8_lay [.inr 100, .inl u, .inl w, .inl v] g (fun _ g' => g' = zRow g 101 (layF (g 101) u w v)) := c_X8_lay g hu hw
theorem c_X8_stands (g : ZH) (hk : okB (g 101)) {u x : Int} (hu : 0 ≤ u ∧ u < 16) (hx : 0 ≤ x ∧ x < 63) : ZC 1 mX8_stands [.inr 100, .inl u, .inl x] g (fun _ g' => g' = zRow g 101 (standsF (g 101) u x)) := by
  have h1 := hk.1 (126 + x) (by omega) (by omega)
  refine ZC.of (by decide +kernel) (Nat.le_of_ble_eq_true rfl) ?_
  refine ZW.aload_n dX8_stands_0 rfl ?_
  refine ZW.iload_n dX8_stands_1 rfl ?_
  refine ZW.iconst dX8_stands_2 ?_
  refine ZW.iload_n dX8_stands_3 rfl ?_
  refine ZW.callVv (as := [_, _, _]) dX8_stands_4 cv_X8_73 ⟨_, rfl⟩ rfl (by decide) (Nat.le_of_ble_eq_true rfl) rfl (fun _ _ hz _ => hz) (c_X8_layR _ hu (by omega)) (fun g1 q1 => ?_)
  subst q1
  have e1 := layF_fort (r := g 101) (u := u) (w := 2) (v := x) (x := x) hu.1 (by decide) hx.2
  refine ZW.aload_n dX8_stands_7 rfl ?_
  refine ZW.getR dX8_stands_8 fl_X8_7 ⟨_, rfl, rfl⟩ ?_
  refine ZW.bipush dX8_stands_11 rfl ?_
  refine ZW.iload_n dX8_stands_13 rfl ?_
  refine ZW.iadd dX8_stands_14 ?_
  refine ZW.aload_n dX8_stands_15 rfl ?_
  refine ZW.getR dX8_stands_16 fl_X8_7 ⟨_, rfl, rfl⟩ ?_
  refine ZW.bipush dX8_stands_19 rfl ?_
  refine ZW.iload_n dX8_stands_21 rfl ?_
  refine ZW.iadd dX8_stands_22 ?_
  refine ZW.iald dX8_stands_23 rfl (by decide) (by omega) rfl ?_
  refine ZW.if_ne (tgt := 31) dX8_stands_24 (by decide) (by rw [zRow_same, e1]; omega) (fun c24 => ?_) (fun c24 => ?_)
  · rw [zRow_same, e1] at c24
    refine ZW.aload_n dX8_stands_31 rfl ?_
    refine ZW.iload_n dX8_stands_32 rfl ?_
    refine ZW.iconst dX8_stands_33 ?_
    refine ZW.callV (as := [_, _]) dX8_stands_34 cv_X8_52 ⟨_, rfl⟩ rfl (by decide) (Nat.le_of_ble_eq_true rfl) rfl (c_X8_of _ hu (by omega)) (fun r1 g2 ⟨q1, q2⟩ => ?_)
    subst q1; subst q2
    refine ZW.iconst dX8_stands_37 ?_
    refine ZW.iadd dX8_stands_38 ?_
    refine ZW.iast dX8_stands_39 rfl (by decide) (by omega) ?_
    refine ZW.vret dX8_stands_40 rfl ?_
    rw [zRow_same, zSet_up, layF_ne (by decide) (by decide) (Or.inr (by decide))]
    unfold standsF
    rw [if_neg c24]
  · rw [zRow_same, e1] at c24
    refine ZW.iconst dX8_stands_27 ?_
    refine ZW.goto (tgt := 39) dX8_stands_28 (by decide) ?_
    refine ZW.iast dX8_stands_39 rfl (by decide) (by omega) ?_
    refine ZW.vret dX8_stands_40 rfl ?_
    rw [zSet_up]
    unfold standsF
    rw [if_pos c24]
theorem c_X8_isAtTurn (g : ZH) (hk : okB (g 101)) {u : Int} (hu : 0 ≤ u ∧ u < 16) : ZC 1 mX8_isAtTurn [.inr 100, .inl u] g (fun r g' => r = zB (decide (ofF (g 101) u 0 = g 101 191 % 2)) ∧ g' = g) := by
  have h1 := hk.1 191 (by omega) (by omega)
  refine ZC.of (by decide +kernel) (Nat.le_of_ble_eq_true rfl) ?_
  refine ZW.aload_n dX8_isAtTurn_0 rfl ?_
  refine ZW.iload_n dX8_isAtTurn_1 rfl ?_
  refine ZW.iconst dX8_isAtTurn_2 ?_
  refine ZW.callV (as := [_, _]) dX8_isAtTurn_3 cv_X8_52 ⟨_, rfl⟩ rfl (by decide) (Nat.le_of_ble_eq_true rfl) rfl (c_X8_of _ hu (by omega)) (fun r1 g2 ⟨q1, q2⟩ => ?_)
  subst q1; subst q2
  have h2 := ofU_R hk hu (w := 0) (by omega)
  refine ZW.aload_n dX8_isAtTurn_6 rfl ?_
  refine ZW.getR dX8_isAtTurn_7 fl_X8_7 ⟨_, rfl, rfl⟩ ?_
  refine ZW.sipush dX8_isAtTurn_10 rfl ?_
  refine ZW.iald dX8_isAtTurn_13 rfl (by decide) (by omega) rfl ?_
  refine ZW.iconst dX8_isAtTurn_14 ?_
  refine ZW.irem dX8_isAtTurn_15 (by omega) ?_
  refine ZW.icmp_ne (tgt := 23) dX8_isAtTurn_16 (by decide) (by omega) (by omega) (fun c16 => ?_) (fun c16 => ?_)
  · refine ZW.iconst dX8_isAtTurn_23 ?_
    refine ZW.iretz dX8_isAtTurn_24 rfl (by first | exact Or.inl rfl | exact Or.inr rfl | assumption | omega) ?_
    exact ⟨by simp [zB, c16], rfl⟩
  · refine ZW.iconst dX8_isAtTurn_19 ?_
    refine ZW.goto (tgt := 24) dX8_isAtTurn_20 (by decide) ?_
    refine ZW.iretz dX8_isAtTurn_24 rfl (by first | exact Or.inl rfl | exact Or.inr rfl | assumption | omega) ?_
    exact ⟨by simp [zB, c16], rfl⟩
theorem c_X8_canReach (g : ZH) (hk : okB (g 101)) {u x : Int} (hu : 0 ≤ u ∧ u < 16) (hx : 0 ≤ x ∧ x < 63) (hc : zR (g 106 x)) : ZC 2 mX8_canReach [.inr 100, .inl u, .inl x] g (fun r g' => r = zB (decide (g 106 x ≤ ofF (g 101) u 3 ∧ unitOnF (g 101) x = -5)) ∧ g' = g) := by
  refine ZC.of (by decide +kernel) (Nat.le_of_ble_eq_true rfl) ?_
  refine ZW.aload_n dX8_canReach_0 rfl ?_
  refine ZW.getR dX8_canReach_1 fl_X8_25 ⟨_, rfl, rfl⟩ ?_
  refine ZW.iload_n dX8_canReach_4 rfl ?_
  refine ZW.iald dX8_canReach_5 rfl (by decide) (by omega) rfl ?_
  refine ZW.aload_n dX8_canReach_6 rfl ?_
  refine ZW.iload_n dX8_canReach_7 rfl ?_
  refine ZW.iconst dX8_canReach_8 ?_
  refine ZW.callV (as := [_, _]) dX8_canReach_9 cv_X8_52 ⟨_, rfl⟩ rfl (by decide) (Nat.le_of_ble_eq_true rfl) rfl (c_X8_of _ hu (by omega)) (fun r1 g2 ⟨q1, q2⟩ => ?_)
  subst q1; subst q2
  have h2 := ofU_R hk hu (w := 3) (by omega)
  refine ZW.icmp_gt (tgt := 29) dX8_canReach_12 (by decide) (by omega) (by omega) (fun c12 => ?_) (fun c12 => ?_)
  · refine ZW.iconst dX8_canReach_29 ?_
    refine ZW.iretz dX8_canReach_30 rfl (by first | exact Or.inl rfl | exact Or.inr rfl | assumption | omega) ?_
    exact ⟨by simp [zB]; omega, rfl⟩
  · refine ZW.aload_n dX8_canReach_15 rfl ?_
    refine ZW.iload_n dX8_canReach_16 rfl ?_
    refine ZW.callV (as := [_]) dX8_canReach_17 cv_X8_62 ⟨_, rfl⟩ rfl (by decide) (Nat.le_of_ble_eq_true rfl) rfl (c_X8_unitOn _ hk (by omega)) (fun r1 g3 ⟨q1, q2⟩ => ?_)
    subst q1; subst q2
    have h3 := unitOnF_R hk x
    refine ZW.bipush dX8_canReach_20 rfl ?_
    refine ZW.icmp_ne (tgt := 29) dX8_canReach_22 (by decide) (by omega) (by omega) (fun c22 => ?_) (fun c22 => ?_)
    · refine ZW.iconst dX8_canReach_29 ?_
      refine ZW.iretz dX8_canReach_30 rfl (by first | exact Or.inl rfl | exact Or.inr rfl | assumption | omega) ?_
      exact ⟨by simp [zB, c22], rfl⟩
    · refine ZW.iconst dX8_canReach_25 ?_
      refine ZW.goto (tgt := 30) dX8_canReach_26 (by decide) ?_
      refine ZW.iretz dX8_canReach_30 rfl (by first | exact Or.inl rfl | exact Or.inr rfl | assumption | omega) ?_
      exact ⟨by simp [zB, c22, c12], rfl⟩
def farF (r : Int → Int) (x : Int) : Int := if r x = 1 then 1 else 2
def seesU (r : Int → Int) (side x u : Int) : Bool := decide (0 < ofF r u 1 ∧ ofF r u 0 = side ∧ stepsF x (ofF r u 2) ≤ farF r x)
def seesT (r : Int → Int) (side x o : Int) : Bool := decide (r (126 + o) = side + 1 ∧ stepsF x o ≤ 1)
def seesF (r : Int → Int) (side x : Int) : Bool := anyF (seesU r side x) (r 192).toNat 0 || anyF (seesT r side x) 63 0
set_option maxHeartbeats 1000000 in
theorem c_X8_sees (g : ZH) (hk : okB (g 101)) (hu : okU (g 101)) {side x : Int} (hs : 0 ≤ side ∧ side < 2) (hx : 0 ≤ x ∧ x < 63) : ZC 3 mX8_sees [.inr 100, .inl side, .inl x] g (fun r g' => r = zB (seesF (g 101) side x) ∧ zFr [108] g g') := by
  have h192 := hk.1 192 (by decide) (by decide)
  have h16 := hk.2
  refine ZC.of (by decide +kernel) (Nat.le_of_ble_eq_true rfl) ?_
  refine ZW.aload_n dX8_sees_0 rfl ?_
  refine ZW.iload_n dX8_sees_1 rfl ?_
  refine ZW.callVv (as := [_]) dX8_sees_2 cv_X8_101 ⟨_, rfl⟩ rfl (by decide) (Nat.le_of_ble_eq_true rfl) rfl (fun _ _ hz _ => hz) (c_X8_laysDistances _ hx) (fun g1 ⟨hf, hd⟩ => ?_)
  have e1 : g1 101 = g 101 := hf 101 (by decide)
  have loop2 : ∀ (n : Nat) (o : Int) (b : Bool) (far : Int), 0 ≤ o → o + n = 63 → ZW 3 mX8_sees 100 [some (.inr 100), some (.inl side), some (.inl x), some (.inl far), some (.inl (zB b)), some (.inl o)] [] g1 (fun r g' => r = zB (b || anyF (seesT (g 101) side x) n o) ∧ zFr [108] g g') := by
    intro n
    induction n with
    | zero =>
      intro o b far h0 hn
      refine ZW.iload dX8_sees_100 rfl ?_
      refine ZW.bipush dX8_sees_102 rfl ?_
      refine ZW.icmp_ge (tgt := 152) dX8_sees_104 (by decide) (by omega) (by omega) (fun c104 => ?_) (fun c104 => ?_)
      · refine ZW.iload dX8_sees_152 rfl ?_
        refine ZW.iretz dX8_sees_154 rfl (by exact zB_1 _) ?_
        exact ⟨by simp [anyF], hf⟩
      · exact absurd c104 (by omega)
    | succ n ih =>
      intro o b far h0 hn
      have hfo := hk.1 (126 + o) (by omega) (by omega)
      rw [← e1] at hfo
      have hdo := hd o h0 (by omega)
      have hso := stepsF_0 hx (x := o) ⟨h0, by omega⟩
      have fin : ∀ b2 : Bool, b2 = (b || seesT (g 101) side x o) → ZW 3 mX8_sees 100 [some (.inr 100), some (.inl side), some (.inl x), some (.inl far), some (.inl (zB b2)), some (.inl (o + 1))] [] g1 (fun r g' => r = zB (b || anyF (seesT (g 101) side x) (n + 1) o) ∧ zFr [108] g g') := by
        intro b2 hb2
        refine ZW.mono (ih (o + 1) b2 far (by omega) (by omega)) (fun r g' hh => ⟨?_, hh.2⟩)
        rw [hh.1, hb2, Bool.or_assoc]
        rfl
      refine ZW.iload dX8_sees_100 rfl ?_
      refine ZW.bipush dX8_sees_102 rfl ?_
      refine ZW.icmp_ge (tgt := 152) dX8_sees_104 (by decide) (by omega) (by omega) (fun c104 => ?_) (fun c104 => ?_)
      · exact absurd c104 (by omega)
      · refine ZW.iload dX8_sees_107 rfl ?_
        refine ZW.if_ne (tgt := 139) dX8_sees_109 (by decide) (by exact zB_R _) (fun c109 => ?_) (fun c109 => ?_)
        · have e := zB_ne c109
          refine ZW.iconst dX8_sees_139 ?_
          refine ZW.goto (tgt := 144) dX8_sees_140 (by decide) ?_
          refine ZW.istore dX8_sees_144 (by decide) rfl ?_
          refine ZW.iinc dX8_sees_146 rfl (by decide) rfl ?_
          refine ZW.goto (tgt := 100) dX8_sees_149 (by decide) ?_
          exact fin true (by rw [e]; rfl)
        · have e := zB_eq c109
          refine ZW.aload_n dX8_sees_112 rfl ?_
          refine ZW.getR dX8_sees_113 fl_X8_7 ⟨_, rfl, rfl⟩ ?_
          refine ZW.bipush dX8_sees_116 rfl ?_
          refine ZW.iload dX8_sees_118 rfl ?_
          refine ZW.iadd dX8_sees_120 ?_
          refine ZW.iald dX8_sees_121 rfl (by decide) (by omega) rfl ?_
          refine ZW.iload_n dX8_sees_122 rfl ?_
          refine ZW.iconst dX8_sees_123 ?_
          refine ZW.iadd dX8_sees_124 ?_
          refine ZW.icmp_ne (tgt := 143) dX8_sees_125 (by decide) (by omega) (by omega) (fun c125 => ?_) (fun c125 => ?_)
          · rw [e1] at c125
            refine ZW.iconst dX8_sees_143 ?_
            refine ZW.istore dX8_sees_144 (by decide) rfl ?_
            refine ZW.iinc dX8_sees_146 rfl (by decide) rfl ?_
            refine ZW.goto (tgt := 100) dX8_sees_149 (by decide) ?_
            exact fin false (by rw [e]; simp [seesT, c125])
          · rw [e1] at c125
            refine ZW.aload_n dX8_sees_128 rfl ?_
            refine ZW.getR dX8_sees_129 fl_X8_32 ⟨_, rfl, rfl⟩ ?_
            refine ZW.iload dX8_sees_132 rfl ?_
            refine ZW.iald dX8_sees_134 rfl (by decide) (by omega) rfl ?_
            refine ZW.iconst dX8_sees_135 ?_
            refine ZW.icmp_gt (tgt := 143) dX8_sees_136 (by decide) (by (try rw [hdo]); omega) (by (try rw [hdo]); omega) (fun c136 => ?_) (fun c136 => ?_)
            · rw [hdo] at c136
              refine ZW.iconst dX8_sees_143 ?_
              refine ZW.istore dX8_sees_144 (by decide) rfl ?_
              refine ZW.iinc dX8_sees_146 rfl (by decide) rfl ?_
              refine ZW.goto (tgt := 100) dX8_sees_149 (by decide) ?_
              exact fin false (by rw [e]; simp [seesT]; omega)
            · rw [hdo] at c136
              refine ZW.iconst dX8_sees_139 ?_
              refine ZW.goto (tgt := 144) dX8_sees_140 (by decide) ?_
              refine ZW.istore dX8_sees_144 (by decide) rfl ?_
              refine ZW.iinc dX8_sees_146 rfl (by decide) rfl ?_
              refine ZW.goto (tgt := 100) dX8_sees_149 (by decide) ?_
              exact fin true (by rw [e]; simp [seesT, c125, c136])
  have loop1 : ∀ (n : Nat) (u : Int) (b : Bool), 0 ≤ u → u + n = g 101 192 → ZW 3 mX8_sees 29 [some (.inr 100), some (.inl side), some (.inl x), some (.inl (farF (g 101) x)), some (.inl (zB b)), some (.inl u)] [] g1 (fun r g' => r = zB ((b || anyF (seesU (g 101) side x) n u) || anyF (seesT (g 101) side x) 63 0) ∧ zFr [108] g g') := by
    intro n
    induction n with
    | zero =>
      intro u b h0 hn
      refine ZW.iload dX8_sees_29 rfl ?_
      refine ZW.aload_n dX8_sees_31 rfl ?_
      refine ZW.getR dX8_sees_32 fl_X8_7 ⟨_, rfl, rfl⟩ ?_
      refine ZW.sipush dX8_sees_35 rfl ?_
      refine ZW.iald dX8_sees_38 rfl (by decide) (by omega) rfl ?_
      refine ZW.icmp_ge (tgt := 97) dX8_sees_39 (by decide) (by (try rw [e1]); omega) (by (try rw [e1]); omega) (fun c39 => ?_) (fun c39 => ?_)
      · refine ZW.iconst dX8_sees_97 ?_
        refine ZW.istore dX8_sees_98 (by decide) rfl ?_
        refine ZW.mono (loop2 63 0 b _ (by omega) (by omega)) (fun r g' hh => ⟨?_, hh.2⟩)
        rw [hh.1]
        simp [anyF]
      · rw [e1] at c39; exact absurd c39 (by omega)
    | succ n ih =>
      intro u b h0 hn
      have hU := hu u h0 (by omega)
      have hd2 := hd (ofF (g 101) u 2) hU.2.1 hU.2.2
      have hs2 := stepsF_0 hx (x := ofF (g 101) u 2) hU.2
      have hr1 := ofU_R hk (u := u) ⟨h0, by omega⟩ (w := 1) (by omega)
      have hr0 := ofU_R hk (u := u) ⟨h0, by omega⟩ (w := 0) (by omega)
      have hff : farF (g 101) x = 1 ∨ farF (g 101) x = 2 := by unfold farF; split <;> omega
      have fin : ∀ b2 : Bool, b2 = (b || seesU (g 101) side x u) → ZW 3 mX8_sees 29 [some (.inr 100), some (.inl side), some (.inl x), some (.inl (farF (g 101) x)), some (.inl (zB b2)), some (.inl (u + 1))] [] g1 (fun r g' => r = zB ((b || anyF (seesU (g 101) side x) (n + 1) u) || anyF (seesT (g 101) side x) 63 0) ∧ zFr [108] g g') := by
        intro b2 hb2
        refine ZW.mono (ih (u + 1) b2 (by omega) (by omega)) (fun r g' hh => ⟨?_, hh.2⟩)
        rw [hh.1, hb2]
        simp [anyF, Bool.or_assoc]
      refine ZW.iload dX8_sees_29 rfl ?_
      refine ZW.aload_n dX8_sees_31 rfl ?_
      refine ZW.getR dX8_sees_32 fl_X8_7 ⟨_, rfl, rfl⟩ ?_
      refine ZW.sipush dX8_sees_35 rfl ?_
      refine ZW.iald dX8_sees_38 rfl (by decide) (by omega) rfl ?_
      refine ZW.icmp_ge (tgt := 97) dX8_sees_39 (by decide) (by (try rw [e1]); omega) (by (try rw [e1]); omega) (fun c39 => ?_) (fun c39 => ?_)
      · rw [e1] at c39; exact absurd c39 (by omega)
      · refine ZW.iload dX8_sees_42 rfl ?_
        refine ZW.if_ne (tgt := 84) dX8_sees_44 (by decide) (by exact zB_R _) (fun c44 => ?_) (fun c44 => ?_)
        · have e := zB_ne c44
          refine ZW.iconst dX8_sees_84 ?_
          refine ZW.goto (tgt := 89) dX8_sees_85 (by decide) ?_
          refine ZW.istore dX8_sees_89 (by decide) rfl ?_
          refine ZW.iinc dX8_sees_91 rfl (by decide) rfl ?_
          refine ZW.goto (tgt := 29) dX8_sees_94 (by decide) ?_
          exact fin true (by rw [e]; rfl)
        · have e := zB_eq c44
          refine ZW.aload_n dX8_sees_47 rfl ?_
          refine ZW.iload dX8_sees_48 rfl ?_
          refine ZW.iconst dX8_sees_50 ?_
          refine ZW.callV (as := [_, _]) dX8_sees_51 cv_X8_52 ⟨_, rfl⟩ rfl (by decide) (Nat.le_of_ble_eq_true rfl) rfl (c_X8_of _ (by omega) (by omega)) (fun r1 g2 ⟨q1, q2⟩ => ?_)
          subst q1; subst q2
          rw [e1]
          refine ZW.if_le (tgt := 88) dX8_sees_54 (by decide) (by omega) (fun c54 => ?_) (fun c54 => ?_)
          · refine ZW.iconst dX8_sees_88 ?_
            refine ZW.istore dX8_sees_89 (by decide) rfl ?_
            refine ZW.iinc dX8_sees_91 rfl (by decide) rfl ?_
            refine ZW.goto (tgt := 29) dX8_sees_94 (by decide) ?_
            exact fin false (by rw [e]; simp [seesU]; omega)
          · refine ZW.aload_n dX8_sees_57 rfl ?_
            refine ZW.iload dX8_sees_58 rfl ?_
            refine ZW.iconst dX8_sees_60 ?_
            refine ZW.callV (as := [_, _]) dX8_sees_61 cv_X8_52 ⟨_, rfl⟩ rfl (by decide) (Nat.le_of_ble_eq_true rfl) rfl (c_X8_of _ (by omega) (by omega)) (fun r1 g3 ⟨q1, q2⟩ => ?_)
            subst q1; subst q2
            rw [e1]
            refine ZW.iload_n dX8_sees_64 rfl ?_
            refine ZW.icmp_ne (tgt := 88) dX8_sees_65 (by decide) (by omega) (by omega) (fun c65 => ?_) (fun c65 => ?_)
            · refine ZW.iconst dX8_sees_88 ?_
              refine ZW.istore dX8_sees_89 (by decide) rfl ?_
              refine ZW.iinc dX8_sees_91 rfl (by decide) rfl ?_
              refine ZW.goto (tgt := 29) dX8_sees_94 (by decide) ?_
              exact fin false (by rw [e]; simp [seesU, c65])
            · refine ZW.aload_n dX8_sees_68 rfl ?_
              refine ZW.getR dX8_sees_69 fl_X8_32 ⟨_, rfl, rfl⟩ ?_
              refine ZW.aload_n dX8_sees_72 rfl ?_
              refine ZW.iload dX8_sees_73 rfl ?_
              refine ZW.iconst dX8_sees_75 ?_
              refine ZW.callV (as := [_, _]) dX8_sees_76 cv_X8_52 ⟨_, rfl⟩ rfl (by decide) (Nat.le_of_ble_eq_true rfl) rfl (c_X8_of _ (by omega) (by omega)) (fun r1 g4 ⟨q1, q2⟩ => ?_)
              subst q1; subst q2
              rw [e1]
              refine ZW.iald dX8_sees_79 rfl (by decide) (by omega) rfl ?_
              rw [hd2]
              refine ZW.iload_n dX8_sees_80 rfl ?_
              refine ZW.icmp_gt (tgt := 88) dX8_sees_81 (by decide) (by omega) (by omega) (fun c81 => ?_) (fun c81 => ?_)
              · refine ZW.iconst dX8_sees_88 ?_
                refine ZW.istore dX8_sees_89 (by decide) rfl ?_
                refine ZW.iinc dX8_sees_91 rfl (by decide) rfl ?_
                refine ZW.goto (tgt := 29) dX8_sees_94 (by decide) ?_
                exact fin false (by rw [e]; simp [seesU]; omega)
              · refine ZW.iconst dX8_sees_84 ?_
                refine ZW.goto (tgt := 89) dX8_sees_85 (by decide) ?_
                refine ZW.istore dX8_sees_89 (by decide) rfl ?_
                refine ZW.iinc dX8_sees_91 rfl (by decide) rfl ?_
                refine ZW.goto (tgt := 29) dX8_sees_94 (by decide) ?_
                exact fin true (by rw [e]; simp [seesU, c65, c54, c81])
  have hgx := hk.1 x (by omega) (by omega)
  refine ZW.aload_n dX8_sees_5 rfl ?_
  refine ZW.getR dX8_sees_6 fl_X8_7 ⟨_, rfl, rfl⟩ ?_
  refine ZW.iconst dX8_sees_9 ?_
  refine ZW.iload_n dX8_sees_10 rfl ?_
  refine ZW.iadd dX8_sees_11 (ZW.top (Int.zero_add x) ?_)
  refine ZW.iald dX8_sees_12 rfl (by decide) (by omega) rfl ?_
  rw [e1]
  refine ZW.iconst dX8_sees_13 ?_
  refine ZW.icmp_ne (tgt := 21) dX8_sees_14 (by decide) (by omega) (by omega) (fun c14 => ?_) (fun c14 => ?_)
  · refine ZW.iconst dX8_sees_21 ?_
    refine ZW.istore_n dX8_sees_22 (by decide) rfl ?_
    refine ZW.iconst dX8_sees_23 ?_
    refine ZW.istore dX8_sees_24 (by decide) rfl ?_
    refine ZW.iconst dX8_sees_26 ?_
    refine ZW.istore dX8_sees_27 (by decide) rfl ?_
    have hfar : farF (g 101) x = 2 := by unfold farF; rw [if_neg c14]
    rw [← hfar]
    refine ZW.mono (loop1 (g 101 192).toNat 0 false (by omega) (by omega)) (fun r g' hh => ⟨?_, hh.2⟩)
    rw [hh.1]; simp [seesF]
  · refine ZW.iconst dX8_sees_17 ?_
    refine ZW.goto (tgt := 22) dX8_sees_18 (by decide) ?_
    refine ZW.istore_n dX8_sees_22 (by decide) rfl ?_
    refine ZW.iconst dX8_sees_23 ?_
    refine ZW.istore dX8_sees_24 (by decide) rfl ?_
    refine ZW.iconst dX8_sees_26 ?_
    refine ZW.istore dX8_sees_27 (by decide) rfl ?_
    have hfar : farF (g 101) x = 1 := by unfold farF; rw [if_pos c14]
    rw [show (some (Sum.inl (1 : Int)) : Option ZV) = some (Sum.inl (farF (g 101) x)) by rw [hfar]]
    refine ZW.mono (loop1 (g 101 192).toNat 0 false (by omega) (by omega)) (fun r g' hh => ⟨?_, hh.2⟩)
    rw [hh.1]; simp [seesF]
-- powers
noncomputable def powF (r : Int → Int) (u x : Int) : Int := if rivB r (ofF r u 2) (dirF (ofF r u 2) x) then (if supB r u then 2 * ofF r u 1 else 2 * ofF r u 1 / 2) / 2 else (if supB r u then 2 * ofF r u 1 else 2 * ofF r u 1 / 2)
def defP (r : Int → Int) (u : Int) : Int := (if 0 < r (126 + ofF r u 2) then 2 * (2 * ofF r u 1) else 2 * ofF r u 1) + (if 0 < r (ofF r u 2) then 2 else 0)
noncomputable def defF (r : Int → Int) (u : Int) : Int := if supB r u then defP r u else defP r u / 2
def weakF (r : Int → Int) (u m : Int) : Int := if ofF r u 1 - 1 - m / 4 < 0 then 0 else ofF r u 1 - 1 - m / 4
def canF (r : Int → Int) (u x : Int) : Bool := isOnB r x (1 - ofF r u 0) && decide (dirF (ofF r u 2) x ≠ -5)
theorem c_X8_canFight (g : ZH) (hk : okB (g 101)) (hU : okU (g 101)) {u x : Int} (hu : 0 ≤ u ∧ u < 16) (hx : 0 ≤ x ∧ x < 63) : ZC 3 mX8_canFight [.inr 100, .inl u, .inl x] g (fun r g' => r = zB (canF (g 101) u x) ∧ g' = g) := by
  have h0 := hU u hu.1 hu.2
  refine ZC.of (by decide +kernel) (Nat.le_of_ble_eq_true rfl) ?_
  refine ZW.aload_n dX8_canFight_0 rfl ?_
  refine ZW.iload_n dX8_canFight_1 rfl ?_
  refine ZW.iconst dX8_canFight_2 ?_
  refine ZW.aload_n dX8_canFight_3 rfl ?_
  refine ZW.iload_n dX8_canFight_4 rfl ?_
  refine ZW.iconst dX8_canFight_5 ?_
  refine ZW.callV (as := [_, _]) dX8_canFight_6 cv_X8_52 ⟨_, rfl⟩ rfl (by decide) (Nat.le_of_ble_eq_true rfl) rfl (c_X8_of _ hu (by omega)) (fun r1 g2 ⟨q1, q2⟩ => ?_)
  subst q1; subst q2
  refine ZW.isub dX8_canFight_9 ?_
  refine ZW.callV (as := [_, _]) dX8_canFight_10 cv_X8_66 ⟨_, rfl⟩ rfl (by decide) (Nat.le_of_ble_eq_true rfl) rfl (c_X8_isOn _ hk (by omega) (by omega)) (fun r1 g2 ⟨q1, q2⟩ => ?_)
  subst q1; subst q2
  refine ZW.if_eq (tgt := 35) dX8_canFight_13 (by decide) (by exact zB_R _) (fun c13 => ?_) (fun c13 => ?_)
  · have e := zB_eq c13
    refine ZW.iconst dX8_canFight_35 ?_
    refine ZW.iretz dX8_canFight_36 rfl (by first | exact Or.inl rfl | exact Or.inr rfl | assumption | omega) ?_
    exact ⟨by simp [canF, e, zB], rfl⟩
  · have e := zB_ne c13
    refine ZW.aload_n dX8_canFight_16 rfl ?_
    refine ZW.iload_n dX8_canFight_17 rfl ?_
    refine ZW.iconst dX8_canFight_18 ?_
    refine ZW.callV (as := [_, _]) dX8_canFight_19 cv_X8_52 ⟨_, rfl⟩ rfl (by decide) (Nat.le_of_ble_eq_true rfl) rfl (c_X8_of _ hu (by omega)) (fun r1 g3 ⟨q1, q2⟩ => ?_)
    subst q1; subst q2
    refine ZW.iload_n dX8_canFight_22 rfl ?_
    refine ZW.callS (as := [_, _]) dX8_canFight_23 cs_X8_108 rfl (by decide) (Nat.le_of_ble_eq_true rfl) rfl (c_X8_directionTo _ h0.2 (by omega)) (fun r1 g4 ⟨q1, q2⟩ => ?_)
    subst q1; subst q2
    have h1 := dirF_R (ofF (g4 101) u 2) x
    refine ZW.bipush dX8_canFight_26 rfl ?_
    refine ZW.icmp_eq (tgt := 35) dX8_canFight_28 (by decide) (by omega) (by omega) (fun c28 => ?_) (fun c28 => ?_)
    · refine ZW.iconst dX8_canFight_35 ?_
      refine ZW.iretz dX8_canFight_36 rfl (by first | exact Or.inl rfl | exact Or.inr rfl | assumption | omega) ?_
      exact ⟨by simp [canF, e, zB, c28], rfl⟩
    · refine ZW.iconst dX8_canFight_31 ?_
      refine ZW.goto (tgt := 36) dX8_canFight_32 (by decide) ?_
      refine ZW.iretz dX8_canFight_36 rfl (by first | exact Or.inl rfl | exact Or.inr rfl | assumption | omega) ?_
      exact ⟨by simp [canF, e, zB, c28], rfl⟩
theorem c_X8_weakened (g : ZH) (hk : okB (g 101)) {u m : Int} (hu : 0 ≤ u ∧ u < 16) (hm : 0 ≤ m ∧ m < 100000) : ZC 1 mX8_weakened [.inr 100, .inl u, .inl m] g (fun r g' => r = weakF (g 101) u m ∧ g' = g) := by
  have h1 := ofF_R hk hu (w := 1) (by omega)
  refine ZC.of (by decide +kernel) (Nat.le_of_ble_eq_true rfl) ?_
  refine ZW.aload_n dX8_weakened_0 rfl ?_
  refine ZW.iload_n dX8_weakened_1 rfl ?_
  refine ZW.iconst dX8_weakened_2 ?_
  refine ZW.callV (as := [_, _]) dX8_weakened_3 cv_X8_52 ⟨_, rfl⟩ rfl (by decide) (Nat.le_of_ble_eq_true rfl) rfl (c_X8_of _ hu (by omega)) (fun r1 g2 ⟨q1, q2⟩ => ?_)
  subst q1; subst q2
  refine ZW.iconst dX8_weakened_6 ?_
  refine ZW.isub dX8_weakened_7 ?_
  refine ZW.iload_n dX8_weakened_8 rfl ?_
  refine ZW.iconst dX8_weakened_9 ?_
  refine ZW.idiv dX8_weakened_10 (by omega) ?_
  refine ZW.isub dX8_weakened_11 ?_
  refine ZW.istore_n dX8_weakened_12 (by decide) rfl ?_
  refine ZW.iload_n dX8_weakened_13 rfl ?_
  refine ZW.if_ge (tgt := 21) dX8_weakened_14 (by decide) (by omega) (fun c14 => ?_) (fun c14 => ?_)
  · refine ZW.iload_n dX8_weakened_21 rfl ?_
    refine ZW.ireti dX8_weakened_22 rfl ?_
    exact ⟨by unfold weakF; rw [if_neg (by omega)], rfl⟩
  · refine ZW.iconst dX8_weakened_17 ?_
    refine ZW.goto (tgt := 22) dX8_weakened_18 (by decide) ?_
    refine ZW.ireti dX8_weakened_22 rfl ?_
    exact ⟨by unfold weakF; rw [if_pos (by omega)], rfl⟩
theorem c_X8_power (g : ZH) (hk : okB (g 101)) (hU : okU (g 101)) {u x : Int} (hu : 0 ≤ u ∧ u < 16) (hx : 0 ≤ x ∧ x < 63) (hd : dirF (ofF (g 101) u 2) x ≠ -5) : ZC 7 mX8_power [.inr 100, .inl u, .inl x] g (fun r g' => r = powF (g 101) u x ∧ zFr [108, 109] g g') := by
  have h0 := hU u hu.1 hu.2
  have h1 := ofF_R hk hu (w := 1) (by omega)
  have h2 := (dirF_R (ofF (g 101) u 2) x).resolve_left hd
  refine ZC.of (by decide +kernel) (Nat.le_of_ble_eq_true rfl) ?_
  refine ZW.iconst dX8_power_0 ?_
  refine ZW.aload_n dX8_power_1 rfl ?_
  refine ZW.iload_n dX8_power_2 rfl ?_
  refine ZW.iconst dX8_power_3 ?_
  refine ZW.callV (as := [_, _]) dX8_power_4 cv_X8_52 ⟨_, rfl⟩ rfl (by decide) (Nat.le_of_ble_eq_true rfl) rfl (c_X8_of _ hu (by omega)) (fun r1 g2 ⟨q1, q2⟩ => ?_)
  subst q1; subst q2
  refine ZW.imul dX8_power_7 ?_
  refine ZW.istore_n dX8_power_8 (by decide) rfl ?_
  refine ZW.aload_n dX8_power_9 rfl ?_
  refine ZW.iload_n dX8_power_10 rfl ?_
  refine ZW.callV (as := [_]) dX8_power_11 cv_X8_104 ⟨_, rfl⟩ rfl (by decide) (Nat.le_of_ble_eq_true rfl) rfl (c_X8_isSupplied _ hk hU hu) (fun r1 g1 ⟨q1, hf⟩ => ?_)
  subst q1
  have e1 : g1 101 = g2 101 := hf 101 (by decide)
  have tail : ∀ p : Int, 0 ≤ p → p < 10000 → p = (if supB (g2 101) u then 2 * ofF (g2 101) u 1 else 2 * ofF (g2 101) u 1 / 2) → ZW 7 mX8_power 24 [some (.inr 100), some (.inl u), some (.inl x), some (.inl (2 * ofF (g2 101) u 1))] [.inl p] g1 (fun r g' => r = powF (g2 101) u x ∧ zFr [108, 109] g2 g') := by
    intro p p0 p1 hp
    refine ZW.istore_n dX8_power_24 (by decide) rfl ?_
    refine ZW.aload_n dX8_power_25 rfl ?_
    refine ZW.aload_n dX8_power_26 rfl ?_
    refine ZW.iload_n dX8_power_27 rfl ?_
    refine ZW.iconst dX8_power_28 ?_
    refine ZW.callV (as := [_, _]) dX8_power_29 cv_X8_52 ⟨_, rfl⟩ rfl (by decide) (Nat.le_of_ble_eq_true rfl) rfl (c_X8_of _ hu (by omega)) (fun r1 g3 ⟨q1, q2⟩ => ?_)
    subst q1; subst q2
    rw [e1]
    refine ZW.aload_n dX8_power_32 rfl ?_
    refine ZW.iload_n dX8_power_33 rfl ?_
    refine ZW.iconst dX8_power_34 ?_
    refine ZW.callV (as := [_, _]) dX8_power_35 cv_X8_52 ⟨_, rfl⟩ rfl (by decide) (Nat.le_of_ble_eq_true rfl) rfl (c_X8_of _ hu (by omega)) (fun r1 g4 ⟨q1, q2⟩ => ?_)
    subst q1; subst q2
    rw [e1]
    refine ZW.iload_n dX8_power_38 rfl ?_
    refine ZW.callS (as := [_, _]) dX8_power_39 cs_X8_108 rfl (by decide) (Nat.le_of_ble_eq_true rfl) rfl (c_X8_directionTo _ h0.2 (by omega)) (fun r1 g5 ⟨q1, q2⟩ => ?_)
    subst q1; subst q2
    refine ZW.callV (as := [_, _]) dX8_power_42 cv_X8_77 ⟨_, rfl⟩ rfl (by decide) (Nat.le_of_ble_eq_true rfl) rfl (c_X8_hasRiver _ (e1 ▸ hk) h0.2 ⟨h2.1, h2.2.1⟩) (fun r1 g6 ⟨q1, q2⟩ => ?_)
    subst q1; subst q2
    rw [e1]
    refine ZW.if_eq (tgt := 54) dX8_power_45 (by decide) (by exact zB_R _) (fun c45 => ?_) (fun c45 => ?_)
    · have e := zB_eq c45
      refine ZW.iload_n dX8_power_54 rfl ?_
      refine ZW.ireti dX8_power_55 rfl ?_
      exact ⟨by unfold powF; rw [e, hp]; simp, hf⟩
    · have e := zB_ne c45
      refine ZW.iload_n dX8_power_48 rfl ?_
      refine ZW.iconst dX8_power_49 ?_
      refine ZW.idiv dX8_power_50 (by omega) ?_
      refine ZW.goto (tgt := 55) dX8_power_51 (by decide) ?_
      refine ZW.ireti dX8_power_55 rfl ?_
      exact ⟨by unfold powF; rw [e, hp]; simp, hf⟩
  refine ZW.if_eq (tgt := 21) dX8_power_14 (by decide) (by exact zB_R _) (fun c14 => ?_) (fun c14 => ?_)
  · have e := zB_eq c14
    refine ZW.iload_n dX8_power_21 rfl ?_
    refine ZW.iconst dX8_power_22 ?_
    refine ZW.idiv dX8_power_23 (by omega) ?_
    exact tail _ (by omega) (by omega) (by rw [e]; simp)
  · have e := zB_ne c14
    refine ZW.iload_n dX8_power_17 rfl ?_
    refine ZW.goto (tgt := 24) dX8_power_18 (by decide) ?_
    exact tail _ (by omega) (by omega) (by rw [e]; simp)
theorem c_X8_defence (g : ZH) (hk : okB (g 101)) (hU : okU (g 101)) {u : Int} (hu : 0 ≤ u ∧ u < 16) : ZC 7 mX8_defence [.inr 100, .inl u] g (fun r g' => r = defF (g 101) u ∧ zFr [108, 109] g g') := by
  have h0 := hU u hu.1 hu.2
  have h1 := ofF_R hk hu (w := 1) (by omega)
  have h3 := hk.1 (126 + ofF (g 101) u 2) (by omega) (by omega)
  have h4 := hk.1 (ofF (g 101) u 2) (by omega) (by omega)
  refine ZC.of (by decide +kernel) (Nat.le_of_ble_eq_true rfl) ?_
  refine ZW.aload_n dX8_defence_0 rfl ?_
  refine ZW.iload_n dX8_defence_1 rfl ?_
  refine ZW.iconst dX8_defence_2 ?_
  refine ZW.callV (as := [_, _]) dX8_defence_3 cv_X8_52 ⟨_, rfl⟩ rfl (by decide) (Nat.le_of_ble_eq_true rfl) rfl (c_X8_of _ hu (by omega)) (fun r1 g2 ⟨q1, q2⟩ => ?_)
  subst q1; subst q2
  refine ZW.istore_n dX8_defence_6 (by decide) rfl ?_
  refine ZW.iconst dX8_defence_7 ?_
  refine ZW.aload_n dX8_defence_8 rfl ?_
  refine ZW.iload_n dX8_defence_9 rfl ?_
  refine ZW.iconst dX8_defence_10 ?_
  refine ZW.callV (as := [_, _]) dX8_defence_11 cv_X8_52 ⟨_, rfl⟩ rfl (by decide) (Nat.le_of_ble_eq_true rfl) rfl (c_X8_of _ hu (by omega)) (fun r1 g2 ⟨q1, q2⟩ => ?_)
  subst q1; subst q2
  have tail2 : ∀ (p : Int) (b : Int), 0 ≤ p → p < 10000 → p + b = defP (g2 101) u → 0 ≤ b → b ≤ 2 → ZW 7 mX8_defence 53 [some (.inr 100), some (.inl u), some (.inl (ofF (g2 101) u 2)), some (.inl p)] [.inl b, .inl p] g2 (fun r g' => r = defF (g2 101) u ∧ zFr [108, 109] g2 g') := by
    intro p b p0 p1 hp b0 b1
    refine ZW.iadd dX8_defence_53 ?_
    refine ZW.istore_n dX8_defence_54 (by decide) rfl ?_
    refine ZW.aload_n dX8_defence_55 rfl ?_
    refine ZW.iload_n dX8_defence_56 rfl ?_
    refine ZW.callV (as := [_]) dX8_defence_57 cv_X8_104 ⟨_, rfl⟩ rfl (by decide) (Nat.le_of_ble_eq_true rfl) rfl (c_X8_isSupplied _ hk hU hu) (fun r1 g1 ⟨q1, hf⟩ => ?_)
    subst q1
    refine ZW.if_eq (tgt := 67) dX8_defence_60 (by decide) (by exact zB_R _) (fun c60 => ?_) (fun c60 => ?_)
    · have e := zB_eq c60
      refine ZW.iload_n dX8_defence_67 rfl ?_
      refine ZW.iconst dX8_defence_68 ?_
      refine ZW.idiv dX8_defence_69 (by omega) ?_
      refine ZW.ireti dX8_defence_70 rfl ?_
      exact ⟨by unfold defF; rw [e, hp]; simp, hf⟩
    · have e := zB_ne c60
      refine ZW.iload_n dX8_defence_63 rfl ?_
      refine ZW.goto (tgt := 70) dX8_defence_64 (by decide) ?_
      refine ZW.ireti dX8_defence_70 rfl ?_
      exact ⟨by unfold defF; rw [e, hp]; simp, hf⟩
  have tail : ∀ (p : Int) (o : Option ZV), 0 ≤ p → p < 10000 → p = (if 0 < g2 101 (126 + ofF (g2 101) u 2) then 2 * (2 * ofF (g2 101) u 1) else 2 * ofF (g2 101) u 1) → ZW 7 mX8_defence 35 [some (.inr 100), some (.inl u), some (.inl (ofF (g2 101) u 2)), o] [.inl p] g2 (fun r g' => r = defF (g2 101) u ∧ zFr [108, 109] g2 g') := by
    intro p o p0 p1 hp
    refine ZW.istore_n dX8_defence_35 (by decide) rfl ?_
    refine ZW.iload_n dX8_defence_36 rfl ?_
    refine ZW.aload_n dX8_defence_37 rfl ?_
    refine ZW.getR dX8_defence_38 fl_X8_7 ⟨_, rfl, rfl⟩ ?_
    refine ZW.iconst dX8_defence_41 ?_
    refine ZW.iload_n dX8_defence_42 rfl ?_
    refine ZW.iadd dX8_defence_43 (ZW.top (Int.zero_add _) ?_)
    refine ZW.iald dX8_defence_44 rfl (by decide) (by omega) rfl ?_
    refine ZW.if_le (tgt := 52) dX8_defence_45 (by decide) (by omega) (fun c45 => ?_) (fun c45 => ?_)
    · refine ZW.iconst dX8_defence_52 ?_
      exact tail2 p 0 p0 p1 (by unfold defP; rw [← hp, if_neg (by omega)]) (by omega) (by omega)
    · refine ZW.iconst dX8_defence_48 ?_
      refine ZW.goto (tgt := 53) dX8_defence_49 (by decide) ?_
      exact tail2 p 2 p0 p1 (by unfold defP; rw [← hp, if_pos (by omega)]) (by omega) (by omega)
  refine ZW.imul dX8_defence_14 ?_
  refine ZW.istore_n dX8_defence_15 (by decide) rfl ?_
  refine ZW.aload_n dX8_defence_16 rfl ?_
  refine ZW.getR dX8_defence_17 fl_X8_7 ⟨_, rfl, rfl⟩ ?_
  refine ZW.bipush dX8_defence_20 rfl ?_
  refine ZW.iload_n dX8_defence_22 rfl ?_
  refine ZW.iadd dX8_defence_23 ?_
  refine ZW.iald dX8_defence_24 rfl (by decide) (by omega) rfl ?_
  refine ZW.if_le (tgt := 34) dX8_defence_25 (by decide) (by omega) (fun c25 => ?_) (fun c25 => ?_)
  · refine ZW.iload_n dX8_defence_34 rfl ?_
    exact tail _ _ (by omega) (by omega) (by rw [if_neg (by omega)])
  · refine ZW.iconst dX8_defence_28 ?_
    refine ZW.iload_n dX8_defence_29 rfl ?_
    refine ZW.imul dX8_defence_30 ?_
    refine ZW.goto (tgt := 35) dX8_defence_31 (by decide) ?_
    exact tail _ _ (by omega) (by omega) (by rw [if_pos (by omega)])
end
section
-- the reference: fights, moves, the end of a turn
theorem okB_lay {r : Int → Int} (hk : okB r) {u w v : Int} (hu : 0 ≤ u) (hw : 0 ≤ w) (hv : 0 ≤ v ∧ v < 1000) : okB (layF r u w v) := by
  refine ⟨fun i i0 i1 => ?_, ?_⟩
  · by_cases q : i = 193 + 6 * u + w
    · rw [q]; unfold layF; rw [zUp_same]; exact hv
    · unfold layF; rw [zUp_ne _ _ q]; exact hk.1 i i0 i1
  · unfold layF; rw [zUp_ne _ _ (by omega)]; exact hk.2
theorem zFr.lay {ks : List Nat} {g g1 : ZH} {R : Int → Int} {k : Nat} (h : zFr ks (zRow g k R) g1) (F : Int → Int) : zFr ks (zRow g k F) (zRow g1 k F) := by
  have h1 := h.rowc k F
  rw [zRow_row] at h1
  exact h1
theorem zFr.st {ks : List Nat} {g g1 : ZH} (h : zFr ks g g1) (k : Nat) : zFr ks (zRow g k (g k)) g1 := by rw [zRow_self]; exact h
theorem powF_R {r : Int → Int} (hk : okB r) {u x : Int} (hu : 0 ≤ u ∧ u < 16) : 0 ≤ powF r u x ∧ powF r u x < 2000 := by
  have h1 := ofF_R hk hu (w := 1) (by omega)
  unfold powF
  split <;> split <;> omega
theorem defF_R {r : Int → Int} (hk : okB r) {u : Int} (hu : 0 ≤ u ∧ u < 16) : 0 ≤ defF r u ∧ defF r u < 5000 := by
  have h1 := ofF_R hk hu (w := 1) (by omega)
  have h2 : 0 ≤ defP r u ∧ defP r u < 5000 := by unfold defP; split <;> split <;> omega
  unfold defF
  split <;> omega
theorem weakF_R {r : Int → Int} (hk : okB r) {u m : Int} (hu : 0 ≤ u ∧ u < 16) (hm : 0 ≤ m) : 0 ≤ weakF r u m ∧ weakF r u m < 1000 := by
  have h1 := ofF_R hk hu (w := 1) (by omega)
  unfold weakF
  split <;> omega
theorem weakF_lay {r : Int → Int} {u v w m o : Int} (hw : 0 ≤ w ∧ w < 6) (h : w ≠ 1) : weakF (layF r u w v) o m = weakF r o m := by
  unfold weakF
  rw [layF_ne hw (by decide) (Or.inr (fun q => h q.symm))]
noncomputable def fightsF (r : Int → Int) (u x : Int) : Int → Int :=
  if defF r (unitOnF r x) < powF r u x then (if weakF r (unitOnF r x) (powF r u x - defF r (unitOnF r x)) = 0 then standsF (layF (layF r u 4 0) (unitOnF r x) 1 (weakF r (unitOnF r x) (powF r u x - defF r (unitOnF r x)))) u x else layF (layF r u 4 0) (unitOnF r x) 1 (weakF r (unitOnF r x) (powF r u x - defF r (unitOnF r x)))) else layF (layF r u 4 0) u 1 (weakF r u (defF r (unitOnF r x) - powF r u x))
noncomputable def fightsR (r : Int → Int) (u x : Int) : Int := if defF r (unitOnF r x) < powF r u x then weakF r (unitOnF r x) (powF r u x - defF r (unitOnF r x)) else ofF r (unitOnF r x) 1
theorem canF_t {r : Int → Int} (hk : okB r) {u x : Int} (h : canF r u x = true) : unitOnF r x ≠ -5 ∧ 0 ≤ unitOnF r x ∧ unitOnF r x < r 192 ∧ unitOnF r x < 16 ∧ ofF r (unitOnF r x) 0 = 1 - ofF r u 0 ∧ unitOnF r x ≠ u ∧ dirF (ofF r u 2) x ≠ -5 ∧ 0 < ofF r (unitOnF r x) 1 ∧ ofF r (unitOnF r x) 2 = x := by
  unfold canF at h
  rw [Bool.and_eq_true] at h
  have h1 := of_decide_eq_true h.1
  have h2 := of_decide_eq_true h.2
  have h3 := (unitOnF_R hk x).resolve_left h1.1
  refine ⟨h1.1, h3.1, h3.2.1, h3.2.2.1, h1.2, fun q => ?_, h2, h3.2.2.2⟩
  have := h1.2
  rw [q] at this
  omega
theorem standsF_of {r : Int → Int} {u x v w : Int} (hu : 0 ≤ u) (hx : x < 63) (hv : 0 ≤ v) (hw : 0 ≤ w ∧ w < 6) (h : v ≠ u ∨ w ≠ 2) : ofF (standsF r u x) v w = ofF r v w := by
  unfold standsF ofF
  rw [zUp_ne _ _ (by omega)]
  exact layF_ne (by decide) hw h
set_option maxHeartbeats 1000000 in
theorem c_X8_fights (g : ZH) (hk : okB (g 101)) (hU : okU (g 101)) {u x : Int} (hu : 0 ≤ u ∧ u < 16) (hx : 0 ≤ x ∧ x < 63) (hc : canF (g 101) u x = true) : ZC 8 mX8_fights [.inr 100, .inl u, .inl x] g (fun r g' => r = fightsR (g 101) u x ∧ zFr [108, 109] (zRow g 101 (fightsF (g 101) u x)) g') := by
  obtain ⟨t1, t2, t3, t4, t5, t6, t7, t8, t9⟩ := canF_t hk hc
  have hA := powF_R hk (x := x) hu
  have hD := defF_R hk (u := unitOnF (g 101) x) ⟨t2, t4⟩
  refine ZC.of (by decide +kernel) (Nat.le_of_ble_eq_true rfl) ?_
  refine ZW.aload_n dX8_fights_0 rfl ?_
  refine ZW.iload_n dX8_fights_1 rfl ?_
  refine ZW.callV (as := [_]) dX8_fights_2 cv_X8_62 ⟨_, rfl⟩ rfl (by decide) (Nat.le_of_ble_eq_true rfl) rfl (c_X8_unitOn _ hk (by omega)) (fun r1 g1 ⟨q1, q2⟩ => ?_)
  subst q1; subst q2
  refine ZW.istore_n dX8_fights_5 (by decide) rfl ?_
  refine ZW.aload_n dX8_fights_6 rfl ?_
  refine ZW.iload_n dX8_fights_7 rfl ?_
  refine ZW.iload_n dX8_fights_8 rfl ?_
  refine ZW.callV (as := [_, _]) dX8_fights_9 cv_X8_111 ⟨_, rfl⟩ rfl (by decide) (Nat.le_of_ble_eq_true rfl) rfl (c_X8_power _ hk hU hu hx t7) (fun r1 g2 ⟨q1, f2⟩ => ?_)
  subst q1
  have e2 : g2 101 = g1 101 := f2 101 (by decide)
  refine ZW.istore dX8_fights_12 (by decide) rfl ?_
  refine ZW.aload_n dX8_fights_14 rfl ?_
  refine ZW.iload_n dX8_fights_15 rfl ?_
  refine ZW.callV (as := [_]) dX8_fights_16 cv_X8_114 ⟨_, rfl⟩ rfl (by decide) (Nat.le_of_ble_eq_true rfl) rfl (c_X8_defence _ (e2 ▸ hk) (e2 ▸ hU) ⟨t2, t4⟩) (fun r1 g3 ⟨q1, f3⟩ => ?_)
  subst q1
  have f3' := f2.tr f3
  have e3 : g3 101 = g1 101 := f3' 101 (by decide)
  rw [e2]
  refine ZW.istore dX8_fights_19 (by decide) rfl ?_
  refine ZW.aload_n dX8_fights_21 rfl ?_
  refine ZW.iload_n dX8_fights_22 rfl ?_
  refine ZW.iconst dX8_fights_23 ?_
  refine ZW.iconst dX8_fights_24 ?_
  refine ZW.callVv (as := [_, _, _]) dX8_fights_25 cv_X8_73 ⟨_, rfl⟩ rfl (by decide) (Nat.le_of_ble_eq_true rfl) rfl (fun _ _ hz _ => hz) (c_X8_layR _ hu (by omega)) (fun g4 q1 => ?_)
  subst q1
  rw [e3]
  have f4 := (f3'.st 101).lay (layF (g1 101) u 4 0)
  have e4 : (zRow g3 101 (layF (g1 101) u 4 0)) 101 = layF (g1 101) u 4 0 := zRow_same _ _ _
  have k4 := okB_lay hk (u := u) (w := 4) (v := 0) hu.1 (by decide) (by decide)
  generalize zRow g3 101 (layF (g1 101) u 4 0) = g4 at f4 e4 ⊢
  refine ZW.iload dX8_fights_28 rfl ?_
  refine ZW.iload dX8_fights_30 rfl ?_
  refine ZW.icmp_le (tgt := 69) dX8_fights_32 (by decide) (by omega) (by omega) (fun c32 => ?_) (fun c32 => ?_)
  · refine ZW.aload_n dX8_fights_69 rfl ?_
    refine ZW.iload_n dX8_fights_70 rfl ?_
    refine ZW.iconst dX8_fights_71 ?_
    refine ZW.aload_n dX8_fights_72 rfl ?_
    refine ZW.iload_n dX8_fights_73 rfl ?_
    refine ZW.iload dX8_fights_74 rfl ?_
    refine ZW.iload dX8_fights_76 rfl ?_
    refine ZW.isub dX8_fights_78 ?_
    refine ZW.callV (as := [_, _]) dX8_fights_79 cv_X8_117 ⟨_, rfl⟩ rfl (by decide) (Nat.le_of_ble_eq_true rfl) rfl (c_X8_weakened _ (e4 ▸ k4) hu (by omega)) (fun r1 g5 ⟨q1, q2⟩ => ?_)
    subst q1; subst q2
    rw [e4, weakF_lay (by decide) (by decide)]
    have hw := weakF_R hk (u := u) (m := defF (g1 101) (unitOnF (g1 101) x) - powF (g1 101) u x) hu (by omega)
    refine ZW.callVv (as := [_, _, _]) dX8_fights_82 cv_X8_73 ⟨_, rfl⟩ rfl (by decide) (Nat.le_of_ble_eq_true rfl) rfl (fun _ _ hz _ => hz) (c_X8_layR _ hu (by omega)) (fun g6 q1 => ?_)
    subst q1
    rw [e4]
    have f6 := f4.lay (layF (layF (g1 101) u 4 0) u 1 (weakF (g1 101) u (defF (g1 101) (unitOnF (g1 101) x) - powF (g1 101) u x)))
    refine ZW.aload_n dX8_fights_85 rfl ?_
    refine ZW.iload_n dX8_fights_86 rfl ?_
    refine ZW.iconst dX8_fights_87 ?_
    refine ZW.callV (as := [_, _]) dX8_fights_88 cv_X8_52 ⟨_, rfl⟩ rfl (by decide) (Nat.le_of_ble_eq_true rfl) rfl (c_X8_of _ ⟨t2, t4⟩ (by omega)) (fun r1 g7 ⟨q1, q2⟩ => ?_)
    subst q1; subst q2
    refine ZW.ireti dX8_fights_91 rfl ?_
    refine ⟨?_, ?_⟩
    · rw [zRow_same, layF_ne (by decide) (by decide) (Or.inl t6), layF_ne (by decide) (by decide) (Or.inr (by decide))]
      unfold fightsR
      rw [if_neg (by omega)]
    · unfold fightsF
      rw [if_neg (by omega)]
      exact f6
  · refine ZW.aload_n dX8_fights_35 rfl ?_
    refine ZW.iload_n dX8_fights_36 rfl ?_
    refine ZW.iconst dX8_fights_37 ?_
    refine ZW.aload_n dX8_fights_38 rfl ?_
    refine ZW.iload_n dX8_fights_39 rfl ?_
    refine ZW.iload dX8_fights_40 rfl ?_
    refine ZW.iload dX8_fights_42 rfl ?_
    refine ZW.isub dX8_fights_44 ?_
    refine ZW.callV (as := [_, _]) dX8_fights_45 cv_X8_117 ⟨_, rfl⟩ rfl (by decide) (Nat.le_of_ble_eq_true rfl) rfl (c_X8_weakened _ (e4 ▸ k4) ⟨t2, t4⟩ (by omega)) (fun r1 g5 ⟨q1, q2⟩ => ?_)
    subst q1; subst q2
    rw [e4, weakF_lay (by decide) (by decide)]
    have hw := weakF_R hk (u := unitOnF (g1 101) x) (m := powF (g1 101) u x - defF (g1 101) (unitOnF (g1 101) x)) ⟨t2, t4⟩ (by omega)
    refine ZW.callVv (as := [_, _, _]) dX8_fights_48 cv_X8_73 ⟨_, rfl⟩ rfl (by decide) (Nat.le_of_ble_eq_true rfl) rfl (fun _ _ hz _ => hz) (c_X8_layR _ ⟨t2, t4⟩ (by omega)) (fun g6 q1 => ?_)
    subst q1
    rw [e4]
    have f6 := f4.lay (layF (layF (g1 101) u 4 0) (unitOnF (g1 101) x) 1 (weakF (g1 101) (unitOnF (g1 101) x) (powF (g1 101) u x - defF (g1 101) (unitOnF (g1 101) x))))
    have k6 := okB_lay k4 (u := unitOnF (g1 101) x) (w := 1) t2 (by decide) hw
    obtain ⟨wv, hwv⟩ : ∃ z, z = weakF (g1 101) (unitOnF (g1 101) x) (powF (g1 101) u x - defF (g1 101) (unitOnF (g1 101) x)) := ⟨_, rfl⟩
    rw [← hwv] at f6 k6 hw ⊢
    refine ZW.aload_n dX8_fights_51 rfl ?_
    refine ZW.iload_n dX8_fights_52 rfl ?_
    refine ZW.iconst dX8_fights_53 ?_
    refine ZW.callV (as := [_, _]) dX8_fights_54 cv_X8_52 ⟨_, rfl⟩ rfl (by decide) (Nat.le_of_ble_eq_true rfl) rfl (c_X8_of _ ⟨t2, t4⟩ (by omega)) (fun r1 g7 ⟨q1, q2⟩ => ?_)
    subst q1; subst q2
    rw [zRow_same, layF_same]
    refine ZW.if_ne (tgt := 85) dX8_fights_57 (by decide) (by omega) (fun c57 => ?_) (fun c57 => ?_)
    · refine ZW.aload_n dX8_fights_85 rfl ?_
      refine ZW.iload_n dX8_fights_86 rfl ?_
      refine ZW.iconst dX8_fights_87 ?_
      refine ZW.callV (as := [_, _]) dX8_fights_88 cv_X8_52 ⟨_, rfl⟩ rfl (by decide) (Nat.le_of_ble_eq_true rfl) rfl (c_X8_of _ ⟨t2, t4⟩ (by omega)) (fun r1 g8 ⟨q1, q2⟩ => ?_)
      subst q1; subst q2
      rw [zRow_same, layF_same]
      refine ZW.ireti dX8_fights_91 rfl ?_
      refine ⟨?_, ?_⟩
      · unfold fightsR
        rw [if_pos (by omega), hwv]
      · unfold fightsF
        rw [if_pos (by omega), ← hwv, if_neg c57]
        exact f6
    · refine ZW.aload_n dX8_fights_60 rfl ?_
      refine ZW.iload_n dX8_fights_61 rfl ?_
      refine ZW.iload_n dX8_fights_62 rfl ?_
      refine ZW.callVv (as := [_, _]) dX8_fights_63 cv_X8_120 ⟨_, rfl⟩ rfl (by decide) (Nat.le_of_ble_eq_true rfl) rfl (fun _ _ hz _ => hz) (c_X8_stands _ (by rw [zRow_same]; exact k6) hu hx) (fun g8 q1 => ?_)
      subst q1
      rw [zRow_same, zRow_row]
      have f8 := f6.lay (standsF (layF (layF (g1 101) u 4 0) (unitOnF (g1 101) x) 1 wv) u x)
      rw [zRow_row] at f8
      refine ZW.goto (tgt := 85) dX8_fights_66 (by decide) ?_
      refine ZW.aload_n dX8_fights_85 rfl ?_
      refine ZW.iload_n dX8_fights_86 rfl ?_
      refine ZW.iconst dX8_fights_87 ?_
      refine ZW.callV (as := [_, _]) dX8_fights_88 cv_X8_52 ⟨_, rfl⟩ rfl (by decide) (Nat.le_of_ble_eq_true rfl) rfl (c_X8_of _ ⟨t2, t4⟩ (by omega)) (fun r1 g9 ⟨q1, q2⟩ => ?_)
      subst q1; subst q2
      rw [zRow_same, standsF_of hu.1 hx.2 t2 (by decide) (Or.inl t6), layF_same]
      refine ZW.ireti dX8_fights_91 rfl ?_
      refine ⟨?_, ?_⟩
      · unfold fightsR
        rw [if_pos (by omega), hwv]
      · unfold fightsF
        rw [if_pos (by omega), ← hwv, if_pos c57]
        exact f8
-- moves
noncomputable def refMF (r : Int → Int) (u x : Int) : Int :=
  if isUnitB r u && isHexB x then (if ofF r u 0 = r 191 % 2 then (if ofF r u 2 = x then -5 else (if wayF r u x ≤ ofF r u 3 ∧ unitOnF r x = -5 then 0 else -4)) else -4) else -1
theorem isUnitB_t {r : Int → Int} (hk : okB r) {u : Int} (h : isUnitB r u = true) : 0 ≤ u ∧ u < r 192 ∧ u < 16 ∧ 0 < ofF r u 1 := by
  have h1 := of_decide_eq_true h
  have h2 := hk.2
  exact ⟨h1.1, h1.2.1, by omega, h1.2.2⟩
theorem wayF_R (r : Int → Int) (u x : Int) : 0 ≤ wayF r u x ∧ wayF r u x ≤ 1000 := by
  by_cases h : wayF r u x = 1000
  · omega
  · have := wayF_spec h
    omega
theorem c_X8_refusesMove (g : ZH) (hk : okB (g 101)) (hU : okU (g 101)) {u x : Int} (hu : zR u) (hx : zR x) : ZC 6 mX8_refusesMove [.inr 100, .inl u, .inl x] g (fun r g' => r = refMF (g 101) u x ∧ zFr [106, 107, 109] g g' ∧ (r = 0 → ∀ x, 0 ≤ x → x < 63 → g' 106 x = wayF (g 101) u x)) := by
  refine ZC.of (by decide +kernel) (Nat.le_of_ble_eq_true rfl) ?_
  refine ZW.aload_n dX8_refusesMove_0 rfl ?_
  refine ZW.iload_n dX8_refusesMove_1 rfl ?_
  refine ZW.callV (as := [_]) dX8_refusesMove_2 cv_X8_136 ⟨_, rfl⟩ rfl (by decide) (Nat.le_of_ble_eq_true rfl) rfl (c_X8_isUnit _ hk hu) (fun r1 g1 ⟨q1, q2⟩ => ?_)
  subst q1; subst q2
  refine ZW.if_eq (tgt := 15) dX8_refusesMove_5 (by decide) (by exact zB_R _) (fun c5 => ?_) (fun c5 => ?_)
  · have e := zB_eq c5
    refine ZW.iconst dX8_refusesMove_15 ?_
    refine ZW.ireti dX8_refusesMove_16 rfl ?_
    exact ⟨by unfold refMF; rw [e]; rfl, zFr.rf _ _, fun q => absurd q (by decide)⟩
  · have e := zB_ne c5
    have hu2 := isUnitB_t hk e
    refine ZW.iload_n dX8_refusesMove_8 rfl ?_
    refine ZW.callS (as := [_]) dX8_refusesMove_9 cs_X8_124 rfl (by decide) (Nat.le_of_ble_eq_true rfl) rfl (c_X8_isHex _ hx) (fun r1 g2 ⟨q1, q2⟩ => ?_)
    subst q1; subst q2
    refine ZW.if_ne (tgt := 17) dX8_refusesMove_12 (by decide) (by exact zB_R _) (fun c12 => ?_) (fun c12 => ?_)
    · have e2 := zB_ne c12
      have hx2 := isHexB_t e2
      refine ZW.aload_n dX8_refusesMove_17 rfl ?_
      refine ZW.iload_n dX8_refusesMove_18 rfl ?_
      refine ZW.callV (as := [_]) dX8_refusesMove_19 cv_X8_139 ⟨_, rfl⟩ rfl (by decide) (Nat.le_of_ble_eq_true rfl) rfl (c_X8_isAtTurn _ hk ⟨hu2.1, hu2.2.2.1⟩) (fun r1 g3 ⟨q1, q2⟩ => ?_)
      subst q1; subst q2
      refine ZW.if_ne (tgt := 28) dX8_refusesMove_22 (by decide) (by exact zB_R _) (fun c22 => ?_) (fun c22 => ?_)
      · have e3 := of_decide_eq_true (zB_ne c22)
        refine ZW.aload_n dX8_refusesMove_28 rfl ?_
        refine ZW.iload_n dX8_refusesMove_29 rfl ?_
        refine ZW.iconst dX8_refusesMove_30 ?_
        refine ZW.callV (as := [_, _]) dX8_refusesMove_31 cv_X8_52 ⟨_, rfl⟩ rfl (by decide) (Nat.le_of_ble_eq_true rfl) rfl (c_X8_of _ ⟨hu2.1, hu2.2.2.1⟩ (by omega)) (fun r1 g4 ⟨q1, q2⟩ => ?_)
        subst q1; subst q2
        have h2 := ofU_R hk (u := u) ⟨hu2.1, hu2.2.2.1⟩ (w := 2) (by omega)
        refine ZW.iload_n dX8_refusesMove_34 rfl ?_
        refine ZW.icmp_ne (tgt := 41) dX8_refusesMove_35 (by decide) (by omega) (by omega) (fun c35 => ?_) (fun c35 => ?_)
        · refine ZW.aload_n dX8_refusesMove_41 rfl ?_
          refine ZW.iload_n dX8_refusesMove_42 rfl ?_
          refine ZW.callVv (as := [_]) dX8_refusesMove_43 cv_X8_142 ⟨_, rfl⟩ rfl (by decide) (Nat.le_of_ble_eq_true rfl) rfl (fun _ _ hz _ => hz) (c_X8_laysWays _ hk hU ⟨hu2.1, hu2.2.2.1⟩) (fun g5 ⟨f5, w5⟩ => ?_)
          have e5 : g5 101 = g4 101 := f5 101 (by decide)
          have hwr := wayF_R (g4 101) u x
          refine ZW.aload_n dX8_refusesMove_46 rfl ?_
          refine ZW.iload_n dX8_refusesMove_47 rfl ?_
          refine ZW.iload_n dX8_refusesMove_48 rfl ?_
          refine ZW.callV (as := [_, _]) dX8_refusesMove_49 cv_X8_145 ⟨_, rfl⟩ rfl (by decide) (Nat.le_of_ble_eq_true rfl) rfl (c_X8_canReach _ (e5 ▸ hk) ⟨hu2.1, hu2.2.2.1⟩ hx2 (by rw [w5 x hx2.1 hx2.2]; omega)) (fun r1 g6 ⟨q1, q2⟩ => ?_)
          subst q1; subst q2
          rw [e5, w5 x hx2.1 hx2.2]
          refine ZW.if_eq (tgt := 59) dX8_refusesMove_52 (by decide) (by exact zB_R _) (fun c52 => ?_) (fun c52 => ?_)
          · have e6 := of_decide_eq_false (zB_eq c52)
            refine ZW.bipush dX8_refusesMove_59 rfl ?_
            refine ZW.ireti dX8_refusesMove_61 rfl ?_
            exact ⟨by unfold refMF; rw [e, e2]; simp only [Bool.and_self, if_true]; rw [if_pos e3, if_neg c35, if_neg e6], f5, fun q => absurd q (by decide)⟩
          · have e6 := of_decide_eq_true (zB_ne c52)
            refine ZW.iconst dX8_refusesMove_55 ?_
            refine ZW.goto (tgt := 61) dX8_refusesMove_56 (by decide) ?_
            refine ZW.ireti dX8_refusesMove_61 rfl ?_
            exact ⟨by unfold refMF; rw [e, e2]; simp only [Bool.and_self, if_true]; rw [if_pos e3, if_neg c35, if_pos e6], f5, fun _ => w5⟩
        · refine ZW.bipush dX8_refusesMove_38 rfl ?_
          refine ZW.ireti dX8_refusesMove_40 rfl ?_
          exact ⟨by unfold refMF; rw [e, e2]; simp only [Bool.and_self, if_true]; rw [if_pos e3, if_pos c35], zFr.rf _ _, fun q => absurd q (by decide)⟩
      · have e3 := of_decide_eq_false (zB_eq c22)
        refine ZW.bipush dX8_refusesMove_25 rfl ?_
        refine ZW.ireti dX8_refusesMove_27 rfl ?_
        exact ⟨by unfold refMF; rw [e, e2]; simp only [Bool.and_self, if_true]; rw [if_neg e3], zFr.rf _ _, fun q => absurd q (by decide)⟩
    · have e2 := zB_eq c12
      refine ZW.iconst dX8_refusesMove_15 ?_
      refine ZW.ireti dX8_refusesMove_16 rfl ?_
      exact ⟨by unfold refMF; rw [e, e2]; rfl, zFr.rf _ _, fun q => absurd q (by decide)⟩
noncomputable def movesF (r : Int → Int) (u x : Int) : Int → Int := standsF (layF r u 3 (ofF r u 3 - wayF r u x)) u x
noncomputable def movesR (r : Int → Int) (u x : Int) : Int := ofF r u 3 - wayF r u x
theorem c_X8_moves (g : ZH) (hk : okB (g 101)) {u x : Int} (hu : 0 ≤ u ∧ u < 16) (hx : 0 ≤ x ∧ x < 63) (hw : g 106 x = wayF (g 101) u x) (hle : wayF (g 101) u x ≤ ofF (g 101) u 3) : ZC 2 mX8_moves [.inr 100, .inl u, .inl x] g (fun r g' => r = movesR (g 101) u x ∧ g' = zRow g 101 (movesF (g 101) u x)) := by
  have h3 := ofF_R hk hu (w := 3) (by omega)
  have hwr := wayF_R (g 101) u x
  refine ZC.of (by decide +kernel) (Nat.le_of_ble_eq_true rfl) ?_
  refine ZW.aload_n dX8_moves_0 rfl ?_
  refine ZW.iload_n dX8_moves_1 rfl ?_
  refine ZW.iconst dX8_moves_2 ?_
  refine ZW.aload_n dX8_moves_3 rfl ?_
  refine ZW.iload_n dX8_moves_4 rfl ?_
  refine ZW.iconst dX8_moves_5 ?_
  refine ZW.callV (as := [_, _]) dX8_moves_6 cv_X8_52 ⟨_, rfl⟩ rfl (by decide) (Nat.le_of_ble_eq_true rfl) rfl (c_X8_of _ hu (by omega)) (fun r1 g1 ⟨q1, q2⟩ => ?_)
  subst q1; subst q2
  refine ZW.aload_n dX8_moves_9 rfl ?_
  refine ZW.getR dX8_moves_10 fl_X8_25 ⟨_, rfl, rfl⟩ ?_
  refine ZW.iload_n dX8_moves_13 rfl ?_
  refine ZW.iald dX8_moves_14 rfl (by decide) (by omega) rfl ?_
  rw [hw]
  refine ZW.isub dX8_moves_15 ?_
  refine ZW.callVv (as := [_, _, _]) dX8_moves_16 cv_X8_73 ⟨_, rfl⟩ rfl (by decide) (Nat.le_of_ble_eq_true rfl) rfl (fun _ _ hz _ => hz) (c_X8_layR _ hu (by omega)) (fun g1 q1 => ?_)
  subst q1
  refine ZW.aload_n dX8_moves_19 rfl ?_
  refine ZW.iload_n dX8_moves_20 rfl ?_
  refine ZW.iload_n dX8_moves_21 rfl ?_
  refine ZW.callVv (as := [_, _]) dX8_moves_22 cv_X8_120 ⟨_, rfl⟩ rfl (by decide) (Nat.le_of_ble_eq_true rfl) rfl (fun _ _ hz _ => hz) (c_X8_stands _ (by rw [zRow_same]; exact okB_lay hk hu.1 (by decide) (by omega)) hu hx) (fun g2 q1 => ?_)
  subst q1
  rw [zRow_same, zRow_row]
  refine ZW.aload_n dX8_moves_25 rfl ?_
  refine ZW.iload_n dX8_moves_26 rfl ?_
  refine ZW.iconst dX8_moves_27 ?_
  refine ZW.callV (as := [_, _]) dX8_moves_28 cv_X8_52 ⟨_, rfl⟩ rfl (by decide) (Nat.le_of_ble_eq_true rfl) rfl (c_X8_of _ hu (by omega)) (fun r1 g3 ⟨q1, q2⟩ => ?_)
  subst q1; subst q2
  rw [zRow_same, standsF_of hu.1 hx.2 hu.1 (by decide) (Or.inr (by decide)), layF_same]
  refine ZW.ireti dX8_moves_31 rfl ?_
  exact ⟨rfl, rfl⟩
def refAF (r : Int → Int) (u x : Int) : Int :=
  if isUnitB r u && isHexB x then (if ofF r u 0 = r 191 % 2 ∧ ofF r u 4 = 1 ∧ canF r u x = true then 0 else -4) else -1
theorem c_X8_refusesAttack (g : ZH) (hk : okB (g 101)) (hU : okU (g 101)) {u x : Int} (hu : zR u) (hx : zR x) : ZC 4 mX8_refusesAttack [.inr 100, .inl u, .inl x] g (fun r g' => r = refAF (g 101) u x ∧ g' = g) := by
  refine ZC.of (by decide +kernel) (Nat.le_of_ble_eq_true rfl) ?_
  refine ZW.aload_n dX8_refusesAttack_0 rfl ?_
  refine ZW.iload_n dX8_refusesAttack_1 rfl ?_
  refine ZW.callV (as := [_]) dX8_refusesAttack_2 cv_X8_136 ⟨_, rfl⟩ rfl (by decide) (Nat.le_of_ble_eq_true rfl) rfl (c_X8_isUnit _ hk hu) (fun r1 g1 ⟨q1, q2⟩ => ?_)
  subst q1; subst q2
  refine ZW.if_eq (tgt := 15) dX8_refusesAttack_5 (by decide) (by exact zB_R _) (fun c5 => ?_) (fun c5 => ?_)
  · have e := zB_eq c5
    refine ZW.iconst dX8_refusesAttack_15 ?_
    refine ZW.ireti dX8_refusesAttack_16 rfl ?_
    exact ⟨by unfold refAF; rw [e]; rfl, rfl⟩
  · have e := zB_ne c5
    have hu2 := isUnitB_t hk e
    refine ZW.iload_n dX8_refusesAttack_8 rfl ?_
    refine ZW.callS (as := [_]) dX8_refusesAttack_9 cs_X8_124 rfl (by decide) (Nat.le_of_ble_eq_true rfl) rfl (c_X8_isHex _ hx) (fun r1 g2 ⟨q1, q2⟩ => ?_)
    subst q1; subst q2
    refine ZW.if_ne (tgt := 17) dX8_refusesAttack_12 (by decide) (by exact zB_R _) (fun c12 => ?_) (fun c12 => ?_)
    · have e2 := zB_ne c12
      have hx2 := isHexB_t e2
      refine ZW.aload_n dX8_refusesAttack_17 rfl ?_
      refine ZW.iload_n dX8_refusesAttack_18 rfl ?_
      refine ZW.callV (as := [_]) dX8_refusesAttack_19 cv_X8_139 ⟨_, rfl⟩ rfl (by decide) (Nat.le_of_ble_eq_true rfl) rfl (c_X8_isAtTurn _ hk ⟨hu2.1, hu2.2.2.1⟩) (fun r1 g3 ⟨q1, q2⟩ => ?_)
      subst q1; subst q2
      refine ZW.if_eq (tgt := 48) dX8_refusesAttack_22 (by decide) (by exact zB_R _) (fun c22 => ?_) (fun c22 => ?_)
      · have e3 := of_decide_eq_false (zB_eq c22)
        refine ZW.bipush dX8_refusesAttack_48 rfl ?_
        refine ZW.ireti dX8_refusesAttack_50 rfl ?_
        exact ⟨by unfold refAF; rw [e, e2]; simp only [Bool.and_self, if_true]; rw [if_neg (fun q => e3 q.1)], rfl⟩
      · have e3 := of_decide_eq_true (zB_ne c22)
        refine ZW.aload_n dX8_refusesAttack_25 rfl ?_
        refine ZW.iload_n dX8_refusesAttack_26 rfl ?_
        refine ZW.iconst dX8_refusesAttack_27 ?_
        refine ZW.callV (as := [_, _]) dX8_refusesAttack_28 cv_X8_52 ⟨_, rfl⟩ rfl (by decide) (Nat.le_of_ble_eq_true rfl) rfl (c_X8_of _ ⟨hu2.1, hu2.2.2.1⟩ (by omega)) (fun r1 g4 ⟨q1, q2⟩ => ?_)
        subst q1; subst q2
        have h2 := ofU_R hk (u := u) ⟨hu2.1, hu2.2.2.1⟩ (w := 4) (by omega)
        refine ZW.iconst dX8_refusesAttack_31 ?_
        refine ZW.icmp_ne (tgt := 48) dX8_refusesAttack_32 (by decide) (by omega) (by omega) (fun c32 => ?_) (fun c32 => ?_)
        · refine ZW.bipush dX8_refusesAttack_48 rfl ?_
          refine ZW.ireti dX8_refusesAttack_50 rfl ?_
          exact ⟨by unfold refAF; rw [e, e2]; simp only [Bool.and_self, if_true]; rw [if_neg (fun q => c32 q.2.1)], rfl⟩
        · refine ZW.aload_n dX8_refusesAttack_35 rfl ?_
          refine ZW.iload_n dX8_refusesAttack_36 rfl ?_
          refine ZW.iload_n dX8_refusesAttack_37 rfl ?_
          refine ZW.callV (as := [_, _]) dX8_refusesAttack_38 cv_X8_154 ⟨_, rfl⟩ rfl (by decide) (Nat.le_of_ble_eq_true rfl) rfl (c_X8_canFight _ hk hU ⟨hu2.1, hu2.2.2.1⟩ hx2) (fun r1 g5 ⟨q1, q2⟩ => ?_)
          subst q1; subst q2
          refine ZW.if_eq (tgt := 48) dX8_refusesAttack_41 (by decide) (by exact zB_R _) (fun c41 => ?_) (fun c41 => ?_)
          · have e4 := zB_eq c41
            refine ZW.bipush dX8_refusesAttack_48 rfl ?_
            refine ZW.ireti dX8_refusesAttack_50 rfl ?_
            exact ⟨by unfold refAF; rw [e, e2]; simp only [Bool.and_self, if_true]; rw [if_neg (fun q => by rw [e4] at q; exact Bool.noConfusion q.2.2)], rfl⟩
          · have e4 := zB_ne c41
            refine ZW.iconst dX8_refusesAttack_44 ?_
            refine ZW.goto (tgt := 50) dX8_refusesAttack_45 (by decide) ?_
            refine ZW.ireti dX8_refusesAttack_50 rfl ?_
            exact ⟨by unfold refAF; rw [e, e2]; simp only [Bool.and_self, if_true]; rw [if_pos ⟨e3, c32, e4⟩], rfl⟩
    · have e2 := zB_eq c12
      refine ZW.iconst dX8_refusesAttack_15 ?_
      refine ZW.ireti dX8_refusesAttack_16 rfl ?_
      exact ⟨by unfold refAF; rw [e, e2]; rfl, rfl⟩
end
section
-- the reference: what is counted
def fortsF (r : Int → Int) (side : Int) : Int := cntF (fun x => zB (decide (r (126 + x) = side + 1))) 63 0
theorem c_X8_forts (g : ZH) (hk : okB (g 101)) {side : Int} (hs : 0 ≤ side ∧ side < 2) : ZC 0 mX8_forts [.inr 100, .inl side] g (fun r g' => r = fortsF (g 101) side ∧ g' = g) := by
  refine ZC.of (by decide +kernel) (Nat.le_of_ble_eq_true rfl) ?_
  have loop : ∀ (n : Nat) (x acc : Int), 0 ≤ x → x + n = 63 → ZW 0 mX8_forts 4 [some (.inr 100), some (.inl side), some (.inl acc), some (.inl x)] [] g (fun r g' => r = acc + cntF (fun x => zB (decide (g 101 (126 + x) = side + 1))) n x ∧ g' = g) := by
    intro n
    induction n with
    | zero =>
      intro x acc h0 hn
      refine ZW.iload_n dX8_forts_4 rfl ?_
      refine ZW.bipush dX8_forts_5 rfl ?_
      refine ZW.icmp_ge (tgt := 39) dX8_forts_7 (by decide) (by omega) (by omega) (fun c7 => ?_) (fun c7 => ?_)
      · refine ZW.iload_n dX8_forts_39 rfl ?_
        refine ZW.ireti dX8_forts_40 rfl ?_
        exact ⟨by simp [cntF], rfl⟩
      · exact absurd c7 (by omega)
    | succ n ih =>
      intro x acc h0 hn
      have h1 := hk.1 (126 + x) (by omega) (by omega)
      refine ZW.iload_n dX8_forts_4 rfl ?_
      refine ZW.bipush dX8_forts_5 rfl ?_
      refine ZW.icmp_ge (tgt := 39) dX8_forts_7 (by decide) (by omega) (by omega) (fun c7 => ?_) (fun c7 => ?_)
      · exact absurd c7 (by omega)
      · refine ZW.iload_n dX8_forts_10 rfl ?_
        refine ZW.aload_n dX8_forts_11 rfl ?_
        refine ZW.getR dX8_forts_12 fl_X8_7 ⟨_, rfl, rfl⟩ ?_
        refine ZW.bipush dX8_forts_15 rfl ?_
        refine ZW.iload_n dX8_forts_17 rfl ?_
        refine ZW.iadd dX8_forts_18 ?_
        refine ZW.iald dX8_forts_19 rfl (by decide) (by omega) rfl ?_
        refine ZW.iload_n dX8_forts_20 rfl ?_
        refine ZW.iconst dX8_forts_21 ?_
        refine ZW.iadd dX8_forts_22 ?_
        refine ZW.icmp_ne (tgt := 30) dX8_forts_23 (by decide) (by omega) (by omega) (fun c23 => ?_) (fun c23 => ?_)
        · refine ZW.iconst dX8_forts_30 ?_
          refine ZW.iadd dX8_forts_31 ?_
          refine ZW.istore_n dX8_forts_32 (by decide) rfl ?_
          refine ZW.iinc dX8_forts_33 rfl (by decide) rfl ?_
          refine ZW.goto (tgt := 4) dX8_forts_36 (by decide) ?_
          refine ZW.mono (ih (x + 1) _ (by omega) (by omega)) (fun r g' hh => ⟨?_, hh.2⟩)
          rw [hh.1]; simp [cntF, c23, zB]
        · refine ZW.iconst dX8_forts_26 ?_
          refine ZW.goto (tgt := 31) dX8_forts_27 (by decide) ?_
          refine ZW.iadd dX8_forts_31 ?_
          refine ZW.istore_n dX8_forts_32 (by decide) rfl ?_
          refine ZW.iinc dX8_forts_33 rfl (by decide) rfl ?_
          refine ZW.goto (tgt := 4) dX8_forts_36 (by decide) ?_
          refine ZW.mono (ih (x + 1) _ (by omega) (by omega)) (fun r g' hh => ⟨?_, hh.2⟩)
          rw [hh.1]; simp [cntF, c23, zB, Int.add_assoc]
  refine ZW.iconst dX8_forts_0 ?_
  refine ZW.istore_n dX8_forts_1 (by decide) rfl ?_
  refine ZW.iconst dX8_forts_2 ?_
  refine ZW.istore_n dX8_forts_3 (by decide) rfl ?_
  refine ZW.mono (loop 63 0 0 (by omega) (by omega)) (fun r g' hh => ⟨?_, hh.2⟩)
  rw [hh.1, Int.zero_add]; rfl
def riversF (r : Int → Int) : Int := cntF (fun x => cntF (fun d => zB (rivB r x d)) 3 0) 63 0
theorem c_X8_rivers (g : ZH) (hk : okB (g 101)) : ZC 1 mX8_rivers [.inr 100] g (fun r g' => r = riversF (g 101) ∧ g' = g) := by
  refine ZC.of (by decide +kernel) (Nat.le_of_ble_eq_true rfl) ?_
  have loopD : ∀ (n : Nat) (d x acc : Int) (Q : Int → ZH → Prop), 0 ≤ d → d + n = 3 → 0 ≤ x → x < 63 → (∀ o3 : Option ZV, ZW 1 mX8_rivers 40 [some (.inr 100), some (.inl (acc + cntF (fun d => zB (rivB (g 101) x d)) n d)), some (.inl x), o3] [] g Q) → ZW 1 mX8_rivers 12 [some (.inr 100), some (.inl acc), some (.inl x), some (.inl d)] [] g Q := by
    intro n
    induction n with
    | zero =>
      intro d x acc Q h0 hn hx hx2 k
      refine ZW.iload_n dX8_rivers_12 rfl ?_
      refine ZW.iconst dX8_rivers_13 ?_
      refine ZW.icmp_ge (tgt := 40) dX8_rivers_14 (by decide) (by omega) (by omega) (fun c14 => ?_) (fun c14 => ?_)
      · have h1 := k (some (.inl d))
        simp only [cntF, Int.add_zero] at h1
        exact h1
      · exact absurd c14 (by omega)
    | succ n ih =>
      intro d x acc Q h0 hn hx hx2 k
      refine ZW.iload_n dX8_rivers_12 rfl ?_
      refine ZW.iconst dX8_rivers_13 ?_
      refine ZW.icmp_ge (tgt := 40) dX8_rivers_14 (by decide) (by omega) (by omega) (fun c14 => ?_) (fun c14 => ?_)
      · exact absurd c14 (by omega)
      · refine ZW.iload_n dX8_rivers_17 rfl ?_
        refine ZW.aload_n dX8_rivers_18 rfl ?_
        refine ZW.iload_n dX8_rivers_19 rfl ?_
        refine ZW.iload_n dX8_rivers_20 rfl ?_
        refine ZW.callV (as := [_, _]) dX8_rivers_21 cv_X8_77 ⟨_, rfl⟩ rfl (by decide) (Nat.le_of_ble_eq_true rfl) rfl (c_X8_hasRiver _ hk ⟨hx, hx2⟩ ⟨h0, by omega⟩) (fun r1 g1 ⟨q1, q2⟩ => ?_)
        subst q1; subst q2
        refine ZW.if_eq (tgt := 31) dX8_rivers_24 (by decide) (by exact zB_R _) (fun c24 => ?_) (fun c24 => ?_)
        · have e := zB_eq c24
          refine ZW.iconst dX8_rivers_31 ?_
          refine ZW.iadd dX8_rivers_32 ?_
          refine ZW.istore_n dX8_rivers_33 (by decide) rfl ?_
          refine ZW.iinc dX8_rivers_34 rfl (by decide) rfl ?_
          refine ZW.goto (tgt := 12) dX8_rivers_37 (by decide) ?_
          refine ih (d + 1) x _ Q (by omega) (by omega) hx hx2 (fun o3 => ?_)
          have h1 := k o3
          simp only [cntF, e, zB_f, Int.zero_add] at h1
          rw [Int.add_zero]
          exact h1
        · have e := zB_ne c24
          refine ZW.iconst dX8_rivers_27 ?_
          refine ZW.goto (tgt := 32) dX8_rivers_28 (by decide) ?_
          refine ZW.iadd dX8_rivers_32 ?_
          refine ZW.istore_n dX8_rivers_33 (by decide) rfl ?_
          refine ZW.iinc dX8_rivers_34 rfl (by decide) rfl ?_
          refine ZW.goto (tgt := 12) dX8_rivers_37 (by decide) ?_
          refine ih (d + 1) x _ Q (by omega) (by omega) hx hx2 (fun o3 => ?_)
          have h1 := k o3
          simp only [cntF, e, zB_t] at h1
          rw [Int.add_assoc]
          exact h1
  have loop : ∀ (n : Nat) (x acc : Int) (o3 : Option ZV), 0 ≤ x → x + n = 63 → ZW 1 mX8_rivers 4 [some (.inr 100), some (.inl acc), some (.inl x), o3] [] g (fun r g' => r = acc + cntF (fun x => cntF (fun d => zB (rivB (g 101) x d)) 3 0) n x ∧ g' = g) := by
    intro n
    induction n with
    | zero =>
      intro x acc o3 h0 hn
      refine ZW.iload_n dX8_rivers_4 rfl ?_
      refine ZW.bipush dX8_rivers_5 rfl ?_
      refine ZW.icmp_ge (tgt := 46) dX8_rivers_7 (by decide) (by omega) (by omega) (fun c7 => ?_) (fun c7 => ?_)
      · refine ZW.iload_n dX8_rivers_46 rfl ?_
        refine ZW.ireti dX8_rivers_47 rfl ?_
        exact ⟨by simp [cntF], rfl⟩
      · exact absurd c7 (by omega)
    | succ n ih =>
      intro x acc o3 h0 hn
      refine ZW.iload_n dX8_rivers_4 rfl ?_
      refine ZW.bipush dX8_rivers_5 rfl ?_
      refine ZW.icmp_ge (tgt := 46) dX8_rivers_7 (by decide) (by omega) (by omega) (fun c7 => ?_) (fun c7 => ?_)
      · exact absurd c7 (by omega)
      · refine ZW.iconst dX8_rivers_10 ?_
        refine ZW.istore_n dX8_rivers_11 (by decide) rfl ?_
        refine loopD 3 0 x acc _ (by omega) (by omega) h0 (by omega) (fun o3 => ?_)
        refine ZW.iinc dX8_rivers_40 rfl (by decide) rfl ?_
        refine ZW.goto (tgt := 4) dX8_rivers_43 (by decide) ?_
        refine ZW.mono (ih (x + 1) _ _ (by omega) (by omega)) (fun r g' hh => ⟨?_, hh.2⟩)
        rw [hh.1, Int.add_assoc]; rfl
  refine ZW.iconst dX8_rivers_0 ?_
  refine ZW.istore_n dX8_rivers_1 (by decide) rfl ?_
  refine ZW.iconst dX8_rivers_2 ?_
  refine ZW.istore_n dX8_rivers_3 (by decide) rfl ?_
  refine ZW.mono (loop 63 0 0 _ (by omega) (by omega)) (fun r g' hh => ⟨?_, hh.2⟩)
  rw [hh.1, Int.zero_add]; rfl
def besF (x : Int) : Int := cntF (fun d => zB (decide (nextF x d ≠ -5))) 6 0
theorem c_X8_besides (g : ZH) {x : Int} (hx : 0 ≤ x ∧ x < 63) : ZC 2 mX8_besides [.inr 100, .inl x] g (fun r g' => r = besF x ∧ g' = g) := by
  refine ZC.of (by decide +kernel) (Nat.le_of_ble_eq_true rfl) ?_
  have loop : ∀ (n : Nat) (d acc : Int), 0 ≤ d → d + n = 6 → ZW 2 mX8_besides 4 [some (.inr 100), some (.inl x), some (.inl acc), some (.inl d)] [] g (fun r g' => r = acc + cntF (fun d => zB (decide (nextF x d ≠ -5))) n d ∧ g' = g) := by
    intro n
    induction n with
    | zero =>
      intro d acc h0 hn
      refine ZW.iload_n dX8_besides_4 rfl ?_
      refine ZW.bipush dX8_besides_5 rfl ?_
      refine ZW.icmp_ge (tgt := 34) dX8_besides_7 (by decide) (by omega) (by omega) (fun c7 => ?_) (fun c7 => ?_)
      · refine ZW.iload_n dX8_besides_34 rfl ?_
        refine ZW.ireti dX8_besides_35 rfl ?_
        exact ⟨by simp [cntF], rfl⟩
      · exact absurd c7 (by omega)
    | succ n ih =>
      intro d acc h0 hn
      have h1 := nextF_R' x d
      refine ZW.iload_n dX8_besides_4 rfl ?_
      refine ZW.bipush dX8_besides_5 rfl ?_
      refine ZW.icmp_ge (tgt := 34) dX8_besides_7 (by decide) (by omega) (by omega) (fun c7 => ?_) (fun c7 => ?_)
      · exact absurd c7 (by omega)
      · refine ZW.iload_n dX8_besides_10 rfl ?_
        refine ZW.iload_n dX8_besides_11 rfl ?_
        refine ZW.iload_n dX8_besides_12 rfl ?_
        refine ZW.callS (as := [_, _]) dX8_besides_13 cs_X8_59 rfl (by decide) (Nat.le_of_ble_eq_true rfl) rfl (c_X8_next _ hx (by omega)) (fun r1 g1 ⟨q1, q2⟩ => ?_)
        subst q1; subst q2
        refine ZW.bipush dX8_besides_16 rfl ?_
        refine ZW.icmp_ne (tgt := 25) dX8_besides_18 (by decide) (by omega) (by omega) (fun c18 => ?_) (fun c18 => ?_)
        · refine ZW.iconst dX8_besides_25 ?_
          refine ZW.iadd dX8_besides_26 ?_
          refine ZW.istore_n dX8_besides_27 (by decide) rfl ?_
          refine ZW.iinc dX8_besides_28 rfl (by decide) rfl ?_
          refine ZW.goto (tgt := 4) dX8_besides_31 (by decide) ?_
          refine ZW.mono (ih (d + 1) _ (by omega) (by omega)) (fun r g' hh => ⟨?_, hh.2⟩)
          rw [hh.1]; simp [cntF, c18, zB, Int.add_assoc]
        · refine ZW.iconst dX8_besides_21 ?_
          refine ZW.goto (tgt := 26) dX8_besides_22 (by decide) ?_
          refine ZW.iadd dX8_besides_26 ?_
          refine ZW.istore_n dX8_besides_27 (by decide) rfl ?_
          refine ZW.iinc dX8_besides_28 rfl (by decide) rfl ?_
          refine ZW.goto (tgt := 4) dX8_besides_31 (by decide) ?_
          refine ZW.mono (ih (d + 1) _ (by omega) (by omega)) (fun r g' hh => ⟨?_, hh.2⟩)
          rw [hh.1]; simp [cntF, c18, zB]
  refine ZW.iconst dX8_besides_0 ?_
  refine ZW.istore_n dX8_besides_1 (by decide) rfl ?_
  refine ZW.iconst dX8_besides_2 ?_
  refine ZW.istore_n dX8_besides_3 (by decide) rfl ?_
  refine ZW.mono (loop 6 0 0 (by omega) (by omega)) (fun r g' hh => ⟨?_, hh.2⟩)
  rw [hh.1, Int.zero_add]; rfl
noncomputable def canR (r : Int → Int) (u x : Int) : Bool := decide (wayF r u x ≤ ofF r u 3 ∧ unitOnF r x = -5)
noncomputable def reachF (r : Int → Int) (u : Int) : Int := cntF (fun x => zB (canR r u x)) 63 0
theorem c_X8_reaches (g : ZH) (hk : okB (g 101)) (hU : okU (g 101)) {u : Int} (hu : 0 ≤ u ∧ u < 16) : ZC 6 mX8_reaches [.inr 100, .inl u] g (fun r g' => r = reachF (g 101) u ∧ zFr [106, 107, 109] g g') := by
  refine ZC.of (by decide +kernel) (Nat.le_of_ble_eq_true rfl) ?_
  refine ZW.aload_n dX8_reaches_0 rfl ?_
  refine ZW.iload_n dX8_reaches_1 rfl ?_
  refine ZW.callVv (as := [_]) dX8_reaches_2 cv_X8_142 ⟨_, rfl⟩ rfl (by decide) (Nat.le_of_ble_eq_true rfl) rfl (fun _ _ hz _ => hz) (c_X8_laysWays _ hk hU hu) (fun g1 ⟨f1, w1⟩ => ?_)
  have e1 : g1 101 = g 101 := f1 101 (by decide)
  have loop : ∀ (n : Nat) (x acc : Int), 0 ≤ x → x + n = 63 → ZW 6 mX8_reaches 9 [some (.inr 100), some (.inl u), some (.inl acc), some (.inl x)] [] g1 (fun r g' => r = acc + cntF (fun x => zB (canR (g 101) u x)) n x ∧ zFr [106, 107, 109] g g') := by
    intro n
    induction n with
    | zero =>
      intro x acc h0 hn
      refine ZW.iload_n dX8_reaches_9 rfl ?_
      refine ZW.bipush dX8_reaches_10 rfl ?_
      refine ZW.icmp_ge (tgt := 38) dX8_reaches_12 (by decide) (by omega) (by omega) (fun c12 => ?_) (fun c12 => ?_)
      · refine ZW.iload_n dX8_reaches_38 rfl ?_
        refine ZW.ireti dX8_reaches_39 rfl ?_
        exact ⟨by simp [cntF], f1⟩
      · exact absurd c12 (by omega)
    | succ n ih =>
      intro x acc h0 hn
      have h1 := wayF_R (g 101) u x
      have h2 := w1 x h0 (by omega)
      refine ZW.iload_n dX8_reaches_9 rfl ?_
      refine ZW.bipush dX8_reaches_10 rfl ?_
      refine ZW.icmp_ge (tgt := 38) dX8_reaches_12 (by decide) (by omega) (by omega) (fun c12 => ?_) (fun c12 => ?_)
      · exact absurd c12 (by omega)
      · refine ZW.iload_n dX8_reaches_15 rfl ?_
        refine ZW.aload_n dX8_reaches_16 rfl ?_
        refine ZW.iload_n dX8_reaches_17 rfl ?_
        refine ZW.iload_n dX8_reaches_18 rfl ?_
        refine ZW.callV (as := [_, _]) dX8_reaches_19 cv_X8_145 ⟨_, rfl⟩ rfl (by decide) (Nat.le_of_ble_eq_true rfl) rfl (c_X8_canReach _ (e1 ▸ hk) hu ⟨h0, by omega⟩ (by rw [h2]; omega)) (fun r1 g2 ⟨q1, q2⟩ => ?_)
        subst q1; subst q2
        rw [e1, h2]
        refine ZW.if_eq (tgt := 29) dX8_reaches_22 (by decide) (by exact zB_R _) (fun c22 => ?_) (fun c22 => ?_)
        · have e : canR (g 101) u x = false := zB_eq c22
          refine ZW.iconst dX8_reaches_29 ?_
          refine ZW.iadd dX8_reaches_30 ?_
          refine ZW.istore_n dX8_reaches_31 (by decide) rfl ?_
          refine ZW.iinc dX8_reaches_32 rfl (by decide) rfl ?_
          refine ZW.goto (tgt := 9) dX8_reaches_35 (by decide) ?_
          refine ZW.mono (ih (x + 1) _ (by omega) (by omega)) (fun r g' hh => ⟨?_, hh.2⟩)
          rw [hh.1]; simp [cntF, e, zB]
        · have e : canR (g 101) u x = true := zB_ne c22
          refine ZW.iconst dX8_reaches_25 ?_
          refine ZW.goto (tgt := 30) dX8_reaches_26 (by decide) ?_
          refine ZW.iadd dX8_reaches_30 ?_
          refine ZW.istore_n dX8_reaches_31 (by decide) rfl ?_
          refine ZW.iinc dX8_reaches_32 rfl (by decide) rfl ?_
          refine ZW.goto (tgt := 9) dX8_reaches_35 (by decide) ?_
          refine ZW.mono (ih (x + 1) _ (by omega) (by omega)) (fun r g' hh => ⟨?_, hh.2⟩)
          rw [hh.1]; simp [cntF, e, zB, Int.add_assoc]
  refine ZW.iconst dX8_reaches_5 ?_
  refine ZW.istore_n dX8_reaches_6 (by decide) rfl ?_
  refine ZW.iconst dX8_reaches_7 ?_
  refine ZW.istore_n dX8_reaches_8 (by decide) rfl ?_
  refine ZW.mono (loop 63 0 0 (by omega) (by omega)) (fun r g' hh => ⟨?_, hh.2⟩)
  rw [hh.1, Int.zero_add]; rfl
def uoW (r : Int → Int) (side what u : Int) : Int := if 0 < ofF r u 1 ∧ ofF r u 0 = side then (if what = 1 then ofF r u 1 else 1) else 0
def unitsF (r : Int → Int) (side what : Int) : Int := cntF (uoW r side what) (r 192).toNat 0
theorem c_X8_unitsOf (g : ZH) (hk : okB (g 101)) {side what : Int} (hs : 0 ≤ side ∧ side < 2) (hw : zR what) : ZC 1 mX8_unitsOf [.inr 100, .inl side, .inl what] g (fun r g' => r = unitsF (g 101) side what ∧ g' = g) := by
  have h192 := hk.1 192 (by decide) (by decide)
  have h16 := hk.2
  refine ZC.of (by decide +kernel) (Nat.le_of_ble_eq_true rfl) ?_
  have loop : ∀ (n : Nat) (u acc : Int) (o5 : Option ZV), 0 ≤ u → u + n = g 101 192 → ZW 1 mX8_unitsOf 5 [some (.inr 100), some (.inl side), some (.inl what), some (.inl acc), some (.inl u), o5] [] g (fun r g' => r = acc + cntF (uoW (g 101) side what) n u ∧ g' = g) := by
    intro n
    induction n with
    | zero =>
      intro u acc o5 h0 hn
      refine ZW.iload dX8_unitsOf_5 rfl ?_
      refine ZW.aload_n dX8_unitsOf_7 rfl ?_
      refine ZW.getR dX8_unitsOf_8 fl_X8_7 ⟨_, rfl, rfl⟩ ?_
      refine ZW.sipush dX8_unitsOf_11 rfl ?_
      refine ZW.iald dX8_unitsOf_14 rfl (by decide) (by omega) rfl ?_
      refine ZW.icmp_ge (tgt := 80) dX8_unitsOf_15 (by decide) (by omega) (by omega) (fun c15 => ?_) (fun c15 => ?_)
      · refine ZW.iload_n dX8_unitsOf_80 rfl ?_
        refine ZW.ireti dX8_unitsOf_81 rfl ?_
        exact ⟨by simp [cntF], rfl⟩
      · exact absurd c15 (by omega)
    | succ n ih =>
      intro u acc o5 h0 hn
      have r0 := ofU_R hk (u := u) ⟨h0, by omega⟩ (w := 0) (by omega)
      have r1 := ofU_R hk (u := u) ⟨h0, by omega⟩ (w := 1) (by omega)
      have fin : ∀ (v : Int) (o5 : Option ZV), v = acc + uoW (g 101) side what u → ZW 1 mX8_unitsOf 5 [some (.inr 100), some (.inl side), some (.inl what), some (.inl v), some (.inl (u + 1)), o5] [] g (fun r g' => r = acc + cntF (uoW (g 101) side what) (n + 1) u ∧ g' = g) := by
        intro v o5 hv
        refine ZW.mono (ih (u + 1) v o5 (by omega) (by omega)) (fun r g' hh => ⟨?_, hh.2⟩)
        rw [hh.1, hv, Int.add_assoc]; rfl
      have no : ¬ (0 < ofF (g 101) u 1 ∧ ofF (g 101) u 0 = side) → ∀ o5 : Option ZV, ZW 1 mX8_unitsOf 43 [some (.inr 100), some (.inl side), some (.inl what), some (.inl acc), some (.inl u), o5] [] g (fun r g' => r = acc + cntF (uoW (g 101) side what) (n + 1) u ∧ g' = g) := by
        intro hno o5
        refine ZW.iconst dX8_unitsOf_43 ?_
        refine ZW.istore dX8_unitsOf_44 (by decide) rfl ?_
        refine ZW.iload_n dX8_unitsOf_46 rfl ?_
        refine ZW.iload dX8_unitsOf_47 rfl ?_
        refine ZW.if_ne (tgt := 56) dX8_unitsOf_49 (by decide) (by omega) (fun c49 => ?_) (fun c49 => ?_)
        · exact absurd rfl c49
        · refine ZW.iconst dX8_unitsOf_52 ?_
          refine ZW.goto (tgt := 72) dX8_unitsOf_53 (by decide) ?_
          refine ZW.iadd dX8_unitsOf_72 ?_
          refine ZW.istore_n dX8_unitsOf_73 (by decide) rfl ?_
          refine ZW.iinc dX8_unitsOf_74 rfl (by decide) rfl ?_
          refine ZW.goto (tgt := 5) dX8_unitsOf_77 (by decide) ?_
          exact fin _ _ (by unfold uoW; rw [if_neg hno])
      refine ZW.iload dX8_unitsOf_5 rfl ?_
      refine ZW.aload_n dX8_unitsOf_7 rfl ?_
      refine ZW.getR dX8_unitsOf_8 fl_X8_7 ⟨_, rfl, rfl⟩ ?_
      refine ZW.sipush dX8_unitsOf_11 rfl ?_
      refine ZW.iald dX8_unitsOf_14 rfl (by decide) (by omega) rfl ?_
      refine ZW.icmp_ge (tgt := 80) dX8_unitsOf_15 (by decide) (by omega) (by omega) (fun c15 => ?_) (fun c15 => ?_)
      · exact absurd c15 (by omega)
      · refine ZW.aload_n dX8_unitsOf_18 rfl ?_
        refine ZW.iload dX8_unitsOf_19 rfl ?_
        refine ZW.iconst dX8_unitsOf_21 ?_
        refine ZW.callV (as := [_, _]) dX8_unitsOf_22 cv_X8_52 ⟨_, rfl⟩ rfl (by decide) (Nat.le_of_ble_eq_true rfl) rfl (c_X8_of _ ⟨h0, by omega⟩ (by omega)) (fun v1 g1 ⟨q1, q2⟩ => ?_)
        subst q1; subst q2
        refine ZW.if_le (tgt := 43) dX8_unitsOf_25 (by decide) (by omega) (fun c25 => ?_) (fun c25 => ?_)
        · exact no (by omega) _
        · refine ZW.aload_n dX8_unitsOf_28 rfl ?_
          refine ZW.iload dX8_unitsOf_29 rfl ?_
          refine ZW.iconst dX8_unitsOf_31 ?_
          refine ZW.callV (as := [_, _]) dX8_unitsOf_32 cv_X8_52 ⟨_, rfl⟩ rfl (by decide) (Nat.le_of_ble_eq_true rfl) rfl (c_X8_of _ ⟨h0, by omega⟩ (by omega)) (fun v1 g2 ⟨q1, q2⟩ => ?_)
          subst q1; subst q2
          refine ZW.iload_n dX8_unitsOf_35 rfl ?_
          refine ZW.icmp_ne (tgt := 43) dX8_unitsOf_36 (by decide) (by omega) (by omega) (fun c36 => ?_) (fun c36 => ?_)
          · exact no (fun q => c36 q.2) _
          · refine ZW.iconst dX8_unitsOf_39 ?_
            refine ZW.goto (tgt := 44) dX8_unitsOf_40 (by decide) ?_
            refine ZW.istore dX8_unitsOf_44 (by decide) rfl ?_
            refine ZW.iload_n dX8_unitsOf_46 rfl ?_
            refine ZW.iload dX8_unitsOf_47 rfl ?_
            refine ZW.if_ne (tgt := 56) dX8_unitsOf_49 (by decide) (by omega) (fun c49 => ?_) (fun c49 => ?_)
            · refine ZW.iload_n dX8_unitsOf_56 rfl ?_
              refine ZW.iconst dX8_unitsOf_57 ?_
              refine ZW.icmp_ne (tgt := 71) dX8_unitsOf_58 (by decide) (by omega) (by omega) (fun c58 => ?_) (fun c58 => ?_)
              · refine ZW.iconst dX8_unitsOf_71 ?_
                refine ZW.iadd dX8_unitsOf_72 ?_
                refine ZW.istore_n dX8_unitsOf_73 (by decide) rfl ?_
                refine ZW.iinc dX8_unitsOf_74 rfl (by decide) rfl ?_
                refine ZW.goto (tgt := 5) dX8_unitsOf_77 (by decide) ?_
                exact fin _ _ (by unfold uoW; rw [if_pos ⟨c25, c36⟩, if_neg c58])
              · refine ZW.aload_n dX8_unitsOf_61 rfl ?_
                refine ZW.iload dX8_unitsOf_62 rfl ?_
                refine ZW.iconst dX8_unitsOf_64 ?_
                refine ZW.callV (as := [_, _]) dX8_unitsOf_65 cv_X8_52 ⟨_, rfl⟩ rfl (by decide) (Nat.le_of_ble_eq_true rfl) rfl (c_X8_of _ ⟨h0, by omega⟩ (by omega)) (fun v1 g3 ⟨q1, q2⟩ => ?_)
                subst q1; subst q2
                refine ZW.goto (tgt := 72) dX8_unitsOf_68 (by decide) ?_
                refine ZW.iadd dX8_unitsOf_72 ?_
                refine ZW.istore_n dX8_unitsOf_73 (by decide) rfl ?_
                refine ZW.iinc dX8_unitsOf_74 rfl (by decide) rfl ?_
                refine ZW.goto (tgt := 5) dX8_unitsOf_77 (by decide) ?_
                exact fin _ _ (by unfold uoW; rw [if_pos ⟨c25, c36⟩, if_pos c58])
            · exact absurd c49 (by decide)
  refine ZW.iconst dX8_unitsOf_0 ?_
  refine ZW.istore_n dX8_unitsOf_1 (by decide) rfl ?_
  refine ZW.iconst dX8_unitsOf_2 ?_
  refine ZW.istore dX8_unitsOf_3 (by decide) rfl ?_
  refine ZW.mono (loop (g 101 192).toNat 0 0 _ (by omega) (by omega)) (fun r g' hh => ⟨?_, hh.2⟩)
  rw [hh.1, Int.zero_add]; rfl
def seenF (r : Int → Int) (side : Int) : Int := cntF (fun x => zB (seesF r side x)) 63 0
theorem seesF_same {g g1 : ZH} (h : g1 101 = g 101) : seesF (g1 101) = seesF (g 101) := by rw [h]
theorem c_X8_seen (g : ZH) (hk : okB (g 101)) (hU : okU (g 101)) {side : Int} (hs : 0 ≤ side ∧ side < 2) : ZC 4 mX8_seen [.inr 100, .inl side] g (fun r g' => r = seenF (g 101) side ∧ zFr [108] g g') := by
  refine ZC.of (by decide +kernel) (Nat.le_of_ble_eq_true rfl) ?_
  have loop : ∀ (n : Nat) (x acc : Int) (g1 : ZH), 0 ≤ x → x + n = 63 → zFr [108] g g1 → ZW 4 mX8_seen 4 [some (.inr 100), some (.inl side), some (.inl acc), some (.inl x)] [] g1 (fun r g' => r = acc + cntF (fun x => zB (seesF (g 101) side x)) n x ∧ zFr [108] g g') := by
    intro n
    induction n with
    | zero =>
      intro x acc g1 h0 hn hf
      refine ZW.iload_n dX8_seen_4 rfl ?_
      refine ZW.bipush dX8_seen_5 rfl ?_
      refine ZW.icmp_ge (tgt := 33) dX8_seen_7 (by decide) (by omega) (by omega) (fun c7 => ?_) (fun c7 => ?_)
      · refine ZW.iload_n dX8_seen_33 rfl ?_
        refine ZW.ireti dX8_seen_34 rfl ?_
        exact ⟨by simp [cntF], hf⟩
      · exact absurd c7 (by omega)
    | succ n ih =>
      intro x acc g1 h0 hn hf
      have e1 : g1 101 = g 101 := hf 101 (by decide)
      refine ZW.iload_n dX8_seen_4 rfl ?_
      refine ZW.bipush dX8_seen_5 rfl ?_
      refine ZW.icmp_ge (tgt := 33) dX8_seen_7 (by decide) (by omega) (by omega) (fun c7 => ?_) (fun c7 => ?_)
      · exact absurd c7 (by omega)
      · refine ZW.iload_n dX8_seen_10 rfl ?_
        refine ZW.aload_n dX8_seen_11 rfl ?_
        refine ZW.iload_n dX8_seen_12 rfl ?_
        refine ZW.iload_n dX8_seen_13 rfl ?_
        refine ZW.callV (as := [_, _]) dX8_seen_14 cv_X8_203 ⟨_, rfl⟩ rfl (by decide) (Nat.le_of_ble_eq_true rfl) rfl (c_X8_sees _ (e1 ▸ hk) (e1 ▸ hU) hs ⟨h0, by omega⟩) (fun r1 g2 ⟨q1, f2⟩ => ?_)
        subst q1
        rw [e1]
        refine ZW.if_eq (tgt := 24) dX8_seen_17 (by decide) (by exact zB_R _) (fun c17 => ?_) (fun c17 => ?_)
        · have e := zB_eq c17
          refine ZW.iconst dX8_seen_24 ?_
          refine ZW.iadd dX8_seen_25 ?_
          refine ZW.istore_n dX8_seen_26 (by decide) rfl ?_
          refine ZW.iinc dX8_seen_27 rfl (by decide) rfl ?_
          refine ZW.goto (tgt := 4) dX8_seen_30 (by decide) ?_
          refine ZW.mono (ih (x + 1) _ _ (by omega) (by omega) (hf.tr f2)) (fun r g' hh => ⟨?_, hh.2⟩)
          rw [hh.1]; simp [cntF, e, zB]
        · have e := zB_ne c17
          refine ZW.iconst dX8_seen_20 ?_
          refine ZW.goto (tgt := 25) dX8_seen_21 (by decide) ?_
          refine ZW.iadd dX8_seen_25 ?_
          refine ZW.istore_n dX8_seen_26 (by decide) rfl ?_
          refine ZW.iinc dX8_seen_27 rfl (by decide) rfl ?_
          refine ZW.goto (tgt := 4) dX8_seen_30 (by decide) ?_
          refine ZW.mono (ih (x + 1) _ _ (by omega) (by omega) (hf.tr f2)) (fun r g' hh => ⟨?_, hh.2⟩)
          rw [hh.1]; simp [cntF, e, zB, Int.add_assoc]
  refine ZW.iconst dX8_seen_0 ?_
  refine ZW.istore_n dX8_seen_1 (by decide) rfl ?_
  refine ZW.iconst dX8_seen_2 ?_
  refine ZW.istore_n dX8_seen_3 (by decide) rfl ?_
  refine ZW.mono (loop 63 0 0 g (by omega) (by omega) (zFr.rf _ _)) (fun r g' hh => ⟨?_, hh.2⟩)
  rw [hh.1, Int.zero_add]; rfl
-- rows that are copied
theorem c_X8_putAside (g : ZH) : ZC 0 mX8_putAside [.inr 100] g (fun _ g' => zFr [102] g g' ∧ ∀ i, 0 ≤ i → i < 289 → g' 102 i = g 101 i) := by
  refine ZC.of (by decide +kernel) (Nat.le_of_ble_eq_true rfl) ?_
  have loop : ∀ (n : Nat) (x : Int) (g1 : ZH), 0 ≤ x → x + n = 289 → zFr [102] g g1 → (∀ i, 0 ≤ i → i < x → g1 102 i = g 101 i) → ZW 0 mX8_putAside 2 [some (.inr 100), some (.inl x)] [] g1 (fun _ g' => zFr [102] g g' ∧ ∀ i, 0 ≤ i → i < 289 → g' 102 i = g 101 i) := by
    intro n
    induction n with
    | zero =>
      intro x g1 h0 hn hf hz
      refine ZW.iload_n dX8_putAside_2 rfl ?_
      refine ZW.sipush dX8_putAside_3 rfl ?_
      refine ZW.icmp_ge (tgt := 27) dX8_putAside_6 (by decide) (by omega) (by omega) (fun c6 => ?_) (fun c6 => ?_)
      · refine ZW.vret dX8_putAside_27 rfl ?_
        exact ⟨hf, fun i i0 i1 => hz i i0 (by omega)⟩
      · exact absurd c6 (by omega)
    | succ n ih =>
      intro x g1 h0 hn hf hz
      have e1 : g1 101 = g 101 := hf 101 (by decide)
      refine ZW.iload_n dX8_putAside_2 rfl ?_
      refine ZW.sipush dX8_putAside_3 rfl ?_
      refine ZW.icmp_ge (tgt := 27) dX8_putAside_6 (by decide) (by omega) (by omega) (fun c6 => ?_) (fun c6 => ?_)
      · exact absurd c6 (by omega)
      · refine ZW.aload_n dX8_putAside_9 rfl ?_
        refine ZW.getR dX8_putAside_10 fl_X8_13 ⟨_, rfl, rfl⟩ ?_
        refine ZW.iload_n dX8_putAside_13 rfl ?_
        refine ZW.aload_n dX8_putAside_14 rfl ?_
        refine ZW.getR dX8_putAside_15 fl_X8_7 ⟨_, rfl, rfl⟩ ?_
        refine ZW.iload_n dX8_putAside_18 rfl ?_
        refine ZW.iald dX8_putAside_19 rfl (by decide) (by omega) rfl ?_
        refine ZW.iast dX8_putAside_20 rfl (by decide) (by omega) ?_
        refine ZW.iinc dX8_putAside_21 rfl (by decide) rfl ?_
        refine ZW.goto (tgt := 2) dX8_putAside_24 (by decide) ?_
        refine ih (x + 1) _ (by omega) (by omega) (hf.set (by decide) _ _) (fun i i0 i1 => ?_)
        rw [zSet_same]
        by_cases q : i = x
        · rw [q, zUp_same, e1]
        · rw [zUp_ne _ _ q]; exact hz i i0 (by omega)
  refine ZW.iconst dX8_putAside_0 ?_
  refine ZW.istore_n dX8_putAside_1 (by decide) rfl ?_
  exact loop 289 0 g (by omega) (by omega) (zFr.rf _ _) (fun i i0 i1 => by omega)
def zBack (f f2 : Int → Int) : Int → Int := fun i => if 0 ≤ i ∧ i < 289 then f i else f2 i
/-- rows that are written one after the other from below: those below x are -/
def zPart (f f2 : Int → Int) (x : Int) : Int → Int := fun i => if 0 ≤ i ∧ i < x then f i else f2 i
theorem zPart_0 (f f2 : Int → Int) : zPart f f2 0 = f2 := by
  funext i
  unfold zPart
  rw [if_neg (by omega)]
theorem zPart_up (f f2 : Int → Int) {x : Int} (hx : 0 ≤ x) : zUp (zPart f f2 x) x (f x) = zPart f f2 (x + 1) := by
  funext i
  by_cases q : i = x
  · rw [q, zUp_same]
    unfold zPart
    rw [if_pos (by omega)]
  · rw [zUp_ne _ _ q]
    unfold zPart
    by_cases q2 : 0 ≤ i ∧ i < x
    · rw [if_pos q2, if_pos (by omega)]
    · rw [if_neg q2, if_neg (by omega)]
theorem c_X8_takeBack (g : ZH) : ZC 0 mX8_takeBack [.inr 100] g (fun _ g' => g' = zRow g 101 (zPart (g 102) (g 101) 289)) := by
  refine ZC.of (by decide +kernel) (Nat.le_of_ble_eq_true rfl) ?_
  have loop : ∀ (n : Nat) (x : Int), 0 ≤ x → x + n = 289 → ZW 0 mX8_takeBack 2 [some (.inr 100), some (.inl x)] [] (zRow g 101 (zPart (g 102) (g 101) x)) (fun _ g' => g' = zRow g 101 (zPart (g 102) (g 101) 289)) := by
    intro n
    induction n with
    | zero =>
      intro x h0 hn
      refine ZW.iload_n dX8_takeBack_2 rfl ?_
      refine ZW.sipush dX8_takeBack_3 rfl ?_
      refine ZW.icmp_ge (tgt := 27) dX8_takeBack_6 (by decide) (by omega) (by omega) (fun c6 => ?_) (fun c6 => ?_)
      · refine ZW.vret dX8_takeBack_27 rfl ?_
        rw [show x = 289 by omega]
      · exact absurd c6 (by omega)
    | succ n ih =>
      intro x h0 hn
      refine ZW.iload_n dX8_takeBack_2 rfl ?_
      refine ZW.sipush dX8_takeBack_3 rfl ?_
      refine ZW.icmp_ge (tgt := 27) dX8_takeBack_6 (by decide) (by omega) (by omega) (fun c6 => ?_) (fun c6 => ?_)
      · exact absurd c6 (by omega)
      · refine ZW.aload_n dX8_takeBack_9 rfl ?_
        refine ZW.getR dX8_takeBack_10 fl_X8_7 ⟨_, rfl, rfl⟩ ?_
        refine ZW.iload_n dX8_takeBack_13 rfl ?_
        refine ZW.aload_n dX8_takeBack_14 rfl ?_
        refine ZW.getR dX8_takeBack_15 fl_X8_13 ⟨_, rfl, rfl⟩ ?_
        refine ZW.iload_n dX8_takeBack_18 rfl ?_
        refine ZW.iald dX8_takeBack_19 rfl (by decide) (by omega) rfl ?_
        refine ZW.iast dX8_takeBack_20 rfl (by decide) (by omega) ?_
        refine ZW.iinc dX8_takeBack_21 rfl (by decide) rfl ?_
        refine ZW.goto (tgt := 2) dX8_takeBack_24 (by decide) ?_
        rw [zRow_ne _ _ (show (102 : Nat) ≠ 101 by decide), zSet_up, zPart_up _ _ h0]
        exact ih (x + 1) (by omega) (by omega)
  refine ZW.iconst dX8_takeBack_0 ?_
  refine ZW.istore_n dX8_takeBack_1 (by decide) rfl ?_
  have h1 := loop 289 0 (by omega) (by omega)
  rw [zPart_0, zRow_self] at h1
  exact h1
end
section
theorem mm_last : True := True.intro
end
