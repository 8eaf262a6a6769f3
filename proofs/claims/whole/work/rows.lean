section
-- ===== PART A: goes FIRST, ahead of the names: the tables' words, and 'selects' of the private methods out of them =====
/-- a private method of a class that the tables say can be made, by its rows of tables_1 -/
def lw_okq (q : MethodName × Nat) : Prop := (q.1.cls ≠ "java/lang/invoke/MethodHandle" ∧ q.1.cls ≠ "java/lang/invoke/VarHandle") ∧ Cond.instantiable q.1.cls q.2 ∈ tables_1 ∧ Cond.privateMethod q.1 ∈ tables_1 ∧ Cond.instanceMethod q.1 ∈ tables_1
theorem lw_p0 : lw_okq (⟨"EveningCloak", "finding", "(I)I"⟩, 7) := ⟨⟨by decide +kernel, by decide +kernel⟩, List.mem_of_getElem? (i := 15) (by decide +kernel), List.mem_of_getElem? (i := 183) (by decide +kernel), List.mem_of_getElem? (i := 184) (by decide +kernel)⟩
theorem lw_p1 : lw_okq (⟨"EveningCloak", "tryDays", "(I)V"⟩, 7) := ⟨⟨by decide +kernel, by decide +kernel⟩, List.mem_of_getElem? (i := 15) (by decide +kernel), List.mem_of_getElem? (i := 347) (by decide +kernel), List.mem_of_getElem? (i := 348) (by decide +kernel)⟩
theorem lw_p2 : lw_okq (⟨"EveningCloak", "fewestDays", "(III)I"⟩, 7) := ⟨⟨by decide +kernel, by decide +kernel⟩, List.mem_of_getElem? (i := 15) (by decide +kernel), List.mem_of_getElem? (i := 370) (by decide +kernel), List.mem_of_getElem? (i := 371) (by decide +kernel)⟩
theorem lw_p3 : lw_okq (⟨"EveningCloak", "bestFor", "(III)I"⟩, 7) := ⟨⟨by decide +kernel, by decide +kernel⟩, List.mem_of_getElem? (i := 15) (by decide +kernel), List.mem_of_getElem? (i := 390) (by decide +kernel), List.mem_of_getElem? (i := 391) (by decide +kernel)⟩
theorem lw_p4 : lw_okq (⟨"EveningCloak", "dreamOfLastStand", "(II)I"⟩, 7) := ⟨⟨by decide +kernel, by decide +kernel⟩, List.mem_of_getElem? (i := 15) (by decide +kernel), List.mem_of_getElem? (i := 411) (by decide +kernel), List.mem_of_getElem? (i := 412) (by decide +kernel)⟩
theorem lw_p5 : lw_okq (⟨"EveningCloak", "nobodyMeets", "(II)Z"⟩, 7) := ⟨⟨by decide +kernel, by decide +kernel⟩, List.mem_of_getElem? (i := 15) (by decide +kernel), List.mem_of_getElem? (i := 420) (by decide +kernel), List.mem_of_getElem? (i := 421) (by decide +kernel)⟩
theorem lw_p6 : lw_okq (⟨"EveningCloak", "refusedAsTold", "(II)I"⟩, 7) := ⟨⟨by decide +kernel, by decide +kernel⟩, List.mem_of_getElem? (i := 15) (by decide +kernel), List.mem_of_getElem? (i := 438) (by decide +kernel), List.mem_of_getElem? (i := 439) (by decide +kernel)⟩
theorem lw_p7 : lw_okq (⟨"EveningCloak", "setAsTold", "(ILEveningCloak$Sheet;I)I"⟩, 7) := ⟨⟨by decide +kernel, by decide +kernel⟩, List.mem_of_getElem? (i := 15) (by decide +kernel), List.mem_of_getElem? (i := 449) (by decide +kernel), List.mem_of_getElem? (i := 450) (by decide +kernel)⟩
theorem lw_p8 : lw_okq (⟨"EveningCloak", "trialIsAsTold", "(LEveningCloak$Sheet;)Z"⟩, 7) := ⟨⟨by decide +kernel, by decide +kernel⟩, List.mem_of_getElem? (i := 15) (by decide +kernel), List.mem_of_getElem? (i := 453) (by decide +kernel), List.mem_of_getElem? (i := 454) (by decide +kernel)⟩
theorem lw_p9 : lw_okq (⟨"EveningCloak$Reader", "step", "()V"⟩, 6) := ⟨⟨by decide +kernel, by decide +kernel⟩, List.mem_of_getElem? (i := 105) (by decide +kernel), List.mem_of_getElem? (i := 502) (by decide +kernel), List.mem_of_getElem? (i := 503) (by decide +kernel)⟩
theorem lw_p10 : lw_okq (⟨"EveningCloak$Reader", "readItem", "(LEveningCloak$Room;)Z"⟩, 6) := ⟨⟨by decide +kernel, by decide +kernel⟩, List.mem_of_getElem? (i := 105) (by decide +kernel), List.mem_of_getElem? (i := 513) (by decide +kernel), List.mem_of_getElem? (i := 514) (by decide +kernel)⟩
theorem lw_p11 : lw_okq (⟨"EveningCloak$Reader", "isWord", "(Ljava/lang/String;)Z"⟩, 6) := ⟨⟨by decide +kernel, by decide +kernel⟩, List.mem_of_getElem? (i := 105) (by decide +kernel), List.mem_of_getElem? (i := 518) (by decide +kernel), List.mem_of_getElem? (i := 519) (by decide +kernel)⟩
theorem lw_p12 : lw_okq (⟨"EveningCloak$Reader", "readGirl", "(LEveningCloak$Room;)Z"⟩, 6) := ⟨⟨by decide +kernel, by decide +kernel⟩, List.mem_of_getElem? (i := 105) (by decide +kernel), List.mem_of_getElem? (i := 570) (by decide +kernel), List.mem_of_getElem? (i := 571) (by decide +kernel)⟩
theorem lw_p13 : lw_okq (⟨"EveningCloak$Reader", "isNumber", "(II)Z"⟩, 6) := ⟨⟨by decide +kernel, by decide +kernel⟩, List.mem_of_getElem? (i := 105) (by decide +kernel), List.mem_of_getElem? (i := 576) (by decide +kernel), List.mem_of_getElem? (i := 577) (by decide +kernel)⟩
theorem lw_p14 : lw_okq (⟨"EveningCloak$Reader", "readStand", "(LEveningCloak$Room;)Z"⟩, 6) := ⟨⟨by decide +kernel, by decide +kernel⟩, List.mem_of_getElem? (i := 105) (by decide +kernel), List.mem_of_getElem? (i := 582) (by decide +kernel), List.mem_of_getElem? (i := 583) (by decide +kernel)⟩
theorem lw_p15 : lw_okq (⟨"EveningCloak$Reader", "readDeposit", "(LEveningCloak$Room;I)Z"⟩, 6) := ⟨⟨by decide +kernel, by decide +kernel⟩, List.mem_of_getElem? (i := 105) (by decide +kernel), List.mem_of_getElem? (i := 597) (by decide +kernel), List.mem_of_getElem? (i := 598) (by decide +kernel)⟩
def lw_privs_1 : List (MethodName × Nat) := [(⟨"EveningCloak", "finding", "(I)I"⟩, 7), (⟨"EveningCloak", "tryDays", "(I)V"⟩, 7), (⟨"EveningCloak", "fewestDays", "(III)I"⟩, 7), (⟨"EveningCloak", "bestFor", "(III)I"⟩, 7), (⟨"EveningCloak", "dreamOfLastStand", "(II)I"⟩, 7), (⟨"EveningCloak", "nobodyMeets", "(II)Z"⟩, 7), (⟨"EveningCloak", "refusedAsTold", "(II)I"⟩, 7), (⟨"EveningCloak", "setAsTold", "(ILEveningCloak$Sheet;I)I"⟩, 7), (⟨"EveningCloak", "trialIsAsTold", "(LEveningCloak$Sheet;)Z"⟩, 7), (⟨"EveningCloak$Reader", "step", "()V"⟩, 6), (⟨"EveningCloak$Reader", "readItem", "(LEveningCloak$Room;)Z"⟩, 6), (⟨"EveningCloak$Reader", "isWord", "(Ljava/lang/String;)Z"⟩, 6), (⟨"EveningCloak$Reader", "readGirl", "(LEveningCloak$Room;)Z"⟩, 6), (⟨"EveningCloak$Reader", "isNumber", "(II)Z"⟩, 6), (⟨"EveningCloak$Reader", "readStand", "(LEveningCloak$Room;)Z"⟩, 6), (⟨"EveningCloak$Reader", "readDeposit", "(LEveningCloak$Room;I)Z"⟩, 6)]
theorem lw_r1 : ∀ q ∈ lw_privs_1, lw_okq q := List.forall_mem_cons.mpr ⟨lw_p0, List.forall_mem_cons.mpr ⟨lw_p1, List.forall_mem_cons.mpr ⟨lw_p2, List.forall_mem_cons.mpr ⟨lw_p3, List.forall_mem_cons.mpr ⟨lw_p4, List.forall_mem_cons.mpr ⟨lw_p5, List.forall_mem_cons.mpr ⟨lw_p6, List.forall_mem_cons.mpr ⟨lw_p7, List.forall_mem_cons.mpr ⟨lw_p8, List.forall_mem_cons.mpr ⟨lw_p9, List.forall_mem_cons.mpr ⟨lw_p10, List.forall_mem_cons.mpr ⟨lw_p11, List.forall_mem_cons.mpr ⟨lw_p12, List.forall_mem_cons.mpr ⟨lw_p13, List.forall_mem_cons.mpr ⟨lw_p14, List.forall_mem_cons.mpr ⟨lw_p15, fun _ h => absurd h List.not_mem_nil⟩⟩⟩⟩⟩⟩⟩⟩⟩⟩⟩⟩⟩⟩⟩⟩
theorem lw_p16 : lw_okq (⟨"EveningCloak$Reader", "readPart", "(Ljava/lang/String;[III)Z"⟩, 6) := ⟨⟨by decide +kernel, by decide +kernel⟩, List.mem_of_getElem? (i := 105) (by decide +kernel), List.mem_of_getElem? (i := 603) (by decide +kernel), List.mem_of_getElem? (i := 604) (by decide +kernel)⟩
theorem lw_p17 : lw_okq (⟨"EveningCloak", "foundTogether", "()I"⟩, 7) := ⟨⟨by decide +kernel, by decide +kernel⟩, List.mem_of_getElem? (i := 15) (by decide +kernel), List.mem_of_getElem? (i := 686) (by decide +kernel), List.mem_of_getElem? (i := 687) (by decide +kernel)⟩
theorem lw_p18 : lw_okq (⟨"EveningCloakModel", "becomes", "(II)I"⟩, 15) := ⟨⟨by decide +kernel, by decide +kernel⟩, List.mem_of_getElem? (i := 690) (by decide +kernel), List.mem_of_getElem? (i := 755) (by decide +kernel), List.mem_of_getElem? (i := 756) (by decide +kernel)⟩
theorem lw_p19 : lw_okq (⟨"EveningCloakModel", "finds", "(I)I"⟩, 15) := ⟨⟨by decide +kernel, by decide +kernel⟩, List.mem_of_getElem? (i := 690) (by decide +kernel), List.mem_of_getElem? (i := 760) (by decide +kernel), List.mem_of_getElem? (i := 761) (by decide +kernel)⟩
theorem lw_p20 : lw_okq (⟨"EveningCloakModel", "comes", "(III)I"⟩, 15) := ⟨⟨by decide +kernel, by decide +kernel⟩, List.mem_of_getElem? (i := 690) (by decide +kernel), List.mem_of_getElem? (i := 773) (by decide +kernel), List.mem_of_getElem? (i := 774) (by decide +kernel)⟩
theorem lw_p21 : lw_okq (⟨"EveningCloakModel", "put", "(III)V"⟩, 15) := ⟨⟨by decide +kernel, by decide +kernel⟩, List.mem_of_getElem? (i := 690) (by decide +kernel), List.mem_of_getElem? (i := 777) (by decide +kernel), List.mem_of_getElem? (i := 778) (by decide +kernel)⟩
theorem lw_p22 : lw_okq (⟨"EveningCloakModel", "enters", "(I)I"⟩, 15) := ⟨⟨by decide +kernel, by decide +kernel⟩, List.mem_of_getElem? (i := 690) (by decide +kernel), List.mem_of_getElem? (i := 785) (by decide +kernel), List.mem_of_getElem? (i := 786) (by decide +kernel)⟩
theorem lw_p23 : lw_okq (⟨"EveningCloakModel", "lets", "(III)V"⟩, 15) := ⟨⟨by decide +kernel, by decide +kernel⟩, List.mem_of_getElem? (i := 690) (by decide +kernel), List.mem_of_getElem? (i := 789) (by decide +kernel), List.mem_of_getElem? (i := 790) (by decide +kernel)⟩
theorem lw_p24 : lw_okq (⟨"EveningCloakModel", "isDeposit", "(I)Z"⟩, 15) := ⟨⟨by decide +kernel, by decide +kernel⟩, List.mem_of_getElem? (i := 690) (by decide +kernel), List.mem_of_getElem? (i := 797) (by decide +kernel), List.mem_of_getElem? (i := 798) (by decide +kernel)⟩
theorem lw_p25 : lw_okq (⟨"EveningCloakModel", "shines", "(I)I"⟩, 15) := ⟨⟨by decide +kernel, by decide +kernel⟩, List.mem_of_getElem? (i := 690) (by decide +kernel), List.mem_of_getElem? (i := 801) (by decide +kernel), List.mem_of_getElem? (i := 802) (by decide +kernel)⟩
theorem lw_p26 : lw_okq (⟨"EveningCloakModel", "it", "(II)I"⟩, 15) := ⟨⟨by decide +kernel, by decide +kernel⟩, List.mem_of_getElem? (i := 690) (by decide +kernel), List.mem_of_getElem? (i := 805) (by decide +kernel), List.mem_of_getElem? (i := 806) (by decide +kernel)⟩
theorem lw_p27 : lw_okq (⟨"EveningCloakModel", "reaches", "(I)I"⟩, 15) := ⟨⟨by decide +kernel, by decide +kernel⟩, List.mem_of_getElem? (i := 690) (by decide +kernel), List.mem_of_getElem? (i := 812) (by decide +kernel), List.mem_of_getElem? (i := 813) (by decide +kernel)⟩
theorem lw_p28 : lw_okq (⟨"EveningCloakModel", "wears", "(I)I"⟩, 15) := ⟨⟨by decide +kernel, by decide +kernel⟩, List.mem_of_getElem? (i := 690) (by decide +kernel), List.mem_of_getElem? (i := 816) (by decide +kernel), List.mem_of_getElem? (i := 817) (by decide +kernel)⟩
theorem lw_p29 : lw_okq (⟨"EveningCloakModel", "lightAt", "(I)I"⟩, 15) := ⟨⟨by decide +kernel, by decide +kernel⟩, List.mem_of_getElem? (i := 690) (by decide +kernel), List.mem_of_getElem? (i := 820) (by decide +kernel), List.mem_of_getElem? (i := 821) (by decide +kernel)⟩
theorem lw_p30 : lw_okq (⟨"EveningCloakModel", "isHere", "(I)Z"⟩, 15) := ⟨⟨by decide +kernel, by decide +kernel⟩, List.mem_of_getElem? (i := 690) (by decide +kernel), List.mem_of_getElem? (i := 824) (by decide +kernel), List.mem_of_getElem? (i := 825) (by decide +kernel)⟩
theorem lw_p31 : lw_okq (⟨"EveningCloakModel", "costs", "(I)I"⟩, 15) := ⟨⟨by decide +kernel, by decide +kernel⟩, List.mem_of_getElem? (i := 690) (by decide +kernel), List.mem_of_getElem? (i := 828) (by decide +kernel), List.mem_of_getElem? (i := 829) (by decide +kernel)⟩
def lw_privs_2 : List (MethodName × Nat) := [(⟨"EveningCloak$Reader", "readPart", "(Ljava/lang/String;[III)Z"⟩, 6), (⟨"EveningCloak", "foundTogether", "()I"⟩, 7), (⟨"EveningCloakModel", "becomes", "(II)I"⟩, 15), (⟨"EveningCloakModel", "finds", "(I)I"⟩, 15), (⟨"EveningCloakModel", "comes", "(III)I"⟩, 15), (⟨"EveningCloakModel", "put", "(III)V"⟩, 15), (⟨"EveningCloakModel", "enters", "(I)I"⟩, 15), (⟨"EveningCloakModel", "lets", "(III)V"⟩, 15), (⟨"EveningCloakModel", "isDeposit", "(I)Z"⟩, 15), (⟨"EveningCloakModel", "shines", "(I)I"⟩, 15), (⟨"EveningCloakModel", "it", "(II)I"⟩, 15), (⟨"EveningCloakModel", "reaches", "(I)I"⟩, 15), (⟨"EveningCloakModel", "wears", "(I)I"⟩, 15), (⟨"EveningCloakModel", "lightAt", "(I)I"⟩, 15), (⟨"EveningCloakModel", "isHere", "(I)Z"⟩, 15), (⟨"EveningCloakModel", "costs", "(I)I"⟩, 15)]
theorem lw_r2 : ∀ q ∈ lw_privs_2, lw_okq q := List.forall_mem_cons.mpr ⟨lw_p16, List.forall_mem_cons.mpr ⟨lw_p17, List.forall_mem_cons.mpr ⟨lw_p18, List.forall_mem_cons.mpr ⟨lw_p19, List.forall_mem_cons.mpr ⟨lw_p20, List.forall_mem_cons.mpr ⟨lw_p21, List.forall_mem_cons.mpr ⟨lw_p22, List.forall_mem_cons.mpr ⟨lw_p23, List.forall_mem_cons.mpr ⟨lw_p24, List.forall_mem_cons.mpr ⟨lw_p25, List.forall_mem_cons.mpr ⟨lw_p26, List.forall_mem_cons.mpr ⟨lw_p27, List.forall_mem_cons.mpr ⟨lw_p28, List.forall_mem_cons.mpr ⟨lw_p29, List.forall_mem_cons.mpr ⟨lw_p30, List.forall_mem_cons.mpr ⟨lw_p31, fun _ h => absurd h List.not_mem_nil⟩⟩⟩⟩⟩⟩⟩⟩⟩⟩⟩⟩⟩⟩⟩⟩
theorem lw_p32 : lw_okq (⟨"EveningCloakModel", "isGirl", "(I)Z"⟩, 15) := ⟨⟨by decide +kernel, by decide +kernel⟩, List.mem_of_getElem? (i := 690) (by decide +kernel), List.mem_of_getElem? (i := 843) (by decide +kernel), List.mem_of_getElem? (i := 844) (by decide +kernel)⟩
theorem lw_p33 : lw_okq (⟨"EveningCloakModel", "her", "(II)I"⟩, 15) := ⟨⟨by decide +kernel, by decide +kernel⟩, List.mem_of_getElem? (i := 690) (by decide +kernel), List.mem_of_getElem? (i := 847) (by decide +kernel), List.mem_of_getElem? (i := 848) (by decide +kernel)⟩
theorem lw_p34 : lw_okq (⟨"EveningCloakModel", "orNone", "(I)I"⟩, 15) := ⟨⟨by decide +kernel, by decide +kernel⟩, List.mem_of_getElem? (i := 690) (by decide +kernel), List.mem_of_getElem? (i := 863) (by decide +kernel), List.mem_of_getElem? (i := 864) (by decide +kernel)⟩
theorem lw_p35 : lw_okq (⟨"EveningCloakModel", "goesFor", "(I)V"⟩, 15) := ⟨⟨by decide +kernel, by decide +kernel⟩, List.mem_of_getElem? (i := 690) (by decide +kernel), List.mem_of_getElem? (i := 874) (by decide +kernel), List.mem_of_getElem? (i := 875) (by decide +kernel)⟩
theorem lw_p36 : lw_okq (⟨"EveningCloakModel", "goes", "()V"⟩, 15) := ⟨⟨by decide +kernel, by decide +kernel⟩, List.mem_of_getElem? (i := 690) (by decide +kernel), List.mem_of_getElem? (i := 878) (by decide +kernel), List.mem_of_getElem? (i := 879) (by decide +kernel)⟩
theorem lw_p37 : lw_okq (⟨"EveningCloakModel", "stands", "(II)V"⟩, 15) := ⟨⟨by decide +kernel, by decide +kernel⟩, List.mem_of_getElem? (i := 690) (by decide +kernel), List.mem_of_getElem? (i := 882) (by decide +kernel), List.mem_of_getElem? (i := 883) (by decide +kernel)⟩
theorem lw_p38 : lw_okq (⟨"EveningCloakModel", "allCost", "()I"⟩, 15) := ⟨⟨by decide +kernel, by decide +kernel⟩, List.mem_of_getElem? (i := 690) (by decide +kernel), List.mem_of_getElem? (i := 886) (by decide +kernel), List.mem_of_getElem? (i := 887) (by decide +kernel)⟩
theorem lw_p39 : lw_okq (⟨"EveningCloakModel", "sums", "(I)I"⟩, 15) := ⟨⟨by decide +kernel, by decide +kernel⟩, List.mem_of_getElem? (i := 690) (by decide +kernel), List.mem_of_getElem? (i := 894) (by decide +kernel), List.mem_of_getElem? (i := 895) (by decide +kernel)⟩
theorem lw_p40 : lw_okq (⟨"EveningCloakModel", "goneOnes", "()I"⟩, 15) := ⟨⟨by decide +kernel, by decide +kernel⟩, List.mem_of_getElem? (i := 690) (by decide +kernel), List.mem_of_getElem? (i := 898) (by decide +kernel), List.mem_of_getElem? (i := 899) (by decide +kernel)⟩
theorem lw_p41 : lw_okq (⟨"EveningCloakModel", "darkOnes", "()I"⟩, 15) := ⟨⟨by decide +kernel, by decide +kernel⟩, List.mem_of_getElem? (i := 690) (by decide +kernel), List.mem_of_getElem? (i := 902) (by decide +kernel), List.mem_of_getElem? (i := 903) (by decide +kernel)⟩
theorem lw_p42 : lw_okq (⟨"EveningCloakModel", "lightest", "()I"⟩, 15) := ⟨⟨by decide +kernel, by decide +kernel⟩, List.mem_of_getElem? (i := 690) (by decide +kernel), List.mem_of_getElem? (i := 906) (by decide +kernel), List.mem_of_getElem? (i := 907) (by decide +kernel)⟩
theorem lw_p43 : lw_okq (⟨"EveningCloakModel", "thinks", "()V"⟩, 15) := ⟨⟨by decide +kernel, by decide +kernel⟩, List.mem_of_getElem? (i := 690) (by decide +kernel), List.mem_of_getElem? (i := 914) (by decide +kernel), List.mem_of_getElem? (i := 915) (by decide +kernel)⟩
theorem lw_p44 : lw_okq (⟨"EveningCloakModel", "putsBack", "()V"⟩, 15) := ⟨⟨by decide +kernel, by decide +kernel⟩, List.mem_of_getElem? (i := 690) (by decide +kernel), List.mem_of_getElem? (i := 921) (by decide +kernel), List.mem_of_getElem? (i := 922) (by decide +kernel)⟩
theorem lw_p45 : lw_okq (⟨"EveningCloakModel", "muchIn", "(II)I"⟩, 15) := ⟨⟨by decide +kernel, by decide +kernel⟩, List.mem_of_getElem? (i := 690) (by decide +kernel), List.mem_of_getElem? (i := 937) (by decide +kernel), List.mem_of_getElem? (i := 938) (by decide +kernel)⟩
theorem lw_p46 : lw_okq (⟨"EveningCloakModel", "mostBy", "(IIII)I"⟩, 15) := ⟨⟨by decide +kernel, by decide +kernel⟩, List.mem_of_getElem? (i := 690) (by decide +kernel), List.mem_of_getElem? (i := 953) (by decide +kernel), List.mem_of_getElem? (i := 954) (by decide +kernel)⟩
theorem lw_p47 : lw_okq (⟨"EveningCloakModel", "metBehind", "(I)I"⟩, 15) := ⟨⟨by decide +kernel, by decide +kernel⟩, List.mem_of_getElem? (i := 690) (by decide +kernel), List.mem_of_getElem? (i := 957) (by decide +kernel), List.mem_of_getElem? (i := 958) (by decide +kernel)⟩
def lw_privs_3 : List (MethodName × Nat) := [(⟨"EveningCloakModel", "isGirl", "(I)Z"⟩, 15), (⟨"EveningCloakModel", "her", "(II)I"⟩, 15), (⟨"EveningCloakModel", "orNone", "(I)I"⟩, 15), (⟨"EveningCloakModel", "goesFor", "(I)V"⟩, 15), (⟨"EveningCloakModel", "goes", "()V"⟩, 15), (⟨"EveningCloakModel", "stands", "(II)V"⟩, 15), (⟨"EveningCloakModel", "allCost", "()I"⟩, 15), (⟨"EveningCloakModel", "sums", "(I)I"⟩, 15), (⟨"EveningCloakModel", "goneOnes", "()I"⟩, 15), (⟨"EveningCloakModel", "darkOnes", "()I"⟩, 15), (⟨"EveningCloakModel", "lightest", "()I"⟩, 15), (⟨"EveningCloakModel", "thinks", "()V"⟩, 15), (⟨"EveningCloakModel", "putsBack", "()V"⟩, 15), (⟨"EveningCloakModel", "muchIn", "(II)I"⟩, 15), (⟨"EveningCloakModel", "mostBy", "(IIII)I"⟩, 15), (⟨"EveningCloakModel", "metBehind", "(I)I"⟩, 15)]
theorem lw_r3 : ∀ q ∈ lw_privs_3, lw_okq q := List.forall_mem_cons.mpr ⟨lw_p32, List.forall_mem_cons.mpr ⟨lw_p33, List.forall_mem_cons.mpr ⟨lw_p34, List.forall_mem_cons.mpr ⟨lw_p35, List.forall_mem_cons.mpr ⟨lw_p36, List.forall_mem_cons.mpr ⟨lw_p37, List.forall_mem_cons.mpr ⟨lw_p38, List.forall_mem_cons.mpr ⟨lw_p39, List.forall_mem_cons.mpr ⟨lw_p40, List.forall_mem_cons.mpr ⟨lw_p41, List.forall_mem_cons.mpr ⟨lw_p42, List.forall_mem_cons.mpr ⟨lw_p43, List.forall_mem_cons.mpr ⟨lw_p44, List.forall_mem_cons.mpr ⟨lw_p45, List.forall_mem_cons.mpr ⟨lw_p46, List.forall_mem_cons.mpr ⟨lw_p47, fun _ h => absurd h List.not_mem_nil⟩⟩⟩⟩⟩⟩⟩⟩⟩⟩⟩⟩⟩⟩⟩⟩
theorem lw_p48 : lw_okq (⟨"EveningCloakModel", "isAsNow", "(II)Z"⟩, 15) := ⟨⟨by decide +kernel, by decide +kernel⟩, List.mem_of_getElem? (i := 690) (by decide +kernel), List.mem_of_getElem? (i := 980) (by decide +kernel), List.mem_of_getElem? (i := 981) (by decide +kernel)⟩
theorem lw_p49 : lw_okq (⟨"EveningCloakModel", "notAsked", "(II)I"⟩, 15) := ⟨⟨by decide +kernel, by decide +kernel⟩, List.mem_of_getElem? (i := 690) (by decide +kernel), List.mem_of_getElem? (i := 988) (by decide +kernel), List.mem_of_getElem? (i := 989) (by decide +kernel)⟩
theorem lw_p50 : lw_okq (⟨"EveningCloakModel", "notThere", "(I)I"⟩, 15) := ⟨⟨by decide +kernel, by decide +kernel⟩, List.mem_of_getElem? (i := 690) (by decide +kernel), List.mem_of_getElem? (i := 992) (by decide +kernel), List.mem_of_getElem? (i := 993) (by decide +kernel)⟩
theorem lw_p51 : lw_okq (⟨"EveningCloakModel", "allowed", "(III)I"⟩, 15) := ⟨⟨by decide +kernel, by decide +kernel⟩, List.mem_of_getElem? (i := 690) (by decide +kernel), List.mem_of_getElem? (i := 1000) (by decide +kernel), List.mem_of_getElem? (i := 1001) (by decide +kernel)⟩
theorem lw_p52 : lw_okq (⟨"EveningCloakModel", "isTold", "(I)Z"⟩, 15) := ⟨⟨by decide +kernel, by decide +kernel⟩, List.mem_of_getElem? (i := 690) (by decide +kernel), List.mem_of_getElem? (i := 1004) (by decide +kernel), List.mem_of_getElem? (i := 1005) (by decide +kernel)⟩
theorem lw_p53 : lw_okq (⟨"EveningCloakModel", "draw", "()I"⟩, 15) := ⟨⟨by decide +kernel, by decide +kernel⟩, List.mem_of_getElem? (i := 690) (by decide +kernel), List.mem_of_getElem? (i := 1016) (by decide +kernel), List.mem_of_getElem? (i := 1017) (by decide +kernel)⟩
theorem lw_p54 : lw_okq (⟨"EveningCloakModel", "reads", "()V"⟩, 15) := ⟨⟨by decide +kernel, by decide +kernel⟩, List.mem_of_getElem? (i := 690) (by decide +kernel), List.mem_of_getElem? (i := 1043) (by decide +kernel), List.mem_of_getElem? (i := 1044) (by decide +kernel)⟩
theorem lw_p55 : lw_okq (⟨"EveningCloakModel", "isByte", "(III)Z"⟩, 15) := ⟨⟨by decide +kernel, by decide +kernel⟩, List.mem_of_getElem? (i := 690) (by decide +kernel), List.mem_of_getElem? (i := 1047) (by decide +kernel), List.mem_of_getElem? (i := 1048) (by decide +kernel)⟩
theorem lw_p56 : lw_okq (⟨"EveningCloakModel", "wordHere", "()I"⟩, 15) := ⟨⟨by decide +kernel, by decide +kernel⟩, List.mem_of_getElem? (i := 690) (by decide +kernel), List.mem_of_getElem? (i := 1051) (by decide +kernel), List.mem_of_getElem? (i := 1052) (by decide +kernel)⟩
theorem lw_p57 : lw_okq (⟨"EveningCloakModel", "isName", "(II)Z"⟩, 15) := ⟨⟨by decide +kernel, by decide +kernel⟩, List.mem_of_getElem? (i := 690) (by decide +kernel), List.mem_of_getElem? (i := 1055) (by decide +kernel), List.mem_of_getElem? (i := 1056) (by decide +kernel)⟩
theorem lw_p58 : lw_okq (⟨"EveningCloakModel", "item", "()V"⟩, 15) := ⟨⟨by decide +kernel, by decide +kernel⟩, List.mem_of_getElem? (i := 690) (by decide +kernel), List.mem_of_getElem? (i := 1061) (by decide +kernel), List.mem_of_getElem? (i := 1062) (by decide +kernel)⟩
theorem lw_p59 : lw_okq (⟨"EveningCloakModel", "depositItem", "()V"⟩, 15) := ⟨⟨by decide +kernel, by decide +kernel⟩, List.mem_of_getElem? (i := 690) (by decide +kernel), List.mem_of_getElem? (i := 1065) (by decide +kernel), List.mem_of_getElem? (i := 1066) (by decide +kernel)⟩
theorem lw_p60 : lw_okq (⟨"EveningCloakModel", "perhaps", "(IIII)I"⟩, 15) := ⟨⟨by decide +kernel, by decide +kernel⟩, List.mem_of_getElem? (i := 690) (by decide +kernel), List.mem_of_getElem? (i := 1069) (by decide +kernel), List.mem_of_getElem? (i := 1070) (by decide +kernel)⟩
theorem lw_p61 : lw_okq (⟨"EveningCloakModel", "takes", "(I)Z"⟩, 15) := ⟨⟨by decide +kernel, by decide +kernel⟩, List.mem_of_getElem? (i := 690) (by decide +kernel), List.mem_of_getElem? (i := 1073) (by decide +kernel), List.mem_of_getElem? (i := 1074) (by decide +kernel)⟩
theorem lw_p62 : lw_okq (⟨"EveningCloakModel", "number", "(II)I"⟩, 15) := ⟨⟨by decide +kernel, by decide +kernel⟩, List.mem_of_getElem? (i := 690) (by decide +kernel), List.mem_of_getElem? (i := 1077) (by decide +kernel), List.mem_of_getElem? (i := 1078) (by decide +kernel)⟩
theorem lw_p63 : lw_okq (⟨"EveningCloakModel", "girlItem", "()V"⟩, 15) := ⟨⟨by decide +kernel, by decide +kernel⟩, List.mem_of_getElem? (i := 690) (by decide +kernel), List.mem_of_getElem? (i := 1081) (by decide +kernel), List.mem_of_getElem? (i := 1082) (by decide +kernel)⟩
def lw_privs_4 : List (MethodName × Nat) := [(⟨"EveningCloakModel", "isAsNow", "(II)Z"⟩, 15), (⟨"EveningCloakModel", "notAsked", "(II)I"⟩, 15), (⟨"EveningCloakModel", "notThere", "(I)I"⟩, 15), (⟨"EveningCloakModel", "allowed", "(III)I"⟩, 15), (⟨"EveningCloakModel", "isTold", "(I)Z"⟩, 15), (⟨"EveningCloakModel", "draw", "()I"⟩, 15), (⟨"EveningCloakModel", "reads", "()V"⟩, 15), (⟨"EveningCloakModel", "isByte", "(III)Z"⟩, 15), (⟨"EveningCloakModel", "wordHere", "()I"⟩, 15), (⟨"EveningCloakModel", "isName", "(II)Z"⟩, 15), (⟨"EveningCloakModel", "item", "()V"⟩, 15), (⟨"EveningCloakModel", "depositItem", "()V"⟩, 15), (⟨"EveningCloakModel", "perhaps", "(IIII)I"⟩, 15), (⟨"EveningCloakModel", "takes", "(I)Z"⟩, 15), (⟨"EveningCloakModel", "number", "(II)I"⟩, 15), (⟨"EveningCloakModel", "girlItem", "()V"⟩, 15)]
theorem lw_r4 : ∀ q ∈ lw_privs_4, lw_okq q := List.forall_mem_cons.mpr ⟨lw_p48, List.forall_mem_cons.mpr ⟨lw_p49, List.forall_mem_cons.mpr ⟨lw_p50, List.forall_mem_cons.mpr ⟨lw_p51, List.forall_mem_cons.mpr ⟨lw_p52, List.forall_mem_cons.mpr ⟨lw_p53, List.forall_mem_cons.mpr ⟨lw_p54, List.forall_mem_cons.mpr ⟨lw_p55, List.forall_mem_cons.mpr ⟨lw_p56, List.forall_mem_cons.mpr ⟨lw_p57, List.forall_mem_cons.mpr ⟨lw_p58, List.forall_mem_cons.mpr ⟨lw_p59, List.forall_mem_cons.mpr ⟨lw_p60, List.forall_mem_cons.mpr ⟨lw_p61, List.forall_mem_cons.mpr ⟨lw_p62, List.forall_mem_cons.mpr ⟨lw_p63, fun _ h => absurd h List.not_mem_nil⟩⟩⟩⟩⟩⟩⟩⟩⟩⟩⟩⟩⟩⟩⟩⟩
theorem lw_p64 : lw_okq (⟨"EveningCloakModel", "standItem", "()V"⟩, 15) := ⟨⟨by decide +kernel, by decide +kernel⟩, List.mem_of_getElem? (i := 690) (by decide +kernel), List.mem_of_getElem? (i := 1085) (by decide +kernel), List.mem_of_getElem? (i := 1086) (by decide +kernel)⟩
theorem lw_p65 : lw_okq (⟨"EveningCloakModel", "notCopied", "(IIIII)I"⟩, 15) := ⟨⟨by decide +kernel, by decide +kernel⟩, List.mem_of_getElem? (i := 690) (by decide +kernel), List.mem_of_getElem? (i := 1114) (by decide +kernel), List.mem_of_getElem? (i := 1115) (by decide +kernel)⟩
theorem lw_p66 : lw_okq (⟨"EveningCloakModel", "manyHeld", "()I"⟩, 15) := ⟨⟨by decide +kernel, by decide +kernel⟩, List.mem_of_getElem? (i := 690) (by decide +kernel), List.mem_of_getElem? (i := 1142) (by decide +kernel), List.mem_of_getElem? (i := 1143) (by decide +kernel)⟩
def lw_privs_5 : List (MethodName × Nat) := [(⟨"EveningCloakModel", "standItem", "()V"⟩, 15), (⟨"EveningCloakModel", "notCopied", "(IIIII)I"⟩, 15), (⟨"EveningCloakModel", "manyHeld", "()I"⟩, 15)]
theorem lw_r5 : ∀ q ∈ lw_privs_5, lw_okq q := List.forall_mem_cons.mpr ⟨lw_p64, List.forall_mem_cons.mpr ⟨lw_p65, List.forall_mem_cons.mpr ⟨lw_p66, fun _ h => absurd h List.not_mem_nil⟩⟩⟩
def lw_privs : List (MethodName × Nat) := lw_privs_1 ++ (lw_privs_2 ++ (lw_privs_3 ++ (lw_privs_4 ++ (lw_privs_5))))
def lw_tbl : List Cond := k2_sels lw_privs ++ tables_1
theorem lw_privs_ok : ∀ q ∈ lw_privs, lw_okq q := by
  show ∀ q ∈ lw_privs_1 ++ (lw_privs_2 ++ (lw_privs_3 ++ (lw_privs_4 ++ (lw_privs_5)))), lw_okq q
  exact List.forall_mem_append.mpr ⟨lw_r1, List.forall_mem_append.mpr ⟨lw_r2, List.forall_mem_append.mpr ⟨lw_r3, List.forall_mem_append.mpr ⟨lw_r4, lw_r5⟩⟩⟩⟩
end
section
/-! NAMES of the program, printed by wip/whole/gen/names.py: classes by number, their fields by slot, where each word stands in the table -/
def Rn : Nat → String := fun k => match k with
  | 0 => "EveningCloak"
  | 1 => "EveningCloak$Reader"
  | 2 => "EveningCloak$Room"
  | 3 => "EveningCloak$Sheet"
  | 4 => "EveningCloakModel"
  | 5 => "java/lang/Integer"
  | 6 => "java/util/Arrays"
  | 7 => "java/lang/String"
  | 8 => "java/lang/StringLatin1"
  | 9 => "java/lang/Math"
  | 10 => "java/lang/System"
  | _ => "EveningCloakLaw"
def T0 : u_T := fun k => match k with
  | 0 => ("EveningCloak", "room", "LEveningCloak$Room;", true)
  | 1 => ("EveningCloak", "trial", "LEveningCloak$Room;", true)
  | 2 => ("EveningCloak", "latest", "LEveningCloak$Room;", true)
  | 3 => ("EveningCloak", "latestKept", "Z", false)
  | 4 => ("EveningCloak", "reader", "LEveningCloak$Reader;", true)
  | 5 => ("EveningCloak", "sheets", "[LEveningCloak$Sheet;", true)
  | _ => ("EveningCloak", "found", "[I", true)
def ty0 : Nat → FieldType := fun k => match k with
  | 0 => .object "EveningCloak$Room"
  | 1 => .object "EveningCloak$Room"
  | 2 => .object "EveningCloak$Room"
  | 3 => .boolean
  | 4 => .object "EveningCloak$Reader"
  | 5 => .array (.object "EveningCloak$Sheet")
  | _ => .array .int
def T1 : u_T := fun k => match k with
  | 0 => ("EveningCloak$Reader", "bytes", "[I", true)
  | 1 => ("EveningCloak$Reader", "count", "I", false)
  | 2 => ("EveningCloak$Reader", "token", "I", false)
  | 3 => ("EveningCloak$Reader", "start", "I", false)
  | 4 => ("EveningCloak$Reader", "behind", "I", false)
  | _ => ("EveningCloak$Reader", "number", "I", false)
def ty1 : Nat → FieldType := fun k => match k with
  | 0 => .array .int
  | 1 => .int
  | 2 => .int
  | 3 => .int
  | 4 => .int
  | _ => .int
def T2 : u_T := fun k => match k with
  | 0 => ("EveningCloak$Room", "day", "I", false)
  | 1 => ("EveningCloak$Room", "fees", "I", false)
  | 2 => ("EveningCloak$Room", "z", "I", false)
  | 3 => ("EveningCloak$Room", "deposits", "I", false)
  | 4 => ("EveningCloak$Room", "girls", "I", false)
  | 5 => ("EveningCloak$Room", "list", "[I", true)
  | 6 => ("EveningCloak$Room", "kind", "[I", true)
  | 7 => ("EveningCloak$Room", "hanger", "[I", true)
  | 8 => ("EveningCloak$Room", "stub", "[I", true)
  | 9 => ("EveningCloak$Room", "kept", "[I", true)
  | 10 => ("EveningCloak$Room", "worn", "[I", true)
  | 11 => ("EveningCloak$Room", "out", "[I", true)
  | 12 => ("EveningCloak$Room", "dream", "[I", true)
  | 13 => ("EveningCloak$Room", "hope", "[I", true)
  | 14 => ("EveningCloak$Room", "met", "[I", true)
  | _ => ("EveningCloak$Room", "spots", "[I", true)
def ty2 : Nat → FieldType := fun k => match k with
  | 0 => .int
  | 1 => .int
  | 2 => .int
  | 3 => .int
  | 4 => .int
  | 5 => .array .int
  | 6 => .array .int
  | 7 => .array .int
  | 8 => .array .int
  | 9 => .array .int
  | 10 => .array .int
  | 11 => .array .int
  | 12 => .array .int
  | 13 => .array .int
  | 14 => .array .int
  | _ => .array .int
def T3 : u_T := fun k => match k with
  | 0 => ("EveningCloak$Sheet", "bits", "I", false)
  | 1 => ("EveningCloak$Sheet", "size", "I", false)
  | _ => ("EveningCloak$Sheet", "numbers", "[I", true)
def ty3 : Nat → FieldType := fun k => match k with
  | 0 => .int
  | 1 => .int
  | _ => .array .int
def T4 : u_T := fun k => match k with
  | 0 => ("EveningCloakModel", "m", "[I", true)
  | 1 => ("EveningCloakModel", "kept", "[I", true)
  | 2 => ("EveningCloakModel", "was", "[I", true)
  | 3 => ("EveningCloakModel", "isKept", "Z", false)
  | 4 => ("EveningCloakModel", "found", "[I", true)
  | 5 => ("EveningCloakModel", "bitsOf", "[I", true)
  | 6 => ("EveningCloakModel", "sizeOf", "[I", true)
  | 7 => ("EveningCloakModel", "cells", "[I", true)
  | 8 => ("EveningCloakModel", "tape", "[I", true)
  | 9 => ("EveningCloakModel", "taped", "I", false)
  | 10 => ("EveningCloakModel", "token", "I", false)
  | 11 => ("EveningCloakModel", "begin", "I", false)
  | 12 => ("EveningCloakModel", "at", "I", false)
  | 13 => ("EveningCloakModel", "value", "I", false)
  | _ => ("EveningCloakModel", "bad", "Z", false)
def ty4 : Nat → FieldType := fun k => match k with
  | 0 => .array .int
  | 1 => .array .int
  | 2 => .array .int
  | 3 => .boolean
  | 4 => .array .int
  | 5 => .array .int
  | 6 => .array .int
  | 7 => .array .int
  | 8 => .array .int
  | 9 => .int
  | 10 => .int
  | 11 => .int
  | 12 => .int
  | 13 => .int
  | _ => .boolean
def Tn : Nat → u_T := fun k => match k with
  | 0 => T0
  | 1 => T1
  | 2 => T2
  | 3 => T3
  | _ => T4
def tyn : Nat → Nat → FieldType := fun k => match k with
  | 0 => ty0
  | 1 => ty1
  | 2 => ty2
  | 3 => ty3
  | _ => ty4
def Nn : Nat → Nat := fun k => match k with
  | 0 => 7
  | 1 => 6
  | 2 => 16
  | 3 => 3
  | _ => 15
def lg : List Cond := lw_tbl.filter goodWord
theorem lg_all : lg.all goodWord = true := List.all_eq_true.mpr fun w h => (List.mem_filter.mp h).2
theorem lgm {w : Cond} (i : Nat) (h : lw_tbl[i]? = some w) (hg : goodWord w = true) : w ∈ lg := List.mem_filter.mpr ⟨List.mem_of_getElem? h, hg⟩
abbrev cls : List vw_C := [(Rn 0, Tn 0, Nn 0), (Rn 1, Tn 1, Nn 1), (Rn 2, Tn 2, Nn 2), (Rn 3, Tn 3, Nn 3), (Rn 4, Tn 4, Nn 4)]
theorem cls_at {ci : Nat} (h : ci < 5) : cls[ci]? = some (Rn ci, Tn ci, Nn ci) := by
  rcases (show ci = 0 ∨ ci = 1 ∨ ci = 2 ∨ ci = 3 ∨ ci = 4 by omega) with rfl | rfl | rfl | rfl | rfl <;> rfl
theorem nm0 : ∀ a, a < Nn 0 → ∀ b, b < Nn 0 → a ≠ b → (Tn 0 a).2.1 ≠ (Tn 0 b).2.1 := by decide +kernel
theorem tok0 : ∀ k, k < Nn 0 → parseFieldDescriptor (Tn 0 k).2.2.1 = some (tyn 0 k) := by decide +kernel
theorem inA0 : ∀ k, k < Nn 0 → lw_tbl[(([224, 226, 228, 230, 232, 234, 236] : List Nat).getD k 0)]? = some (u_lay (Rn 0) (Tn 0) k) ∧ goodWord (u_lay (Rn 0) (Tn 0) k) = true := by decide +kernel
theorem nm1 : ∀ a, a < Nn 1 → ∀ b, b < Nn 1 → a ≠ b → (Tn 1 a).2.1 ≠ (Tn 1 b).2.1 := by decide +kernel
theorem tok1 : ∀ k, k < Nn 1 → parseFieldDescriptor (Tn 1 k).2.2.1 = some (tyn 1 k) := by decide +kernel
theorem inA1 : ∀ k, k < Nn 1 → lw_tbl[(([184, 186, 188, 190, 192, 194] : List Nat).getD k 0)]? = some (u_lay (Rn 1) (Tn 1) k) ∧ goodWord (u_lay (Rn 1) (Tn 1) k) = true := by decide +kernel
theorem nm2 : ∀ a, a < Nn 2 → ∀ b, b < Nn 2 → a ≠ b → (Tn 2 a).2.1 ≠ (Tn 2 b).2.1 := by decide +kernel
theorem tok2 : ∀ k, k < Nn 2 → parseFieldDescriptor (Tn 2 k).2.2.1 = some (tyn 2 k) := by decide +kernel
theorem inA2 : ∀ k, k < Nn 2 → lw_tbl[(([137, 139, 141, 143, 145, 147, 149, 151, 153, 155, 157, 159, 161, 163, 165, 167] : List Nat).getD k 0)]? = some (u_lay (Rn 2) (Tn 2) k) ∧ goodWord (u_lay (Rn 2) (Tn 2) k) = true := by decide +kernel
theorem nm3 : ∀ a, a < Nn 3 → ∀ b, b < Nn 3 → a ≠ b → (Tn 3 a).2.1 ≠ (Tn 3 b).2.1 := by decide +kernel
theorem tok3 : ∀ k, k < Nn 3 → parseFieldDescriptor (Tn 3 k).2.2.1 = some (tyn 3 k) := by decide +kernel
theorem inA3 : ∀ k, k < Nn 3 → lw_tbl[(([210, 212, 214] : List Nat).getD k 0)]? = some (u_lay (Rn 3) (Tn 3) k) ∧ goodWord (u_lay (Rn 3) (Tn 3) k) = true := by decide +kernel
theorem nm4 : ∀ a, a < Nn 4 → ∀ b, b < Nn 4 → a ≠ b → (Tn 4 a).2.1 ≠ (Tn 4 b).2.1 := by decide +kernel
theorem tok4 : ∀ k, k < Nn 4 → parseFieldDescriptor (Tn 4 k).2.2.1 = some (tyn 4 k) := by decide +kernel
theorem inA4 : ∀ k, k < Nn 4 → lw_tbl[(([777, 779, 781, 783, 785, 787, 789, 791, 793, 795, 797, 799, 801, 803, 805] : List Nat).getD k 0)]? = some (u_lay (Rn 4) (Tn 4) k) ∧ goodWord (u_lay (Rn 4) (Tn 4) k) = true := by decide +kernel
theorem fiveQ {P : Nat → Prop} (h0 : P 0) (h1 : P 1) (h2 : P 2) (h3 : P 3) (h4 : P 4) {ci : Nat} (h : ci < 5) : P ci := by
  rcases (show ci = 0 ∨ ci = 1 ∨ ci = 2 ∨ ci = 3 ∨ ci = 4 by omega) with rfl | rfl | rfl | rfl | rfl <;> assumption
theorem nmn {ci : Nat} (h : ci < 5) : ∀ a, a < Nn ci → ∀ b, b < Nn ci → a ≠ b → (Tn ci a).2.1 ≠ (Tn ci b).2.1 := fiveQ (P := fun ci => ∀ a, a < Nn ci → ∀ b, b < Nn ci → a ≠ b → (Tn ci a).2.1 ≠ (Tn ci b).2.1) nm0 nm1 nm2 nm3 nm4 h
theorem tokn {ci : Nat} (h : ci < 5) : ∀ k, k < Nn ci → parseFieldDescriptor (Tn ci k).2.2.1 = some (tyn ci k) := fiveQ (P := fun ci => ∀ k, k < Nn ci → parseFieldDescriptor (Tn ci k).2.2.1 = some (tyn ci k)) tok0 tok1 tok2 tok3 tok4 h
theorem inn0 {ci : Nat} {f : Nat → Nat} (h : ∀ k, k < Nn ci → lw_tbl[f k]? = some (u_lay (Rn ci) (Tn ci) k) ∧ goodWord (u_lay (Rn ci) (Tn ci) k) = true) : ∀ w ∈ u_ws (Rn ci) (Tn ci) (Nn ci), w ∈ lg := by
  intro w hw
  obtain ⟨k, hk, rfl⟩ := List.mem_map.mp hw
  exact lgm _ (h k (List.mem_range.mp hk)).1 (h k (List.mem_range.mp hk)).2
theorem inn {ci : Nat} (h : ci < 5) : ∀ w ∈ u_ws (Rn ci) (Tn ci) (Nn ci), w ∈ lg := fiveQ (P := fun ci => ∀ w ∈ u_ws (Rn ci) (Tn ci) (Nn ci), w ∈ lg) (inn0 inA0) (inn0 inA1) (inn0 inA2) (inn0 inA3) (inn0 inA4) h
def nst : List (String × Nat × MethodName × String) := [("EveningCloak", 24, ⟨"EveningCloak$Reader", "<init>", "()V"⟩, "EveningCloak"), ("EveningCloak", 39, ⟨"EveningCloak$Sheet", "<init>", "()V"⟩, "EveningCloak"), ("EveningCloak$Room", 73, ⟨"EveningCloak", "within", "(III)Z"⟩, "EveningCloak"), ("EveningCloak$Room", 94, ⟨"EveningCloak", "standOf", "(II)I"⟩, "EveningCloak"), ("EveningCloak$Reader", 115, ⟨"EveningCloak", "within", "(III)Z"⟩, "EveningCloak"), ("EveningCloak$Reader", 112, ⟨"EveningCloak", "standOf", "(II)I"⟩, "EveningCloak")]
def strs : List (Nat × Nat × String) := [(1, 35, "girl"), (1, 105, "hope"), (1, 44, "stand"), (1, 141, "coat"), (1, 143, "evening"), (1, 145, "hat"), (1, 147, "dusk"), (1, 149, "moon"), (1, 151, "umbrella"), (1, 153, "topper"), (1, 66, "on"), (1, 75, "stub"), (1, 79, "kept"), (1, 83, "worn"), (1, 87, "out")]
def slen : List Nat := [4, 4, 5, 4, 7, 3, 4, 4, 8, 6, 2, 4, 4, 4, 3]
def sbyt : List (List Int32) := [[103, 105, 114, 108], [104, 111, 112, 101], [115, 116, 97, 110, 100], [99, 111, 97, 116], [101, 118, 101, 110, 105, 110, 103], [104, 97, 116], [100, 117, 115, 107], [109, 111, 111, 110], [117, 109, 98, 114, 101, 108, 108, 97], [116, 111, 112, 112, 101, 114], [111, 110], [115, 116, 117, 98], [107, 101, 112, 116], [119, 111, 114, 110], [111, 117, 116]]
def sarr : List (String × String × List Int32) := [("EveningCloak", "MOST_OF", [6, 15, 99, 9999, 99, 1]), ("EveningCloak", "LEAST_OF_GIRL", [0, 1, 0]), ("EveningCloak", "MOST_OF_GIRL", [99, 99, 9999]), ("EveningCloak", "ABOVE", [-1, 0, 0, 1, 3, 0, 2]), ("EveningCloakModel", "NAMES", [99, 111, 97, 116, 0, 0, 0, 0, 101, 118, 101, 110, 105, 110, 103, 0, 104, 97, 116, 0, 0, 0, 0, 0, 100, 117, 115, 107, 0, 0, 0, 0, 109, 111, 111, 110, 0, 0, 0, 0, 117, 109, 98, 114, 101, 108, 108, 97, 116, 111, 112, 112, 101, 114, 0, 0, 111, 110, 0, 0, 0, 0, 0, 0, 115, 116, 117, 98, 0, 0, 0, 0, 107, 101, 112, 116, 0, 0, 0, 0, 119, 111, 114, 110, 0, 0, 0, 0, 111, 117, 116, 0, 0, 0, 0, 0, 103, 105, 114, 108, 0, 0, 0, 0, 104, 111, 112, 101, 0, 0, 0, 0, 115, 116, 97, 110, 100, 0, 0, 0])]
end
