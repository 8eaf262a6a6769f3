section
-- ===== PART A: goes FIRST, ahead of the names: the tables' words, and 'selects' of the private methods out of them =====
/-- a private method of a class that the tables say can be made, by its rows of tables_1 -/
def lw_okq (q : MethodName × Nat) : Prop := (q.1.cls ≠ "java/lang/invoke/MethodHandle" ∧ q.1.cls ≠ "java/lang/invoke/VarHandle") ∧ Cond.instantiable q.1.cls q.2 ∈ tables_1 ∧ Cond.privateMethod q.1 ∈ tables_1 ∧ Cond.instanceMethod q.1 ∈ tables_1
theorem lw_p0 : lw_okq (⟨"EveningCloak", "finding", "(I)I"⟩, 7) := ⟨⟨by decide +kernel, by decide +kernel⟩, List.mem_of_getElem? (i := 15) (by decide +kernel), List.mem_of_getElem? (i := 183) (by decide +kernel), List.mem_of_getElem? (i := 184) (by decide +kernel)⟩
theorem lw_p1 : lw_okq (⟨"EveningCloak", "tryDays", "(I)V"⟩, 7) := ⟨⟨by decide +kernel, by decide +kernel⟩, List.mem_of_getElem? (i := 15) (by decide +kernel), List.mem_of_getElem? (i := 347) (by decide +kernel), List.mem_of_getElem? (i := 348) (by decide +kernel)⟩
theorem lw_p2 : lw_okq (⟨"EveningCloak", "fewestDays", "(III)I"⟩, 7) := ⟨⟨by decide +kernel, by decide +kernel⟩, List.mem_of_getElem? (i := 15) (by decide +kernel), List.mem_of_getElem? (i := 370) (by decide +kernel), List.mem_of_getElem? (i := 371) (by decide +kernel)⟩
theorem lw_p3 : lw_okq (⟨"EveningCloak", "bestFor", "(III)I"⟩, 7) := ⟨⟨by decide +kernel, by decide +kernel⟩, List.mem_of_getElem? (i := 15) (by decide +kernel), List.mem_of_getElem? (i := 390) (by decide +kernel), List.mem_of_getElem? (i := 391) (by decide +kernel)⟩
theorem lw_p4 : lw_okq (⟨"EveningCloak", "dreamOfLastStand", "(II)I"⟩, 7) := ⟨⟨by decide +kernel, by decide +kernel⟩, List.mem_of_getElem? (i := 15) (by decide +kernel), List.mem_of_getElem? (i := 411) (by decide +kernel), List.mem_of_getElem? (i := 412) (by decide +kernel)⟩
theorem lw_p5 : lw_okq (⟨"EveningCloak", "nobodyMeets", "(II)Z"⟩, 7) := ⟨⟨by decide +kernel, by decide +kernel⟩, List.mem_of_getElem? (i := 15) (by decide +kernel), List.mem_of_getElem? (i := 420) (by decide +kernel), List.mem_of_getElem? (i := 421) (by decide +kernel)⟩
theorem lw_p6 : lw_okq (⟨"EveningCloak", "refusedAsTold", "(II)I"⟩, 7) := ⟨⟨by decide +kernel, by decide +kernel⟩, List.mem_of_getElem? (i := 15) (by decide +kernel), List.mem_of_getElem? (i := 438) (by decide +kernel), List.mem_of_getElem? (i := 439) (by decide +kernel)⟩
theorem lw_p7 : lw_okq (⟨"EveningCloak", "setAsTold", "(ILEveningCloak$Sheet;I)I"⟩, 7) := ⟨⟨by decide +kernel, by decide +kernel⟩, List.mem_of_getElem? (i := 15) (by decide +kernel), List.mem_of_getElem? (i := 449) (by decide +kernel), List.mem_of_getElem? (i := 450) (by decide +kernel)⟩
theorem lw_p8 : lw_okq (⟨"EveningCloak", "trialIsAsTold", "(LEveningCloak$Sheet;)Z"⟩, 7) := ⟨⟨by decide +kernel, by decide +kernel⟩, List.mem_of_getElem? (i := 15) (by decide +kernel), List.mem_of_getElem? (i := 453) (by decide +kernel), List.mem_of_getElem? (i := 454) (by decide +kernel)⟩
theorem lw_p9 : lw_okq (⟨"EveningCloak$Reader", "step", "()V"⟩, 6) := ⟨⟨by decide +kernel, by decide +kernel⟩, List.mem_of_getElem? (i := 105) (by decide +kernel), List.mem_of_getElem? (i := 502) (by decide +kernel), List.mem_of_getElem? (i := 503) (by decide +kernel)⟩
theorem lw_p10 : lw_okq (⟨"EveningCloak$Reader", "readItem", "(LEveningCloak$Room;)Z"⟩, 6) := ⟨⟨by decide +kernel, by decide +kernel⟩, List.mem_of_getElem? (i := 105) (by decide +kernel), List.mem_of_getElem? (i := 513) (by decide +kernel), List.mem_of_getElem? (i := 514) (by decide +kernel)⟩
theorem lw_p11 : lw_okq (⟨"EveningCloak$Reader", "isWord", "(Ljava/lang/String;)Z"⟩, 6) := ⟨⟨by decide +kernel, by decide +kernel⟩, List.mem_of_getElem? (i := 105) (by decide +kernel), List.mem_of_getElem? (i := 518) (by decide +kernel), List.mem_of_getElem? (i := 519) (by decide +kernel)⟩
theorem lw_p12 : lw_okq (⟨"EveningCloak$Reader", "readGirl", "(LEveningCloak$Room;)Z"⟩, 6) := ⟨⟨by decide +kernel, by decide +kernel⟩, List.mem_of_getElem? (i := 105) (by decide +kernel), List.mem_of_getElem? (i := 570) (by decide +kernel), List.mem_of_getElem? (i := 571) (by decide +kernel)⟩
theorem lw_p13 : lw_okq (⟨"EveningCloak$Reader", "isNumber", "(II)Z"⟩, 6) := ⟨⟨by decide +kernel, by decide +kernel⟩, List.mem_of_getElem? (i := 105) (by decide +kernel), List.mem_of_getElem? (i := 576) (by decide +kernel), List.mem_of_getElem? (i := 577) (by decide +kernel)⟩
theorem lw_p14 : lw_okq (⟨"EveningCloak$Reader", "readStand", "(LEveningCloak$Room;)Z"⟩, 6) := ⟨⟨by decide +kernel, by decide +kernel⟩, List.mem_of_getElem? (i := 105) (by decide +kernel), List.mem_of_getElem? (i := 582) (by decide +kernel), List.mem_of_getElem? (i := 583) (by decide +kernel)⟩
theorem lw_p15 : lw_okq (⟨"EveningCloak$Reader", "readDeposit", "(LEveningCloak$Room;I)Z"⟩, 6) := ⟨⟨by decide +kernel, by decide +kernel⟩, List.mem_of_getElem? (i := 105) (by decide +kernel), List.mem_of_getElem? (i := 597) (by decide +kernel), List.mem_of_getElem? (i := 598) (by decide +kernel)⟩
def lw_privs_1 : List (MethodName × Nat) := [(⟨"EveningCloak", "finding", "(I)I"⟩, 7), (⟨"EveningCloak", "tryDays", "(I)V"⟩, 7), (⟨"EveningCloak", "fewestDays", "(III)I"⟩, 7), (⟨"EveningCloak", "bestFor", "(III)I"⟩, 7), (⟨"EveningCloak", "dreamOfLastStand", "(II)I"⟩, 7), (⟨"EveningCloak", "nobodyMeets", "(II)Z"⟩, 7), (⟨"EveningCloak", "refusedAsTold", "(II)I"⟩, 7), (⟨"EveningCloak", "setAsTold", "(ILEveningCloak$Sheet;I)I"⟩, 7), (⟨"EveningCloak", "trialIsAsTold", "(LEveningCloak$Sheet;)Z"⟩, 7), (⟨"EveningCloak$Reader", "step", "()V"⟩, 6), (⟨"EveningCloak$Reader", "readItem", "(LEveningCloak$Room;)Z"⟩, 6), (⟨"EveningCloak$Reader", "isWord", "(Ljava/lang/String;)Z"⟩, 6), (⟨"EveningCloak$Reader", "readGirl", "(LEveningCloak$Room;)Z"⟩, 6), (⟨"EveningCloak$Reader", "isNumber", "(II)Z"⟩, 6), (⟨"EveningCloak$Reader", "readStand", "(LEveningCloak$Room;)Z"⟩, 6), (⟨"EveningCloak$Reader", "readDeposit", "(LEveningCloak$Room;I)Z"⟩, 6)]
theorem lw_r1 : ∀ q ∈ lw_privs_1, lw_okq q := List.forall_mem_cons.mpr ⟨lw_p0, List.forall_mem_cons.mpr ⟨lw_p1, List.forall_mem_cons.mpr ⟨lw_p2, List.forall_mem_cons.mpr ⟨lw_p3, List.forall_mem_cons.mpr ⟨lw_p4, List.forall_mem_cons.mpr ⟨lw_p5, List.forall_mem_cons.mpr ⟨lw_p6, List.forall_mem_cons.mpr ⟨lw_p7, List.forall_mem_cons.mpr ⟨lw_p8, List.forall_mem_cons.mpr ⟨lw_p9, List.forall_mem_cons.mpr ⟨lw_p10, List.forall_mem_cons.mpr ⟨lw_p11, List.forall_mem_cons.mpr ⟨lw_p12, List.forall_mem_cons.mpr ⟨lw_p13, List.forall_mem_cons.mpr ⟨lw_p14, List.forall_mem_cons.mpr ⟨lw_p15, fun _ h => absurd h List.not_mem_nil⟩⟩⟩⟩⟩⟩⟩⟩⟩⟩⟩⟩⟩⟩⟩⟩
theorem lw_p16 : lw_okq (⟨"EveningCloak$Reader", "readPart", "(Ljava/lang/String;[III)Z"⟩, 6) := ⟨⟨by decide +kernel, by decide +kernel⟩, List.mem_of_getElem? (i := 105) (by decide +kernel), List.mem_of_getElem? (i := 603) (by decide +kernel), List.mem_of_getElem? (i := 604) (by decide +kernel)⟩
theorem lw_p17 : lw_okq (⟨"EveningCloak", "foundTogether", "()I"⟩, 7) := ⟨⟨by decide +kernel, by decide +kernel⟩, List.mem_of_getElem? (i := 15) (by decide +kernel), List.mem_of_getElem? (i := 686) (by decide +kernel), List.mem_of_getElem? (i := 687) (by decide +kernel)⟩
theorem lw_p18 : lw_okq (⟨"EveningCloakModel", "becomes", "(II)I"⟩, 15) := ⟨⟨by decide +kernel, by decide +kernel⟩, List.mem_of_getElem? (i := 690) (by decide +kernel), List.mem_of_getElem? (i := 755) (by decide +kernel), List.mem_of_getElem? (i := 756) (by decide +kernel)⟩
theorem lw_p19 : lw_okq (⟨"EveningCloakModel", "finds", "(I)I"⟩, 15) := ⟨⟨by decide +kernel, by decide +kernel⟩, List.mem_of_getElem? (i := 690) (by decide +kernel), List.mem_of_getElem? (i := 760) (by decide +kernel), List.mem_of_getElem? (i := 761) (by decide +kernel)⟩
theorem lw_p20 : lw_okq (⟨"EveningCloakModel", "comes", "(III)I"⟩, 15) := ⟨⟨by decide +kernel, by decide +kernel⟩, List.mem_of_getElem? (i := 690) (by decide +kernel), List.mem_of_getElem? (i := 773) (by decide +kernel), List.mem_of_getElem? (i := 774) (by decide +kernel)⟩
theorem lw_p21 : lw_okq (⟨"EveningCloakModel", "put", "(III)V"⟩, 15) := ⟨⟨by decide +kernel, by decide +kernel⟩, List.mem_of_getElem? (i := 690) (by decide +kernel), List.mem_of_getElem? (i := 777) (by decide +kernel), List.mem_of_getElem? (i := 778) (by decide +kernel)⟩
theorem lw_p22 : lw_okq (⟨"EveningCloakModel", "enters", "(I)I"⟩, 15) := ⟨⟨by decide +kernel, by decide +kernel⟩, List.mem_of_getElem? (i := 690) (by decide +kernel), List.mem_of_getElem? (i := 785) (by decide +kernel), List.mem_of_getElem? (i := 786) (by decide +kernel)⟩
theorem lw_p23 : lw_okq (⟨"EveningCloakModel", "lets", "(III)V"⟩, 15) := ⟨⟨by decide +kernel, by decide +kernel⟩, List.mem_of_getElem? (i := 690) (by decide +kernel), List.mem_of_getElem? (i := 789) (by decide +kernel), List.mem_of_getElem? (i := 790) (by decide +kernel)⟩
theorem lw_p24 : lw_okq (⟨"EveningCloakModel", "isDeposit", "(I)Z"⟩, 15) := ⟨⟨by decide +kernel, by decide +kernel⟩, List.mem_of_getElem? (i := 690) (by decide +kernel), List.mem_of_getElem? (i := 797) (by decide +kernel), List.mem_of_getElem? (i := 798) (by decide +kernel)⟩
theorem lw_p25 : lw_okq (⟨"EveningCloakModel", "shines", "(I)I"⟩, 15) := ⟨⟨by decide +kernel, by decide +kernel⟩, List.mem_of_getElem? (i := 690) (by decide +kernel), List.mem_of_getElem? (i := 801) (by decide +kernel), List.mem_of_getElem? (i := 802) (by decide +kernel)⟩
theorem lw_p26 : lw_okq (⟨"EveningCloakModel", "it", "(II)I"⟩, 15) := ⟨⟨by decide +kernel, by decide +kernel⟩, List.mem_of_getElem? (i := 690) (by decide +kernel), List.mem_of_getElem? (i := 805) (by decide +kernel), List.mem_of_getElem? (i := 806) (by decide +kernel)⟩
theorem lw_p27 : lw_okq (⟨"EveningCloakModel", "reaches", "(I)I"⟩, 15) := ⟨⟨by decide +kernel, by decide +kernel⟩, List.mem_of_getElem? (i := 690) (by decide +kernel), List.mem_of_getElem? (i := 812) (by decide +kernel), List.mem_of_getElem? (i := 813) (by decide +kernel)⟩
theorem lw_p28 : lw_okq (⟨"EveningCloakModel", "wears", "(I)I"⟩, 15) := ⟨⟨by decide +kernel, by decide +kernel⟩, List.mem_of_getElem? (i := 690) (by decide +kernel), List.mem_of_getElem? (i := 816) (by decide +kernel), List.mem_of_getElem? (i := 817) (by decide +kernel)⟩
theorem lw_p29 : lw_okq (⟨"EveningCloakModel", "lightAt", "(I)I"⟩, 15) := ⟨⟨by decide +kernel, by decide +kernel⟩, List.mem_of_getElem? (i := 690) (by decide +kernel), List.mem_of_getElem? (i := 820) (by decide +kernel), List.mem_of_getElem? (i := 821) (by decide +kernel)⟩
theorem lw_p30 : lw_okq (⟨"EveningCloakModel", "isHere", "(I)Z"⟩, 15) := ⟨⟨by decide +kernel, by decide +kernel⟩, List.mem_of_getElem? (i := 690) (by decide +kernel), List.mem_of_getElem? (i := 824) (by decide +kernel), List.mem_of_getElem? (i := 825) (by decide +kernel)⟩
theorem lw_p31 : lw_okq (⟨"EveningCloakModel", "costs", "(I)I"⟩, 15) := ⟨⟨by decide +kernel, by decide +kernel⟩, List.mem_of_getElem? (i := 690) (by decide +kernel), List.mem_of_getElem? (i := 828) (by decide +kernel), List.mem_of_getElem? (i := 829) (by decide +kernel)⟩
def lw_privs_2 : List (MethodName × Nat) := [(⟨"EveningCloak$Reader", "readPart", "(Ljava/lang/String;[III)Z"⟩, 6), (⟨"EveningCloak", "foundTogether", "()I"⟩, 7), (⟨"EveningCloakModel", "becomes", "(II)I"⟩, 15), (⟨"EveningCloakModel", "finds", "(I)I"⟩, 15), (⟨"EveningCloakModel", "comes", "(III)I"⟩, 15), (⟨"EveningCloakModel", "put", "(III)V"⟩, 15), (⟨"EveningCloakModel", "enters", "(I)I"⟩, 15), (⟨"EveningCloakModel", "lets", "(III)V"⟩, 15), (⟨"EveningCloakModel", "isDeposit", "(I)Z"⟩, 15), (⟨"EveningCloakModel", "shines", "(I)I"⟩, 15), (⟨"EveningCloakModel", "it", "(II)I"⟩, 15), (⟨"EveningCloakModel", "reaches", "(I)I"⟩, 15), (⟨"EveningCloakModel", "wears", "(I)I"⟩, 15), (⟨"EveningCloakModel", "lightAt", "(I)I"⟩, 15), (⟨"EveningCloakModel", "isHere", "(I)Z"⟩, 15), (⟨"EveningCloakModel", "costs", "(I)I"⟩, 15)]
theorem lw_r2 : ∀ q ∈ lw_privs_2, lw_okq q := List.forall_mem_cons.mpr ⟨lw_p16, List.forall_mem_cons.mpr ⟨lw_p17, List.forall_mem_cons.mpr ⟨lw_p18, List.forall_mem_cons.mpr ⟨lw_p19, List.forall_mem_cons.mpr ⟨lw_p20, List.forall_mem_cons.mpr ⟨lw_p21, List.forall_mem_cons.mpr ⟨lw_p22, List.forall_mem_cons.mpr ⟨lw_p23, List.forall_mem_cons.mpr ⟨lw_p24, List.forall_mem_cons.mpr ⟨lw_p25, List.forall_mem_cons.mpr ⟨lw_p26, List.forall_mem_cons.mpr ⟨lw_p27, List.forall_mem_cons.mpr ⟨lw_p28, List.forall_mem_cons.mpr ⟨lw_p29, List.forall_mem_cons.mpr ⟨lw_p30, List.forall_mem_cons.mpr ⟨lw_p31, fun _ h => absurd h List.not_mem_nil⟩⟩⟩⟩⟩⟩⟩⟩⟩⟩⟩⟩⟩⟩⟩⟩
theorem lw_p32 : lw_okq (⟨"EveningCloakModel", "isGirl", "(I)Z"⟩, 15) := ⟨⟨by decide +kernel, by decide +kernel⟩, List.mem_of_getElem? (i := 690) (by decide +kernel), List.mem_of_getElem? (i := 843) (by decide +kernel), List.mem_of_getElem? (i := 844) (by decide +kernel)⟩
theorem lw_p33 : lw_okq (⟨"EveningCloakModel", "her", "(II)I"⟩, 15) := ⟨⟨by decide +kernel, by decide +kernel⟩, List.mem_of_getElem? (i := 690) (by decide +kernel), List.mem_of_getElem? (i := 847) (by decide +kernel), List.mem_of_getElem? (i := 848) (by decide +kernel)⟩
theorem lw_p34 : lw_okq (⟨"EveningCloakModel", "orNone", "(I)I"⟩, 15) := ⟨⟨by decide +kernel, by decide +kernel⟩, List.mem_of_getElem? (i := 690) (by decide +kernel), List.mem_of_getElem? (i := 863) (by decide +kernel), List.mem_of_getElem? (i := 864) (by decide +kernel)⟩
theorem lw_p35 : lw_okq (⟨"EveningCloakModel", "goesFor", "(I)V"⟩, 15) := ⟨⟨by decide +kernel, by decide +kernel⟩, List.mem_of_getElem? (i := 690) (by decide +kernel), List.mem_of_getElem? (i := 874) (by decide +kernel), List.mem_of_getElem? (i := 875) (by decide +kernel)⟩
theorem lw_p36 : lw_okq (⟨"EveningCloakModel", "goes", "()V"⟩, 15) := ⟨⟨by decide +kernel, by decide +kernel⟩, List.mem_of_getElem? (i := 690) (by decide +kernel), List.mem_of_getElem? (i := 878) (by decide +kernel), List.mem_of_getElem? (i := 879) (by decide +kernel)⟩
theorem lw_p37 : lw_okq (⟨"EveningCloakModel", "stands", "(II)V"⟩, 15) := ⟨⟨by decide +kernel, by decide +kernel⟩, List.mem_of_getElem? (i := 690) (by decide +kernel), List.mem_of_getElem? (i := 882) (by decide +kernel), List.mem_of_getElem? (i := 883) (by decide +kernel)⟩
theorem lw_p38 : lw_okq (⟨"EveningCloakModel", "allCost", "()I"⟩, 15) := ⟨⟨by decide +kernel, by decide +kernel⟩, List.mem_of_getElem? (i := 690) (by decide +kernel), List.mem_of_getElem? (i := 886) (by decide +kernel), List.mem_of_getElem? (i := 887) (by decide +kernel)⟩
theorem lw_p39 : lw_okq (⟨"EveningCloakModel", "sums", "(I)I"⟩, 15) := ⟨⟨by decide +kernel, by decide +kernel⟩, List.mem_of_getElem? (i := 690) (by decide +kernel), List.mem_of_getElem? (i := 894) (by decide +kernel), List.mem_of_getElem? (i := 895) (by decide +kernel)⟩
theorem lw_p40 : lw_okq (⟨"EveningCloakModel", "goneOnes", "()I"⟩, 15) := ⟨⟨by decide +kernel, by decide +kernel⟩, List.mem_of_getElem? (i := 690) (by decide +kernel), List.mem_of_getElem? (i := 898) (by decide +kernel), List.mem_of_getElem? (i := 899) (by decide +kernel)⟩
theorem lw_p41 : lw_okq (⟨"EveningCloakModel", "darkOnes", "()I"⟩, 15) := ⟨⟨by decide +kernel, by decide +kernel⟩, List.mem_of_getElem? (i := 690) (by decide +kernel), List.mem_of_getElem? (i := 902) (by decide +kernel), List.mem_of_getElem? (i := 903) (by decide +kernel)⟩
theorem lw_p42 : lw_okq (⟨"EveningCloakModel", "lightest", "()I"⟩, 15) := ⟨⟨by decide +kernel, by decide +kernel⟩, List.mem_of_getElem? (i := 690) (by decide +kernel), List.mem_of_getElem? (i := 906) (by decide +kernel), List.mem_of_getElem? (i := 907) (by decide +kernel)⟩
theorem lw_p43 : lw_okq (⟨"EveningCloakModel", "thinks", "()V"⟩, 15) := ⟨⟨by decide +kernel, by decide +kernel⟩, List.mem_of_getElem? (i := 690) (by decide +kernel), List.mem_of_getElem? (i := 914) (by decide +kernel), List.mem_of_getElem? (i := 915) (by decide +kernel)⟩
theorem lw_p44 : lw_okq (⟨"EveningCloakModel", "putsBack", "()V"⟩, 15) := ⟨⟨by decide +kernel, by decide +kernel⟩, List.mem_of_getElem? (i := 690) (by decide +kernel), List.mem_of_getElem? (i := 921) (by decide +kernel), List.mem_of_getElem? (i := 922) (by decide +kernel)⟩
theorem lw_p45 : lw_okq (⟨"EveningCloakModel", "muchIn", "(II)I"⟩, 15) := ⟨⟨by decide +kernel, by decide +kernel⟩, List.mem_of_getElem? (i := 690) (by decide +kernel), List.mem_of_getElem? (i := 937) (by decide +kernel), List.mem_of_getElem? (i := 938) (by decide +kernel)⟩
theorem lw_p46 : lw_okq (⟨"EveningCloakModel", "mostBy", "(IIII)I"⟩, 15) := ⟨⟨by decide +kernel, by decide +kernel⟩, List.mem_of_getElem? (i := 690) (by decide +kernel), List.mem_of_getElem? (i := 953) (by decide +kernel), List.mem_of_getElem? (i := 954) (by decide +kernel)⟩
theorem lw_p47 : lw_okq (⟨"EveningCloakModel", "metBehind", "(I)I"⟩, 15) := ⟨⟨by decide +kernel, by decide +kernel⟩, List.mem_of_getElem? (i := 690) (by decide +kernel), List.mem_of_getElem? (i := 957) (by decide +kernel), List.mem_of_getElem? (i := 958) (by decide +kernel)⟩
def lw_privs_3 : List (MethodName × Nat) := [(⟨"EveningCloakModel", "isGirl", "(I)Z"⟩, 15), (⟨"EveningCloakModel", "her", "(II)I"⟩, 15), (⟨"EveningCloakModel", "orNone", "(I)I"⟩, 15), (⟨"EveningCloakModel", "goesFor", "(I)V"⟩, 15), (⟨"EveningCloakModel", "goes", "()V"⟩, 15), (⟨"EveningCloakModel", "stands", "(II)V"⟩, 15), (⟨"EveningCloakModel", "allCost", "()I"⟩, 15), (⟨"EveningCloakModel", "sums", "(I)I"⟩, 15), (⟨"EveningCloakModel", "goneOnes", "()I"⟩, 15), (⟨"EveningCloakModel", "darkOnes", "()I"⟩, 15), (⟨"EveningCloakModel", "lightest", "()I"⟩, 15), (⟨"EveningCloakModel", "thinks", "()V"⟩, 15), (⟨"EveningCloakModel", "putsBack", "()V"⟩, 15), (⟨"EveningCloakModel", "muchIn", "(II)I"⟩, 15), (⟨"EveningCloakModel", "mostBy", "(IIII)I"⟩, 15), (⟨"EveningCloakModel", "metBehind", "(I)I"⟩, 15)]
theorem lw_r3 : ∀ q ∈ lw_privs_3, lw_okq q := List.forall_mem_cons.mpr ⟨lw_p32, List.forall_mem_cons.mpr ⟨lw_p33, List.forall_mem_cons.mpr ⟨lw_p34, List.forall_mem_cons.mpr ⟨lw_p35, List.forall_mem_cons.mpr ⟨lw_p36, List.forall_mem_cons.mpr ⟨lw_p37, List.forall_mem_cons.mpr ⟨lw_p38, List.forall_mem_cons.mpr ⟨lw_p39, List.forall_mem_cons.mpr ⟨lw_p40, List.forall_mem_cons.mpr ⟨lw_p41, List.forall_mem_cons.mpr ⟨lw_p42, List.forall_mem_cons.mpr ⟨lw_p43, List.forall_mem_cons.mpr ⟨lw_p44, List.forall_mem_cons.mpr ⟨lw_p45, List.forall_mem_cons.mpr ⟨lw_p46, List.forall_mem_cons.mpr ⟨lw_p47, fun _ h => absurd h List.not_mem_nil⟩⟩⟩⟩⟩⟩⟩⟩⟩⟩⟩⟩⟩⟩⟩⟩
theorem lw_p48 : lw_okq (⟨"EveningCloakModel", "isAsNow", "(II)Z"⟩, 15) := ⟨⟨by decide +kernel, by decide +kernel⟩, List.mem_of_getElem? (i := 690) (by decide +kernel), List.mem_of_getElem? (i := 980) (by decide +kernel), List.mem_of_getElem? (i := 981) (by decide +kernel)⟩
theorem lw_p49 : lw_okq (⟨"EveningCloakModel", "notAsked", "(II)I"⟩, 15) := ⟨⟨by decide +kernel, by decide +kernel⟩, List.mem_of_getElem? (i := 690) (by decide +kernel), List.mem_of_getElem? (i := 988) (by decide +kernel), List.mem_of_getElem? (i := 989) (by decide +kernel)⟩
theorem lw_p50 : lw_okq (⟨"EveningCloakModel", "notThere", "(I)I"⟩, 15) := ⟨⟨by decide +kernel, by decide +kernel⟩, List.mem_of_getElem? (i := 690) (by decide +kernel), List.mem_of_getElem? (i := 992) (by decide +kernel), List.mem_of_getElem? (i := 993) (by decide +kernel)⟩
theorem lw_p51 : lw_okq (⟨"EveningCloakModel", "allowed", "(III)I"⟩, 15) := ⟨⟨by decide +kernel, by decide +kernel⟩, List.mem_of_getElem? (i := 690) (by decide +kernel), List.mem_of_getElem? (i := 1000) (by decide +kernel), List.mem_of_getElem? (i := 1001) (by decide +kernel)⟩
theorem lw_p52 : lw_okq (⟨"EveningCloakModel", "isTold", "(I)Z"⟩, 15) := ⟨⟨by decide +kernel, by decide +kernel⟩, List.mem_of_getElem? (i := 690) (by decide +kernel), List.mem_of_getElem? (i := 1004) (by decide +kernel), List.mem_of_getElem? (i := 1005) (by decide +kernel)⟩
theorem lw_p53 : lw_okq (⟨"EveningCloakModel", "draw", "()I"⟩, 15) := ⟨⟨by decide +kernel, by decide +kernel⟩, List.mem_of_getElem? (i := 690) (by decide +kernel), List.mem_of_getElem? (i := 1016) (by decide +kernel), List.mem_of_getElem? (i := 1017) (by decide +kernel)⟩
theorem lw_p54 : lw_okq (⟨"EveningCloakModel", "reads", "()V"⟩, 15) := ⟨⟨by decide +kernel, by decide +kernel⟩, List.mem_of_getElem? (i := 690) (by decide +kernel), List.mem_of_getElem? (i := 1043) (by decide +kernel), List.mem_of_getElem? (i := 1044) (by decide +kernel)⟩
theorem lw_p55 : lw_okq (⟨"EveningCloakModel", "isByte", "(III)Z"⟩, 15) := ⟨⟨by decide +kernel, by decide +kernel⟩, List.mem_of_getElem? (i := 690) (by decide +kernel), List.mem_of_getElem? (i := 1047) (by decide +kernel), List.mem_of_getElem? (i := 1048) (by decide +kernel)⟩
theorem lw_p56 : lw_okq (⟨"EveningCloakModel", "wordHere", "()I"⟩, 15) := ⟨⟨by decide +kernel, by decide +kernel⟩, List.mem_of_getElem? (i := 690) (by decide +kernel), List.mem_of_getElem? (i := 1051) (by decide +kernel), List.mem_of_getElem? (i := 1052) (by decide +kernel)⟩
theorem lw_p57 : lw_okq (⟨"EveningCloakModel", "isName", "(II)Z"⟩, 15) := ⟨⟨by decide +kernel, by decide +kernel⟩, List.mem_of_getElem? (i := 690) (by decide +kernel), List.mem_of_getElem? (i := 1055) (by decide +kernel), List.mem_of_getElem? (i := 1056) (by decide +kernel)⟩
theorem lw_p58 : lw_okq (⟨"EveningCloakModel", "item", "()V"⟩, 15) := ⟨⟨by decide +kernel, by decide +kernel⟩, List.mem_of_getElem? (i := 690) (by decide +kernel), List.mem_of_getElem? (i := 1061) (by decide +kernel), List.mem_of_getElem? (i := 1062) (by decide +kernel)⟩
theorem lw_p59 : lw_okq (⟨"EveningCloakModel", "depositItem", "()V"⟩, 15) := ⟨⟨by decide +kernel, by decide +kernel⟩, List.mem_of_getElem? (i := 690) (by decide +kernel), List.mem_of_getElem? (i := 1065) (by decide +kernel), List.mem_of_getElem? (i := 1066) (by decide +kernel)⟩
theorem lw_p60 : lw_okq (⟨"EveningCloakModel", "perhaps", "(IIII)I"⟩, 15) := ⟨⟨by decide +kernel, by decide +kernel⟩, List.mem_of_getElem? (i := 690) (by decide +kernel), List.mem_of_getElem? (i := 1069) (by decide +kernel), List.mem_of_getElem? (i := 1070) (by decide +kernel)⟩
theorem lw_p61 : lw_okq (⟨"EveningCloakModel", "takes", "(I)Z"⟩, 15) := ⟨⟨by decide +kernel, by decide +kernel⟩, List.mem_of_getElem? (i := 690) (by decide +kernel), List.mem_of_getElem? (i := 1073) (by decide +kernel), List.mem_of_getElem? (i := 1074) (by decide +kernel)⟩
theorem lw_p62 : lw_okq (⟨"EveningCloakModel", "number", "(II)I"⟩, 15) := ⟨⟨by decide +kernel, by decide +kernel⟩, List.mem_of_getElem? (i := 690) (by decide +kernel), List.mem_of_getElem? (i := 1077) (by decide +kernel), List.mem_of_getElem? (i := 1078) (by decide +kernel)⟩
theorem lw_p63 : lw_okq (⟨"EveningCloakModel", "girlItem", "()V"⟩, 15) := ⟨⟨by decide +kernel, by decide +kernel⟩, List.mem_of_getElem? (i := 690) (by decide +kernel), List.mem_of_getElem? (i := 1081) (by decide +kernel), List.mem_of_getElem? (i := 1082) (by decide +kernel)⟩
def lw_privs_4 : List (MethodName × Nat) := [(⟨"EveningCloakModel", "isAsNow", "(II)Z"⟩, 15), (⟨"EveningCloakModel", "notAsked", "(II)I"⟩, 15), (⟨"EveningCloakModel", "notThere", "(I)I"⟩, 15), (⟨"EveningCloakModel", "allowed", "(III)I"⟩, 15), (⟨"EveningCloakModel", "isTold", "(I)Z"⟩, 15), (⟨"EveningCloakModel", "draw", "()I"⟩, 15), (⟨"EveningCloakModel", "reads", "()V"⟩, 15), (⟨"EveningCloakModel", "isByte", "(III)Z"⟩, 15), (⟨"EveningCloakModel", "wordHere", "()I"⟩, 15), (⟨"EveningCloakModel", "isName", "(II)Z"⟩, 15), (⟨"EveningCloakModel", "item", "()V"⟩, 15), (⟨"EveningCloakModel", "depositItem", "()V"⟩, 15), (⟨"EveningCloakModel", "perhaps", "(IIII)I"⟩, 15), (⟨"EveningCloakModel", "takes", "(I)Z"⟩, 15), (⟨"EveningCloakModel", "number", "(II)I"⟩, 15), (⟨"EveningCloakModel", "girlItem", "()V"⟩, 15)]
theorem lw_r4 : ∀ q ∈ lw_privs_4, lw_okq q := List.forall_mem_cons.mpr ⟨lw_p48, List.forall_mem_cons.mpr ⟨lw_p49, List.forall_mem_cons.mpr ⟨lw_p50, List.forall_mem_cons.mpr ⟨lw_p51, List.forall_mem_cons.mpr ⟨lw_p52, List.forall_mem_cons.mpr ⟨lw_p53, List.forall_mem_cons.mpr ⟨lw_p54, List.forall_mem_cons.mpr ⟨lw_p55, List.forall_mem_cons.mpr ⟨lw_p56, List.forall_mem_cons.mpr ⟨lw_p57, List.forall_mem_cons.mpr ⟨lw_p58, List.forall_mem_cons.mpr ⟨lw_p59, List.forall_mem_cons.mpr ⟨lw_p60, List.forall_mem_cons.mpr ⟨lw_p61, List.forall_mem_cons.mpr ⟨lw_p62, List.forall_mem_cons.mpr ⟨lw_p63, fun _ h => absurd h List.not_mem_nil⟩⟩⟩⟩⟩⟩⟩⟩⟩⟩⟩⟩⟩⟩⟩⟩
theorem lw_p64 : lw_okq (⟨"EveningCloakModel", "standItem", "()V"⟩, 15) := ⟨⟨by decide +kernel, by decide +kernel⟩, List.mem_of_getElem? (i := 690) (by decide +kernel), List.mem_of_getElem? (i := 1085) (by decide +kernel), List.mem_of_getElem? (i := 1086) (by decide +kernel)⟩
theorem lw_p65 : lw_okq (⟨"EveningCloakModel", "notCopied", "(IIIII)I"⟩, 15) := ⟨⟨by decide +kernel, by decide +kernel⟩, List.mem_of_getElem? (i := 690) (by decide +kernel), List.mem_of_getElem? (i := 1114) (by decide +kernel), List.mem_of_getElem? (i := 1115) (by decide +kernel)⟩
theorem lw_p66 : lw_okq (⟨"EveningCloakModel", "manyHeld", "()I"⟩, 15) := ⟨⟨by decide +kernel, by decide +kernel⟩, List.mem_of_getElem? (i := 690) (by decide +kernel), List.mem_of_getElem? (i := 1142) (by decide +kernel), List.mem_of_getElem? (i := 1143) (by decide +kernel)⟩
def lw_privs_5 : List (MethodName × Nat) := [(⟨"EveningCloakModel", "standItem", "()V"⟩, 15), (⟨"EveningCloakModel", "notCopied", "(IIIII)I"⟩, 15), (⟨"EveningCloakModel", "manyHeld", "()I"⟩, 15)]
theorem lw_r5 : ∀ q ∈ lw_privs_5, lw_okq q := List.forall_mem_cons.mpr ⟨lw_p64, List.forall_mem_cons.mpr ⟨lw_p65, List.forall_mem_cons.mpr ⟨lw_p66, fun _ h => absurd h List.not_mem_nil⟩⟩⟩
def lw_privs : List (MethodName × Nat) := lw_privs_1 ++ (lw_privs_2 ++ (lw_privs_3 ++ (lw_privs_4 ++ (lw_privs_5))))
def lw_tbl : List Cond := k2_sels lw_privs ++ tables_1
theorem lw_privs_ok : ∀ q ∈ lw_privs, lw_okq q := by
  show ∀ q ∈ lw_privs_1 ++ (lw_privs_2 ++ (lw_privs_3 ++ (lw_privs_4 ++ (lw_privs_5)))), lw_okq q
  exact List.forall_mem_append.mpr ⟨lw_r1, List.forall_mem_append.mpr ⟨lw_r2, List.forall_mem_append.mpr ⟨lw_r3, List.forall_mem_append.mpr ⟨lw_r4, lw_r5⟩⟩⟩⟩
end
section
/-! NAMES of the program, printed by wip/whole/gen/names.py: classes by number, their fields by slot, where each word stands in the table -/
def Rn : Nat → String := fun k => match k with
  | 0 => "EveningCloak"
  | 1 => "EveningCloak$Reader"
  | 2 => "EveningCloak$Room"
  | 3 => "EveningCloak$Sheet"
  | 4 => "EveningCloakModel"
  | 5 => "java/lang/Integer"
  | 6 => "java/util/Arrays"
  | 7 => "java/lang/String"
  | 8 => "java/lang/StringLatin1"
  | 9 => "java/lang/Math"
  | 10 => "java/lang/System"
  | 11 => "jdk/internal/util/Preconditions"
  | _ => "EveningCloakLaw"
def T0 : u_T := fun k => match k with
  | 0 => ("EveningCloak", "room", "LEveningCloak$Room;", true)
  | 1 => ("EveningCloak", "trial", "LEveningCloak$Room;", true)
  | 2 => ("EveningCloak", "latest", "LEveningCloak$Room;", true)
  | 3 => ("EveningCloak", "latestKept", "Z", false)
  | 4 => ("EveningCloak", "reader", "LEveningCloak$Reader;", true)
  | 5 => ("EveningCloak", "sheets", "[LEveningCloak$Sheet;", true)
  | _ => ("EveningCloak", "found", "[I", true)
def ty0 : Nat → FieldType := fun k => match k with
  | 0 => .object "EveningCloak$Room"
  | 1 => .object "EveningCloak$Room"
  | 2 => .object "EveningCloak$Room"
  | 3 => .boolean
  | 4 => .object "EveningCloak$Reader"
  | 5 => .array (.object "EveningCloak$Sheet")
  | _ => .array .int
def T1 : u_T := fun k => match k with
  | 0 => ("EveningCloak$Reader", "bytes", "[I", true)
  | 1 => ("EveningCloak$Reader", "count", "I", false)
  | 2 => ("EveningCloak$Reader", "token", "I", false)
  | 3 => ("EveningCloak$Reader", "start", "I", false)
  | 4 => ("EveningCloak$Reader", "behind", "I", false)
  | _ => ("EveningCloak$Reader", "number", "I", false)
def ty1 : Nat → FieldType := fun k => match k with
  | 0 => .array .int
  | 1 => .int
  | 2 => .int
  | 3 => .int
  | 4 => .int
  | _ => .int
def T2 : u_T := fun k => match k with
  | 0 => ("EveningCloak$Room", "day", "I", false)
  | 1 => ("EveningCloak$Room", "fees", "I", false)
  | 2 => ("EveningCloak$Room", "z", "I", false)
  | 3 => ("EveningCloak$Room", "deposits", "I", false)
  | 4 => ("EveningCloak$Room", "girls", "I", false)
  | 5 => ("EveningCloak$Room", "list", "[I", true)
  | 6 => ("EveningCloak$Room", "kind", "[I", true)
  | 7 => ("EveningCloak$Room", "hanger", "[I", true)
  | 8 => ("EveningCloak$Room", "stub", "[I", true)
  | 9 => ("EveningCloak$Room", "kept", "[I", true)
  | 10 => ("EveningCloak$Room", "worn", "[I", true)
  | 11 => ("EveningCloak$Room", "out", "[I", true)
  | 12 => ("EveningCloak$Room", "dream", "[I", true)
  | 13 => ("EveningCloak$Room", "hope", "[I", true)
  | 14 => ("EveningCloak$Room", "met", "[I", true)
  | _ => ("EveningCloak$Room", "spots", "[I", true)
def ty2 : Nat → FieldType := fun k => match k with
  | 0 => .int
  | 1 => .int
  | 2 => .int
  | 3 => .int
  | 4 => .int
  | 5 => .array .int
  | 6 => .array .int
  | 7 => .array .int
  | 8 => .array .int
  | 9 => .array .int
  | 10 => .array .int
  | 11 => .array .int
  | 12 => .array .int
  | 13 => .array .int
  | 14 => .array .int
  | _ => .array .int
def T3 : u_T := fun k => match k with
  | 0 => ("EveningCloak$Sheet", "bits", "I", false)
  | 1 => ("EveningCloak$Sheet", "size", "I", false)
  | _ => ("EveningCloak$Sheet", "numbers", "[I", true)
def ty3 : Nat → FieldType := fun k => match k with
  | 0 => .int
  | 1 => .int
  | _ => .array .int
def T4 : u_T := fun k => match k with
  | 0 => ("EveningCloakModel", "m", "[I", true)
  | 1 => ("EveningCloakModel", "kept", "[I", true)
  | 2 => ("EveningCloakModel", "was", "[I", true)
  | 3 => ("EveningCloakModel", "isKept", "Z", false)
  | 4 => ("EveningCloakModel", "found", "[I", true)
  | 5 => ("EveningCloakModel", "bitsOf", "[I", true)
  | 6 => ("EveningCloakModel", "sizeOf", "[I", true)
  | 7 => ("EveningCloakModel", "cells", "[I", true)
  | 8 => ("EveningCloakModel", "tape", "[I", true)
  | 9 => ("EveningCloakModel", "taped", "I", false)
  | 10 => ("EveningCloakModel", "token", "I", false)
  | 11 => ("EveningCloakModel", "begin", "I", false)
  | 12 => ("EveningCloakModel", "at", "I", false)
  | 13 => ("EveningCloakModel", "value", "I", false)
  | _ => ("EveningCloakModel", "bad", "Z", false)
def ty4 : Nat → FieldType := fun k => match k with
  | 0 => .array .int
  | 1 => .array .int
  | 2 => .array .int
  | 3 => .boolean
  | 4 => .array .int
  | 5 => .array .int
  | 6 => .array .int
  | 7 => .array .int
  | 8 => .array .int
  | 9 => .int
  | 10 => .int
  | 11 => .int
  | 12 => .int
  | 13 => .int
  | _ => .boolean
def Tn : Nat → u_T := fun k => match k with
  | 0 => T0
  | 1 => T1
  | 2 => T2
  | 3 => T3
  | _ => T4
def tyn : Nat → Nat → FieldType := fun k => match k with
  | 0 => ty0
  | 1 => ty1
  | 2 => ty2
  | 3 => ty3
  | _ => ty4
def Nn : Nat → Nat := fun k => match k with
  | 0 => 7
  | 1 => 6
  | 2 => 16
  | 3 => 3
  | _ => 15
def lg : List Cond := lw_tbl.filter goodWord
theorem lg_all : lg.all goodWord = true := List.all_eq_true.mpr fun w h => (List.mem_filter.mp h).2
theorem lgm {w : Cond} (i : Nat) (h : lw_tbl[i]? = some w) (hg : goodWord w = true) : w ∈ lg := List.mem_filter.mpr ⟨List.mem_of_getElem? h, hg⟩
abbrev cls : List vw_C := [(Rn 0, Tn 0, Nn 0), (Rn 1, Tn 1, Nn 1), (Rn 2, Tn 2, Nn 2), (Rn 3, Tn 3, Nn 3), (Rn 4, Tn 4, Nn 4)]
theorem cls_at {ci : Nat} (h : ci < 5) : cls[ci]? = some (Rn ci, Tn ci, Nn ci) := by
  rcases (show ci = 0 ∨ ci = 1 ∨ ci = 2 ∨ ci = 3 ∨ ci = 4 by omega) with rfl | rfl | rfl | rfl | rfl <;> rfl
theorem nm0 : ∀ a, a < Nn 0 → ∀ b, b < Nn 0 → a ≠ b → (Tn 0 a).2.1 ≠ (Tn 0 b).2.1 := by decide +kernel
theorem tok0 : ∀ k, k < Nn 0 → parseFieldDescriptor (Tn 0 k).2.2.1 = some (tyn 0 k) := by decide +kernel
theorem inA0 : ∀ k, k < Nn 0 → lw_tbl[(([224, 226, 228, 230, 232, 234, 236] : List Nat).getD k 0)]? = some (u_lay (Rn 0) (Tn 0) k) ∧ goodWord (u_lay (Rn 0) (Tn 0) k) = true := by decide +kernel
theorem nm1 : ∀ a, a < Nn 1 → ∀ b, b < Nn 1 → a ≠ b → (Tn 1 a).2.1 ≠ (Tn 1 b).2.1 := by decide +kernel
theorem tok1 : ∀ k, k < Nn 1 → parseFieldDescriptor (Tn 1 k).2.2.1 = some (tyn 1 k) := by decide +kernel
theorem inA1 : ∀ k, k < Nn 1 → lw_tbl[(([184, 186, 188, 190, 192, 194] : List Nat).getD k 0)]? = some (u_lay (Rn 1) (Tn 1) k) ∧ goodWord (u_lay (Rn 1) (Tn 1) k) = true := by decide +kernel
theorem nm2 : ∀ a, a < Nn 2 → ∀ b, b < Nn 2 → a ≠ b → (Tn 2 a).2.1 ≠ (Tn 2 b).2.1 := by decide +kernel
theorem tok2 : ∀ k, k < Nn 2 → parseFieldDescriptor (Tn 2 k).2.2.1 = some (tyn 2 k) := by decide +kernel
theorem inA2 : ∀ k, k < Nn 2 → lw_tbl[(([137, 139, 141, 143, 145, 147, 149, 151, 153, 155, 157, 159, 161, 163, 165, 167] : List Nat).getD k 0)]? = some (u_lay (Rn 2) (Tn 2) k) ∧ goodWord (u_lay (Rn 2) (Tn 2) k) = true := by decide +kernel
theorem nm3 : ∀ a, a < Nn 3 → ∀ b, b < Nn 3 → a ≠ b → (Tn 3 a).2.1 ≠ (Tn 3 b).2.1 := by decide +kernel
theorem tok3 : ∀ k, k < Nn 3 → parseFieldDescriptor (Tn 3 k).2.2.1 = some (tyn 3 k) := by decide +kernel
theorem inA3 : ∀ k, k < Nn 3 → lw_tbl[(([210, 212, 214] : List Nat).getD k 0)]? = some (u_lay (Rn 3) (Tn 3) k) ∧ goodWord (u_lay (Rn 3) (Tn 3) k) = true := by decide +kernel
theorem nm4 : ∀ a, a < Nn 4 → ∀ b, b < Nn 4 → a ≠ b → (Tn 4 a).2.1 ≠ (Tn 4 b).2.1 := by decide +kernel
theorem tok4 : ∀ k, k < Nn 4 → parseFieldDescriptor (Tn 4 k).2.2.1 = some (tyn 4 k) := by decide +kernel
theorem inA4 : ∀ k, k < Nn 4 → lw_tbl[(([777, 779, 781, 783, 785, 787, 789, 791, 793, 795, 797, 799, 801, 803, 805] : List Nat).getD k 0)]? = some (u_lay (Rn 4) (Tn 4) k) ∧ goodWord (u_lay (Rn 4) (Tn 4) k) = true := by decide +kernel
theorem fiveQ {P : Nat → Prop} (h0 : P 0) (h1 : P 1) (h2 : P 2) (h3 : P 3) (h4 : P 4) {ci : Nat} (h : ci < 5) : P ci := by
  rcases (show ci = 0 ∨ ci = 1 ∨ ci = 2 ∨ ci = 3 ∨ ci = 4 by omega) with rfl | rfl | rfl | rfl | rfl <;> assumption
theorem nmn {ci : Nat} (h : ci < 5) : ∀ a, a < Nn ci → ∀ b, b < Nn ci → a ≠ b → (Tn ci a).2.1 ≠ (Tn ci b).2.1 := fiveQ (P := fun ci => ∀ a, a < Nn ci → ∀ b, b < Nn ci → a ≠ b → (Tn ci a).2.1 ≠ (Tn ci b).2.1) nm0 nm1 nm2 nm3 nm4 h
theorem tokn {ci : Nat} (h : ci < 5) : ∀ k, k < Nn ci → parseFieldDescriptor (Tn ci k).2.2.1 = some (tyn ci k) := fiveQ (P := fun ci => ∀ k, k < Nn ci → parseFieldDescriptor (Tn ci k).2.2.1 = some (tyn ci k)) tok0 tok1 tok2 tok3 tok4 h
theorem inn0 {ci : Nat} {f : Nat → Nat} (h : ∀ k, k < Nn ci → lw_tbl[f k]? = some (u_lay (Rn ci) (Tn ci) k) ∧ goodWord (u_lay (Rn ci) (Tn ci) k) = true) : ∀ w ∈ u_ws (Rn ci) (Tn ci) (Nn ci), w ∈ lg := by
  intro w hw
  obtain ⟨k, hk, rfl⟩ := List.mem_map.mp hw
  exact lgm _ (h k (List.mem_range.mp hk)).1 (h k (List.mem_range.mp hk)).2
theorem inn {ci : Nat} (h : ci < 5) : ∀ w ∈ u_ws (Rn ci) (Tn ci) (Nn ci), w ∈ lg := fiveQ (P := fun ci => ∀ w ∈ u_ws (Rn ci) (Tn ci) (Nn ci), w ∈ lg) (inn0 inA0) (inn0 inA1) (inn0 inA2) (inn0 inA3) (inn0 inA4) h
def nst : List (String × Nat × MethodName × String) := [("EveningCloak", 24, ⟨"EveningCloak$Reader", "<init>", "()V"⟩, "EveningCloak"), ("EveningCloak", 39, ⟨"EveningCloak$Sheet", "<init>", "()V"⟩, "EveningCloak"), ("EveningCloak$Room", 73, ⟨"EveningCloak", "within", "(III)Z"⟩, "EveningCloak"), ("EveningCloak$Room", 94, ⟨"EveningCloak", "standOf", "(II)I"⟩, "EveningCloak"), ("EveningCloak$Reader", 115, ⟨"EveningCloak", "within", "(III)Z"⟩, "EveningCloak"), ("EveningCloak$Reader", 112, ⟨"EveningCloak", "standOf", "(II)I"⟩, "EveningCloak")]
def strs : List (Nat × Nat × String) := [(1, 35, "girl"), (1, 105, "hope"), (1, 44, "stand"), (1, 141, "coat"), (1, 143, "evening"), (1, 145, "hat"), (1, 147, "dusk"), (1, 149, "moon"), (1, 151, "umbrella"), (1, 153, "topper"), (1, 66, "on"), (1, 75, "stub"), (1, 79, "kept"), (1, 83, "worn"), (1, 87, "out")]
def slen : List Nat := [4, 4, 5, 4, 7, 3, 4, 4, 8, 6, 2, 4, 4, 4, 3]
def sbyt : List (List Int32) := [[103, 105, 114, 108], [104, 111, 112, 101], [115, 116, 97, 110, 100], [99, 111, 97, 116], [101, 118, 101, 110, 105, 110, 103], [104, 97, 116], [100, 117, 115, 107], [109, 111, 111, 110], [117, 109, 98, 114, 101, 108, 108, 97], [116, 111, 112, 112, 101, 114], [111, 110], [115, 116, 117, 98], [107, 101, 112, 116], [119, 111, 114, 110], [111, 117, 116]]
def sarr : List (String × String × List Int32) := [("EveningCloak", "MOST_OF", [6, 15, 99, 9999, 99, 1]), ("EveningCloak", "LEAST_OF_GIRL", [0, 1, 0]), ("EveningCloak", "MOST_OF_GIRL", [99, 99, 9999]), ("EveningCloak", "ABOVE", [-1, 0, 0, 1, 3, 0, 2]), ("EveningCloakModel", "NAMES", [99, 111, 97, 116, 0, 0, 0, 0, 101, 118, 101, 110, 105, 110, 103, 0, 104, 97, 116, 0, 0, 0, 0, 0, 100, 117, 115, 107, 0, 0, 0, 0, 109, 111, 111, 110, 0, 0, 0, 0, 117, 109, 98, 114, 101, 108, 108, 97, 116, 111, 112, 112, 101, 114, 0, 0, 111, 110, 0, 0, 0, 0, 0, 0, 115, 116, 117, 98, 0, 0, 0, 0, 107, 101, 112, 116, 0, 0, 0, 0, 119, 111, 114, 110, 0, 0, 0, 0, 111, 117, 116, 0, 0, 0, 0, 0, 103, 105, 114, 108, 0, 0, 0, 0, 104, 111, 112, 101, 0, 0, 0, 0, 115, 116, 97, 110, 100, 0, 0, 0])]
end
section
/-! THE CORE: an abstract world (a list of cells, a cell's place is its abstract address), a frame's abstract locals and stack, and the judgement Sm: from every machine state that shows them the goal is reached -/
abbrev A_E : Type := (Nat × (Nat → Int32)) ⊕ ((Nat × (Nat → Option Nat)) ⊕ (Nat × List Value))
abbrev A_W : Type := List A_E
abbrev A_R : Type := List (Option Value)
abbrev Gx : Type := Launch × Nat × va_G × ClassId × ClassId × (Nat → Nat)
def gL (G : Gx) : Launch := G.1
def gB (G : Gx) : Nat := G.2.1
def gD (G : Gx) : va_G := G.2.2.1
def gI (G : Gx) : ClassId := G.2.2.2.1
def gS (G : Gx) : ClassId := G.2.2.2.2.1
def gT (G : Gx) : Nat → Nat := G.2.2.2.2.2
def gA (G : Gx) : Nat → Prop := fun q => gB G ≤ q
def ad (G : Gx) (k : Nat) : Nat := if k < 1000000 then gB G + k else gT G (k - 1000000)
def rl (G : Gx) : Value → Value
  | .ref a => .ref (ad G a)
  | v => v
def cn (G : Gx) : A_E → va_E
  | .inl (n, f) => .inl (gI G, n, .inl f)
  | .inr (.inl (n, g)) => .inl (gS G, n, .inr (.inr (.inr (.inr (fun i => (g i).map (ad G))))))
  | .inr (.inr (c, fs)) => .inr (c, fs.map (rl G))
def gY (G : Gx) : List (ClassId × FieldType) := [(gI G, .int), (gS G, .object (Rn 3))]
def WD (G : Gx) (w : A_W) (H : Heap) : Prop := H.size = gB G + w.length ∧ w.length ≤ 1000000 ∧ ∀ (k : Nat) (e : A_E), w[k]? = some e → va_at (gD G) cls (gB G + k, cn G e) H
theorem ad_lt {G : Gx} {k : Nat} (h : k < 1000000) : ad G k = gB G + k := if_pos h
theorem WD_ad {G : Gx} {w : A_W} {H : Heap} (h : WD G w H) {k : Nat} {e : A_E} (he : w[k]? = some e) : ad G k = gB G + k := ad_lt (Nat.lt_of_lt_of_le (List.getElem?_eq_some_iff.mp he).1 h.2.1)
theorem WD_at {G : Gx} {w : A_W} {H : Heap} (h : WD G w H) {k : Nat} {e : A_E} (he : w[k]? = some e) : va_at (gD G) cls (ad G k, cn G e) H := by
  rw [WD_ad h he]; exact h.2.2 k e he
theorem WD_P {G : Gx} {w : A_W} {H : Heap} (h : WD G w H) {k : Nat} {e : A_E} (he : w[k]? = some e) : va_P (gD G) cls [(ad G k, cn G e)] H := by
  intro j q hq
  match j, hq with
  | 0, hq => cases hq; exact WD_at h he
  | j + 1, hq => simp at hq
/-- one cell changes -/
theorem WD_set {G : Gx} {w : A_W} {H H1 : Heap} (h : WD G w H) {k : Nat} {e e1 : A_E} (he : w[k]? = some e) (z : H1.size = H.size) (o : ∀ q : Nat, q ≠ ad G k → H1[q]? = H[q]?) (h1 : va_at (gD G) cls (ad G k, cn G e1) H1) : WD G (w.set k e1) H1 := by
  refine ⟨by rw [z, h.1, List.length_set], by rw [List.length_set]; exact h.2.1, fun j x hx => ?_⟩
  by_cases hj : j = k
  · subst hj
    rw [List.getElem?_set_self (List.getElem?_eq_some_iff.mp he).1] at hx
    cases hx
    rw [← WD_ad h he]; exact h1
  · rw [List.getElem?_set_ne (Ne.symm hj)] at hx
    refine (h.2.2 j x hx).kept (o _ ?_)
    rw [WD_ad h he]
    show gB G + j ≠ gB G + k
    omega
/-- one cell comes -/
theorem WD_push {G : Gx} {w : A_W} {H H1 : Heap} (h : WD G w H) {e1 : A_E} (hl : w.length < 1000000) (z : H1.size = H.size + 1) (o : ∀ q : Nat, q < H.size → H1[q]? = H[q]?) (h1 : va_at (gD G) cls (H.size, cn G e1) H1) : WD G (w ++ [e1]) H1 := by
  refine ⟨by rw [z, h.1, List.length_append]; rfl, by rw [List.length_append]; exact hl, fun j x hx => ?_⟩
  by_cases hj : j < w.length
  · rw [List.getElem?_append_left hj] at hx
    exact (h.2.2 j x hx).kept (o _ (by show gB G + j < H.size; rw [h.1]; omega))
  · have hlt := (List.getElem?_eq_some_iff.mp hx).1
    rw [List.length_append] at hlt
    have : j = w.length := by simp at hlt; omega
    subst this
    rw [List.getElem?_append_right (Nat.le_refl _), Nat.sub_self] at hx
    cases hx
    rw [← h.1]; exact h1
/-- abstract addresses of the static rows, of the texts, of the texts' bytes -/
def aA (j : Nat) : Nat := 1000000 + j
def sA (j : Nat) : Nat := 1000100 + j
def sV (j : Nat) : Nat := 1000200 + j
def fA : Nat := 1000300
/-- what stays of a state through every call: the classes' numbers, the nest's words, the static rows, the texts -/
def KK (G : Gx) (U : State) : Prop := va_K (gD G) cls (gY G) U ∧ (∀ q ∈ nst, va_Nw (.methodLinkNest q.1 q.2.1 q.2.2.1 q.2.2.2) U) ∧ (∀ (j : Nat) (q : String × String × List Int32), sarr[j]? = some q → va_Z q.1 q.2.1 "[I" (.ref (ad G (aA j))) (gA G) U U.heap ∧ va_T .int (ad G (aA j)) q.2.2.length (fun k => .int (q.2.2.getD k 0)) (gA G) U U.heap) ∧ (∀ (j : Nat) (q : Nat × Nat × String), strs[j]? = some q → vk_R (Rn q.1) q.2.1 q.2.2 (ad G (sA j)) U) ∧ vk_S 15 slen sbyt (fun j => ad G (sA j)) (fun j => ad G (sV j)) (gA G) U U.heap ∧ va_Z "java/lang/String" "COMPACT_STRINGS" "Z" (.int 1) (gA G) U U.heap ∧ va_AO (Rn 3) U ∧ (va_Z "jdk/internal/util/Preconditions" "SIOOBE_FORMATTER" "Ljava/util/function/BiFunction;" .null (gA G) U U.heap ∨ va_Z "jdk/internal/util/Preconditions" "SIOOBE_FORMATTER" "Ljava/util/function/BiFunction;" (.ref (ad G fA)) (gA G) U U.heap)
theorem KK.moved {G : Gx} {s U : State} (h : KK G s) (hW : s.WarmedH U.vm) (hq : ∀ a : Nat, a < s.heap.size → ¬ gA G a → U.heap[a]? = s.heap[a]?) : KK G U := by
  obtain ⟨h1, h2, h3, h4, h5, h6, h7, h8⟩ := h
  exact ⟨va_K.moved hW.alike h1, fun q hm => va_Nw.warmM hW (h2 q hm), fun j q hj => ⟨((h3 j q hj).1.moved hW.alike).kept hq, ((h3 j q hj).2.moved hW.alike).kept hq⟩, fun j q hj => (h4 j q hj).warm hW, (h5.moved hW.alike).kept hq, (h6.moved hW.alike).kept hq, va_AO.moved hW.alike h7, h8.imp (fun z => (z.moved hW.alike).kept hq) (fun z => (z.moved hW.alike).kept hq)⟩
theorem KK.same {G : Gx} {s U : State} (h : KK G s) (hv : s.vm = U.vm) (hh : U.heap = s.heap) : KK G U := by
  obtain ⟨h1, h2, h3, h4, h5, h6, h7, h8⟩ := h
  have ha : s.vm.Alike U.vm := by rw [← hv]; exact Vm.Alike.refl _
  have hq : ∀ a : Nat, a < s.heap.size → ¬ gA G a → U.heap[a]? = s.heap[a]? := fun a _ _ => by rw [hh]
  exact ⟨va_K.moved ha h1, fun q hm => (h2 q hm).same rfl hv, fun j q hj => ⟨((h3 j q hj).1.moved ha).kept hq, ((h3 j q hj).2.moved ha).kept hq⟩, fun j q hj => (h4 j q hj).same hv.symm, (h5.moved ha).kept hq, (h6.moved ha).kept hq, va_AO.moved ha h7, h8.imp (fun z => (z.moved ha).kept hq) (fun z => (z.moved ha).kept hq)⟩
/-- a frame's context: p, e, R, s, m, args, below, meth, c, Q -/
abbrev Cx : Type := Program × Env × Room × State × MethodId × Array Value × List Frame × Method × Code × (State → Prop)
def xP (X : Cx) : Program := X.1
def xE (X : Cx) : Env := X.2.1
def xR (X : Cx) : Room := X.2.2.1
def xS (X : Cx) : State := X.2.2.2.1
def xM (X : Cx) : MethodId := X.2.2.2.2.1
def xG (X : Cx) : Array Value := X.2.2.2.2.2.1
def xB (X : Cx) : List Frame := X.2.2.2.2.2.2.1
def xH (X : Cx) : Method := X.2.2.2.2.2.2.2.1
def xC (X : Cx) : Code := X.2.2.2.2.2.2.2.2.1
def xQ (X : Cx) : State → Prop := X.2.2.2.2.2.2.2.2.2
def lk : A_R → Nat → Option Value
  | [], _ => none
  | a :: _, 0 => a
  | _ :: t, n + 1 => lk t n
def sv : A_R → Nat → Option Value → A_R
  | [], _, _ => []
  | _ :: t, 0, v => v :: t
  | a :: t, n + 1, v => a :: sv t n v
theorem lk_sv (r : A_R) (i : Nat) (v : Option Value) (j : Nat) : lk (sv r i v) j = if j = i ∧ i < r.length then v else lk r j := by
  induction r generalizing i j with
  | nil => simp [sv, lk]
  | cons a t ih =>
    cases i with
    | zero => cases j <;> simp [sv, lk]
    | succ i => cases j with
      | zero => simp [sv, lk]
      | succ j => simp [sv, lk, ih]
theorem sv_len (r : A_R) (i : Nat) (v : Option Value) : (sv r i v).length = r.length := by
  induction r generalizing i with
  | nil => rfl
  | cons a t ih => cases i <;> simp [sv, ih]
theorem lk_lt {r : A_R} {i : Nat} {v : Value} (h : lk r i = some v) : i < r.length := by
  induction r generalizing i with
  | nil => simp [lk] at h
  | cons a t ih => cases i with
    | zero => simp
    | succ i => simpa using ih h
def LH (G : Gx) (ls : Array Slot) (r : A_R) : Prop := ls.size = r.length ∧ lv_wf ls ∧ ∀ (i : Nat) (v : Value), lk r i = some v → ls[i]? = some (.val (rl G v))
/-- the listed pairs of the locals -/
def prs (G : Gx) (r : A_R) : List (Nat × Value) := (List.range r.length).filterMap (fun i => (lk r i).map (fun v => (i, rl G v)))
theorem prs_mem {G : Gx} {r : A_R} {i : Nat} {x : Value} : (i, x) ∈ prs G r ↔ ∃ v, lk r i = some v ∧ x = rl G v := by
  unfold prs
  rw [List.mem_filterMap]
  constructor
  · rintro ⟨j, -, h⟩
    cases hl : lk r j with
    | none => rw [hl] at h; cases h
    | some v => rw [hl] at h; cases h; exact ⟨v, hl, rfl⟩
  · rintro ⟨v, h, rfl⟩
    exact ⟨i, List.mem_range.mpr (lk_lt h), by rw [h]; rfl⟩
theorem LH.has {G : Gx} {ls : Array Slot} {r : A_R} (h : LH G ls r) : lv_has ls r.length (prs G r) := ⟨h.1, h.2.1, fun q hq => by
  obtain ⟨v, h1, h2⟩ := prs_mem.mp (show (q.1, q.2) ∈ prs G r from hq)
  rw [h2]; exact h.2.2 _ _ h1⟩
theorem LH.of {G : Gx} {ls : Array Slot} {r : A_R} {l : List (Nat × Value)} (h : lv_has ls r.length l) (hr : ∀ (i : Nat) (v : Value), lk r i = some v → (i, rl G v) ∈ l) : LH G ls r := ⟨h.1, h.2.1, fun i v hv => h.2.2 _ (hr i v hv)⟩
/-- the judgement -/
def Sm (G : Gx) (X : Cx) (w : A_W) (nc ns : Nat) (r : A_R) (st : List Value) (pc : Nat) : Prop :=
  ∀ (H : Heap) (locs : List Loc) (ls : Array Slot), WD G w H → va_S (gA G) (xS X).heap H locs → LH G ls r → W (xP X) (gL G) (xE X) (xR X) (xS X) (xM X) (xG X) (xB X) (xH X) (xC X) H locs nc ns (xQ X) (F0 (xM X) pc ls (st.map (rl G)))
def Ok (G : Gx) (X : Cx) (own : Nat) (cc : ByteArray) (nL : Nat) (rt : Option FieldType) (rm : Room) : Prop :=
  (xP X).tables.exec = Jvm.exec ∧ (xC X).code = cc ∧ (xH X).sig.returnType = rt ∧ (xC X).maxLocals = nL ∧ (xS X).vm.findClass (Rn own) = some (xM X).cls ∧ (∀ w ∈ lg, w.before (xG X) (xS X) = true) ∧ KK G (xS X) ∧ (xH X).locks = false ∧ xR X = rm ∧ gB G ≤ (xS X).heap.size
end
section
/-! THE RULES of Sm: small steps that compute (t1, runL), and one rule for each other instruction -/
abbrev Ent : Type := Nat × Instr × Nat × Nat × Value × Nat × Nat × Nat
def vI (v : Value) (x : Int32) : Bool := match v with
  | .int y => decide (x = y)
  | _ => false
def vJ (v : Value) (x : Int64) : Bool := match v with
  | .long y => decide (x = y)
  | _ => false
def exF (own : Nat) (q : Ent) (idx : Nat) : Bool := decide (q.2.2.2.2.2.1 < 5) && (decide (q.2.2.2.2.2.2.1 < Nn q.2.2.2.2.2.1) && decide (lw_tbl[q.2.2.2.2.2.2.2]? = some (.fieldLink (Rn own) idx (Rn q.2.2.2.2.2.1) (Tn q.2.2.2.2.2.1 q.2.2.2.2.2.2.1).2.1 (Tn q.2.2.2.2.2.1 q.2.2.2.2.2.2.1).2.2.1)))
def exC (own : Nat) (q : Ent) (idx : Nat) : Bool := match q.2.2.2.2.1 with
  | .int v => decide (lw_tbl[q.2.2.2.2.2.2.2]? = some (.constant (Rn own) idx v))
  | .ref a => decide (a = sA q.2.2.2.2.2.2.1) && (match strs[q.2.2.2.2.2.2.1]? with
    | some z => decide (z.1 = own) && decide (z.2.1 = idx)
    | none => false)
  | _ => false
def exG (own : Nat) (q : Ent) (idx : Nat) : Bool := match q.2.2.2.2.1 with
  | .ref a => decide (a = aA q.2.2.2.2.2.2.1) && (match sarr[q.2.2.2.2.2.2.1]? with
    | some z => decide (lw_tbl[q.2.2.2.2.2.2.2]? = some (.fieldLink (Rn own) idx z.1 z.2.1 "[I"))
    | none => false)
  | _ => false
def exL (own : Nat) (q : Ent) (idx : Nat) : Bool := match q.2.2.2.2.1 with
  | .long v => decide (lw_tbl[q.2.2.2.2.2.2.2]? = some (.constantLong (Rn own) idx v))
  | _ => false
def ex (own : Nat) (q : Ent) : Bool := match q.2.1 with
  | .iconst n => vI q.2.2.2.2.1 (Int32.ofInt n) && decide (q.2.2.2.1 = q.1 + 1)
  | .bipush n => vI q.2.2.2.2.1 (Int8.ofInt n).toInt32 && decide (q.2.2.2.1 = q.1 + 2)
  | .sipush n => vI q.2.2.2.2.1 (Int16.ofInt n).toInt32 && decide (q.2.2.2.1 = q.1 + 3)
  | .lconst n => vJ q.2.2.2.2.1 (Int64.ofNat n) && decide (q.2.2.2.1 = q.1 + 1)
  | .iinc _ n => vI q.2.2.2.2.1 (Int32.ofInt n) && decide (q.2.2.2.1 = q.1 + 3)
  | .ldc idx => exC own q idx && decide (q.2.2.2.1 = q.1 + 2)
  | .ldc_w idx => exC own q idx && decide (q.2.2.2.1 = q.1 + 3)
  | .ldc2_w idx => exL own q idx && decide (q.2.2.2.1 = q.1 + 3)
  | .getstatic idx => exG own q idx && decide (q.2.2.2.1 = q.1 + 3)
  | .getfield idx => exF own q idx
  | .putfield idx => exF own q idx
  | .goto off => decide ((q.1 : Int) + off = (q.2.2.2.1 : Int))
  | .if_icmp _ off => decide ((q.1 : Int) + off = (q.2.2.2.1 : Int))
  | .ifCond _ off => decide ((q.1 : Int) + off = (q.2.2.2.1 : Int))
  | _ => decide (q.2.2.2.1 = q.1 + q.2.2.1)
def il : Instr → Nat
  | .iload_n _ | .aload_n _ | .lload_n _ | .istore_n _ | .astore_n _ | .lstore_n _ | .iconst _ | .lconst _ => 1
  | .iload _ | .aload _ | .lload _ | .istore _ | .astore _ | .lstore _ | .bipush _ | .ldc _ => 2
  | .iinc .. | .sipush _ | .ldc_w _ | .ldc2_w _ | .getstatic _ | .goto _ | .if_icmp .. | .ifCond .. | .getfield _ | .putfield _ => 3
  | .invokevirtual _ | .invokestatic _ | .invokespecial _ | .new _ | .anewarray _ => 3
  | .newarray _ => 2
  | .iadd | .isub | .imul | .iand | .ior | .ixor | .ishl | .ishr | .iushr | .ladd | .lmul | .ineg | .i2b | .i2s | .i2l => 1
  | .idiv | .irem | .ldiv | .lrem | .lcmp | .dup | .pop | .dup_x1 | .dup2 | .iaload | .iastore | .aaload | .aastore | .arraylength => 1
  | .ireturn | .areturn | .lreturn | .return_ => 1
  | _ => 0
def eok (own : Nat) (cc : ByteArray) (q : Ent) : Bool := decide (decode cc q.1 = .ok (q.2.1, q.2.2.1)) && (decide (il q.2.1 = 0 ∨ q.2.2.1 = il q.2.1) && ex own q)
theorem eok_l {own : Nat} {cc : ByteArray} {q : Ent} (h : eok own cc q = true) : il q.2.1 = 0 ∨ q.2.2.1 = il q.2.1 := by
  unfold eok at h
  exact of_decide_eq_true (Bool.and_eq_true_iff.mp (Bool.and_eq_true_iff.mp h).2).1
theorem eok_d {own : Nat} {cc : ByteArray} {q : Ent} (h : eok own cc q = true) : decode cc q.1 = .ok (q.2.1, q.2.2.1) := by
  unfold eok at h
  exact of_decide_eq_true (Bool.and_eq_true_iff.mp h).1
theorem eok_x {own : Nat} {cc : ByteArray} {q : Ent} (h : eok own cc q = true) : ex own q = true := by
  unfold eok at h
  exact (Bool.and_eq_true_iff.mp (Bool.and_eq_true_iff.mp h).2).2
/-- the decode row of an entry, with the length that its instruction has -/
theorem eok_i {own : Nat} {cc : ByteArray} {pc len nx ci k pl n : Nat} {ins : Instr} {v : Value} (h : eok own cc (pc, ins, len, nx, v, ci, k, pl) = true) (hn : il ins = n + 1) : decode cc pc = .ok (ins, n + 1) := by
  have h1 := eok_d h
  have h2 := eok_l h
  dsimp only at h1 h2
  rcases h2 with h2 | h2
  · rw [hn] at h2; cases h2
  · rw [h1, h2, hn]
theorem eo {own : Nat} {cc : ByteArray} {es : List Ent} (h : es.all (eok own cc) = true) {i : Nat} {q : Ent} (hi : es[i]? = some q) : eok own cc q = true := List.all_eq_true.mp h q (List.mem_of_getElem? hi)
theorem vI_e {v : Value} {x : Int32} (h : vI v x = true) : v = .int x := by
  cases v <;> simp [vI] at h
  rw [h]
theorem vJ_e {v : Value} {x : Int64} (h : vJ v x = true) : v = .long x := by
  cases v <;> simp [vJ] at h
  rw [h]
def okb (r : A_R) : Nat → Bool
  | 0 => true
  | i + 1 => match lk r i with
    | some (.long _) => false
    | some (.double _) => false
    | _ => true
def sto (r : A_R) (i : Nat) (v : Value) : Option A_R := match okb r i && Nat.ble (i + 1) r.length with
  | true => some (sv r i (some v))
  | false => none
def sto2 (r : A_R) (i : Nat) (v : Value) : Option A_R := match okb r i && Nat.ble (i + 2) r.length with
  | true => some (sv (sv r i (some v)) (i + 1) none)
  | false => none
section SMR
variable {G : Gx} {X : Cx} {own nL : Nat} {cc : ByteArray} {rt : Option FieldType} {rm : Room} {w : A_W} {nc ns : Nat} {r : A_R} {st : List Value} {pc : Nat}
theorem s_iload_n (K : Ok G X own cc nL rt rm) {k : Fin 4} {x : Int32} (hd : decode cc pc = .ok (.iload_n k, 1)) (hl : lk r k.val = some (.int x)) (kk : Sm G X w nc ns r (.int x :: st) (pc + 1)) : Sm G X w nc ns r st pc := fun H locs ls hw hS h => lv_iload_n K.1 K.2.1 hd rfl (h.2.2 _ _ hl) (kk H locs ls hw hS h)
theorem s_iload (K : Ok G X own cc nL rt rm) {i : Nat} {x : Int32} (hd : decode cc pc = .ok (.iload i, 2)) (hl : lk r i = some (.int x)) (kk : Sm G X w nc ns r (.int x :: st) (pc + 2)) : Sm G X w nc ns r st pc := fun H locs ls hw hS h => lv_iload K.1 K.2.1 hd (h.2.2 _ _ hl) (kk H locs ls hw hS h)
theorem s_aload_n (K : Ok G X own cc nL rt rm) {k : Fin 4} {x : Nat} (hd : decode cc pc = .ok (.aload_n k, 1)) (hl : lk r k.val = some (.ref x)) (kk : Sm G X w nc ns r (.ref x :: st) (pc + 1)) : Sm G X w nc ns r st pc := fun H locs ls hw hS h => lv_aload_n K.1 K.2.1 hd rfl (h.2.2 _ _ hl) (kk H locs ls hw hS h)
theorem s_aload (K : Ok G X own cc nL rt rm) {i : Nat} {x : Nat} (hd : decode cc pc = .ok (.aload i, 2)) (hl : lk r i = some (.ref x)) (kk : Sm G X w nc ns r (.ref x :: st) (pc + 2)) : Sm G X w nc ns r st pc := fun H locs ls hw hS h => lv_aload K.1 K.2.1 hd (h.2.2 _ _ hl) (kk H locs ls hw hS h)
theorem s_lload_n (K : Ok G X own cc nL rt rm) {k : Fin 4} {x : Int64} (hd : decode cc pc = .ok (.lload_n k, 1)) (hl : lk r k.val = some (.long x)) (kk : Sm G X w nc ns r (.long x :: st) (pc + 1)) : Sm G X w nc ns r st pc := fun H locs ls hw hS h => lv_lload_n K.1 K.2.1 hd rfl (h.2.2 _ _ hl) (kk H locs ls hw hS h)
theorem s_lload (K : Ok G X own cc nL rt rm) {i : Nat} {x : Int64} (hd : decode cc pc = .ok (.lload i, 2)) (hl : lk r i = some (.long x)) (kk : Sm G X w nc ns r (.long x :: st) (pc + 2)) : Sm G X w nc ns r st pc := fun H locs ls hw hS h => lv_lload K.1 K.2.1 hd (h.2.2 _ _ hl) (kk H locs ls hw hS h)
theorem rl_cat (G : Gx) (v : Value) : (rl G v).category = v.category := by cases v <;> rfl
theorem okb_at {r : A_R} {i : Nat} (h : okb r i = true) {j : Nat} {v : Value} (hj : lk r j = some v) (e : j + 1 = i) : ¬ v.category = 2 := by
  subst e
  simp only [okb, hj] at h
  intro hc
  cases v <;> simp [Value.category] at hc h
theorem sto_e {r r' : A_R} {i : Nat} {v : Value} (h : sto r i v = some r') : okb r i = true ∧ i < r.length ∧ r' = sv r i (some v) := by
  unfold sto at h
  cases hb : okb r i && Nat.ble (i + 1) r.length with
  | false => rw [hb] at h; cases h
  | true =>
    rw [hb] at h; cases h
    have := Bool.and_eq_true_iff.mp hb
    exact ⟨this.1, Nat.le_of_ble_eq_true this.2, rfl⟩
theorem sto2_e {r r' : A_R} {i : Nat} {v : Value} (h : sto2 r i v = some r') : okb r i = true ∧ i + 1 < r.length ∧ r' = sv (sv r i (some v)) (i + 1) none := by
  unfold sto2 at h
  cases hb : okb r i && Nat.ble (i + 2) r.length with
  | false => rw [hb] at h; cases h
  | true =>
    rw [hb] at h; cases h
    have := Bool.and_eq_true_iff.mp hb
    exact ⟨this.1, Nat.le_of_ble_eq_true this.2, rfl⟩
theorem sto_LH {r : A_R} {i : Nat} {v : Value} {ls' : Array Slot} (hk : okb r i = true) (hi : i < r.length) (h : lv_has ls' r.length ((i, rl G v) :: (prs G r).filter (fun q => !(q.1 == i) && !(q.1 + 1 == i && q.2.category == 2)))) : LH G ls' (sv r i (some v)) := by
  refine LH.of (by rw [sv_len]; exact h) fun j x hj => ?_
  rw [lk_sv] at hj
  by_cases e : j = i
  · subst e
    rw [if_pos ⟨rfl, hi⟩] at hj
    cases hj
    exact List.mem_cons_self
  · rw [if_neg (fun z => e z.1)] at hj
    refine List.mem_cons_of_mem _ (List.mem_filter.mpr ⟨prs_mem.mpr ⟨x, hj, rfl⟩, ?_⟩)
    by_cases e1 : j + 1 = i
    · have := okb_at hk hj e1
      simp [e, e1, rl_cat, this]
    · simp [e, e1]
theorem sto2_LH {r : A_R} {i : Nat} {v : Value} {ls' : Array Slot} (hk : okb r i = true) (hi : i + 1 < r.length) (h : lv_has ls' r.length ((i, rl G v) :: (prs G r).filter (fun q => !(q.1 == i) && (!(q.1 == i + 1) && !(q.1 + 1 == i && q.2.category == 2))))) : LH G ls' (sv (sv r i (some v)) (i + 1) none) := by
  refine LH.of (by rw [sv_len, sv_len]; exact h) fun j x hj => ?_
  rw [lk_sv, lk_sv, sv_len] at hj
  by_cases e2 : j = i + 1
  · rw [if_pos ⟨e2, hi⟩] at hj; cases hj
  · rw [if_neg (fun z => e2 z.1)] at hj
    by_cases e : j = i
    · subst e
      rw [if_pos ⟨rfl, by omega⟩] at hj
      cases hj
      exact List.mem_cons_self
    · rw [if_neg (fun z => e z.1)] at hj
      refine List.mem_cons_of_mem _ (List.mem_filter.mpr ⟨prs_mem.mpr ⟨x, hj, rfl⟩, ?_⟩)
      by_cases e1 : j + 1 = i
      · have := okb_at hk hj e1
        simp [e, e1, e2, rl_cat, this]
      · simp [e, e1, e2]
theorem s_istore_n (K : Ok G X own cc nL rt rm) {k : Fin 4} {x : Int32} {r1 : A_R} (hd : decode cc pc = .ok (.istore_n k, 1)) (h1 : sto r k.val (.int x) = some r1) (kk : Sm G X w nc ns r1 st (pc + 1)) : Sm G X w nc ns r (.int x :: st) pc := fun H locs ls hw hS h => by
  obtain ⟨hk, hi, rfl⟩ := sto_e h1
  exact lv_istore_n K.1 K.2.1 hd rfl h.has hi rfl (fun ls1 h2 => kk H locs ls1 hw hS (sto_LH (v := .int x) hk hi h2))
theorem s_istore (K : Ok G X own cc nL rt rm) {i : Nat} {x : Int32} {r1 : A_R} (hd : decode cc pc = .ok (.istore i, 2)) (h1 : sto r i (.int x) = some r1) (kk : Sm G X w nc ns r1 st (pc + 2)) : Sm G X w nc ns r (.int x :: st) pc := fun H locs ls hw hS h => by
  obtain ⟨hk, hi, rfl⟩ := sto_e h1
  exact lv_istore K.1 K.2.1 hd h.has hi rfl (fun ls1 h2 => kk H locs ls1 hw hS (sto_LH (v := .int x) hk hi h2))
theorem s_astore_n (K : Ok G X own cc nL rt rm) {k : Fin 4} {x : Nat} {r1 : A_R} (hd : decode cc pc = .ok (.astore_n k, 1)) (h1 : sto r k.val (.ref x) = some r1) (kk : Sm G X w nc ns r1 st (pc + 1)) : Sm G X w nc ns r (.ref x :: st) pc := fun H locs ls hw hS h => by
  obtain ⟨hk, hi, rfl⟩ := sto_e h1
  exact lv_astore_n K.1 K.2.1 hd rfl h.has hi rfl (fun ls1 h2 => kk H locs ls1 hw hS (sto_LH (v := .ref x) hk hi h2))
theorem s_astore (K : Ok G X own cc nL rt rm) {i : Nat} {x : Nat} {r1 : A_R} (hd : decode cc pc = .ok (.astore i, 2)) (h1 : sto r i (.ref x) = some r1) (kk : Sm G X w nc ns r1 st (pc + 2)) : Sm G X w nc ns r (.ref x :: st) pc := fun H locs ls hw hS h => by
  obtain ⟨hk, hi, rfl⟩ := sto_e h1
  exact lv_astore K.1 K.2.1 hd h.has hi rfl (fun ls1 h2 => kk H locs ls1 hw hS (sto_LH (v := .ref x) hk hi h2))
theorem s_lstore_n (K : Ok G X own cc nL rt rm) {k : Fin 4} {x : Int64} {r1 : A_R} (hd : decode cc pc = .ok (.lstore_n k, 1)) (h1 : sto2 r k.val (.long x) = some r1) (kk : Sm G X w nc ns r1 st (pc + 1)) : Sm G X w nc ns r (.long x :: st) pc := fun H locs ls hw hS h => by
  obtain ⟨hk, hi, rfl⟩ := sto2_e h1
  exact lv_lstore_n K.1 K.2.1 hd rfl h.has hi rfl (fun ls1 h2 => kk H locs ls1 hw hS (sto2_LH (v := .long x) hk hi h2))
theorem s_lstore (K : Ok G X own cc nL rt rm) {i : Nat} {x : Int64} {r1 : A_R} (hd : decode cc pc = .ok (.lstore i, 2)) (h1 : sto2 r i (.long x) = some r1) (kk : Sm G X w nc ns r1 st (pc + 2)) : Sm G X w nc ns r (.long x :: st) pc := fun H locs ls hw hS h => by
  obtain ⟨hk, hi, rfl⟩ := sto2_e h1
  exact lv_lstore K.1 K.2.1 hd h.has hi rfl (fun ls1 h2 => kk H locs ls1 hw hS (sto2_LH (v := .long x) hk hi h2))
theorem s_iinc (K : Ok G X own cc nL rt rm) {i : Nat} {n : Int} {x v : Int32} {r1 : A_R} (hd : decode cc pc = .ok (.iinc i n, 3)) (hl : lk r i = some (.int x)) (hv : Int32.ofInt n = v) (h1 : sto r i (.int (x + v)) = some r1) (kk : Sm G X w nc ns r1 st (pc + 3)) : Sm G X w nc ns r st pc := fun H locs ls hw hS h => by
  obtain ⟨hk, hi, rfl⟩ := sto_e h1
  obtain ⟨j, hj⟩ := List.mem_iff_getElem?.mp (prs_mem.mpr ⟨_, hl, rfl⟩ : (i, rl G (.int x)) ∈ prs G r)
  exact lv_iinc K.1 K.2.1 hd h.has (k := j) hj (by rw [hv]) hi rfl (fun ls1 h2 => kk H locs ls1 hw hS (sto_LH (v := .int (x + v)) hk hi h2))
theorem s_iconst (K : Ok G X own cc nL rt rm) {n : Int} {v : Int32} (hd : decode cc pc = .ok (.iconst n, 1)) (hv : Int32.ofInt n = v) (kk : Sm G X w nc ns r (.int v :: st) (pc + 1)) : Sm G X w nc ns r (st) pc := fun H locs ls hw hS h => lv_iconst K.1 K.2.1 hd hv (kk H locs ls hw hS h)
theorem s_bipush (K : Ok G X own cc nL rt rm) {n : Int} {v : Int32} (hd : decode cc pc = .ok (.bipush n, 2)) (hv : (Int8.ofInt n).toInt32 = v) (kk : Sm G X w nc ns r (.int v :: st) (pc + 2)) : Sm G X w nc ns r (st) pc := fun H locs ls hw hS h => lv_bipush K.1 K.2.1 hd hv (kk H locs ls hw hS h)
theorem s_sipush (K : Ok G X own cc nL rt rm) {n : Int} {v : Int32} (hd : decode cc pc = .ok (.sipush n, 3)) (hv : (Int16.ofInt n).toInt32 = v) (kk : Sm G X w nc ns r (.int v :: st) (pc + 3)) : Sm G X w nc ns r (st) pc := fun H locs ls hw hS h => lv_sipush K.1 K.2.1 hd hv (kk H locs ls hw hS h)
theorem s_lconst (K : Ok G X own cc nL rt rm) {n : Fin 2} {v : Int64} (hd : decode cc pc = .ok (.lconst n, 1)) (hv : Int64.ofNat (n : Nat) = v) (kk : Sm G X w nc ns r (.long v :: st) (pc + 1)) : Sm G X w nc ns r (st) pc := fun H locs ls hw hS h => lv_lconst K.1 K.2.1 hd hv (kk H locs ls hw hS h)
theorem s_ineg (K : Ok G X own cc nL rt rm) {x : Int32} (hd : decode cc pc = .ok (.ineg, 1))  (kk : Sm G X w nc ns r (.int (-x) :: st) (pc + 1)) : Sm G X w nc ns r (.int x :: st) pc := fun H locs ls hw hS h => lv_ineg K.1 K.2.1 hd  (kk H locs ls hw hS h)
theorem s_i2b (K : Ok G X own cc nL rt rm) {x : Int32} (hd : decode cc pc = .ok (.i2b, 1))  (kk : Sm G X w nc ns r (.int x.toInt8.toInt32 :: st) (pc + 1)) : Sm G X w nc ns r (.int x :: st) pc := fun H locs ls hw hS h => lv_i2b K.1 K.2.1 hd rfl (kk H locs ls hw hS h)
theorem s_i2s (K : Ok G X own cc nL rt rm) {x : Int32} (hd : decode cc pc = .ok (.i2s, 1))  (kk : Sm G X w nc ns r (.int x.toInt16.toInt32 :: st) (pc + 1)) : Sm G X w nc ns r (.int x :: st) pc := fun H locs ls hw hS h => lv_i2s K.1 K.2.1 hd rfl (kk H locs ls hw hS h)
theorem s_i2l (K : Ok G X own cc nL rt rm) {x : Int32} (hd : decode cc pc = .ok (.i2l, 1))  (kk : Sm G X w nc ns r (.long x.toInt64 :: st) (pc + 1)) : Sm G X w nc ns r (.int x :: st) pc := fun H locs ls hw hS h => lv_i2l K.1 K.2.1 hd rfl (kk H locs ls hw hS h)
theorem s_iushr (K : Ok G X own cc nL rt rm) {x y : Int32} (hd : decode cc pc = .ok (.iushr, 1))  (kk : Sm G X w nc ns r (.int (x.toUInt32 >>> (y.toUInt32 &&& Int32.toUInt32 31)).toInt32 :: st) (pc + 1)) : Sm G X w nc ns r (.int y :: .int x :: st) pc := fun H locs ls hw hS h => lv_iushr K.1 K.2.1 hd rfl (kk H locs ls hw hS h)
theorem s_iadd (K : Ok G X own cc nL rt rm) {x y : Int32} (hd : decode cc pc = .ok (.iadd, 1))  (kk : Sm G X w nc ns r (.int (x + y) :: st) (pc + 1)) : Sm G X w nc ns r (.int y :: .int x :: st) pc := fun H locs ls hw hS h => lv_iadd K.1 K.2.1 hd  (kk H locs ls hw hS h)
theorem s_isub (K : Ok G X own cc nL rt rm) {x y : Int32} (hd : decode cc pc = .ok (.isub, 1))  (kk : Sm G X w nc ns r (.int (x - y) :: st) (pc + 1)) : Sm G X w nc ns r (.int y :: .int x :: st) pc := fun H locs ls hw hS h => lv_isub K.1 K.2.1 hd  (kk H locs ls hw hS h)
theorem s_imul (K : Ok G X own cc nL rt rm) {x y : Int32} (hd : decode cc pc = .ok (.imul, 1))  (kk : Sm G X w nc ns r (.int (x * y) :: st) (pc + 1)) : Sm G X w nc ns r (.int y :: .int x :: st) pc := fun H locs ls hw hS h => lv_imul K.1 K.2.1 hd  (kk H locs ls hw hS h)
theorem s_iand (K : Ok G X own cc nL rt rm) {x y : Int32} (hd : decode cc pc = .ok (.iand, 1))  (kk : Sm G X w nc ns r (.int (x &&& y) :: st) (pc + 1)) : Sm G X w nc ns r (.int y :: .int x :: st) pc := fun H locs ls hw hS h => lv_iand K.1 K.2.1 hd  (kk H locs ls hw hS h)
theorem s_ior (K : Ok G X own cc nL rt rm) {x y : Int32} (hd : decode cc pc = .ok (.ior, 1))  (kk : Sm G X w nc ns r (.int (x ||| y) :: st) (pc + 1)) : Sm G X w nc ns r (.int y :: .int x :: st) pc := fun H locs ls hw hS h => lv_ior K.1 K.2.1 hd  (kk H locs ls hw hS h)
theorem s_ixor (K : Ok G X own cc nL rt rm) {x y : Int32} (hd : decode cc pc = .ok (.ixor, 1))  (kk : Sm G X w nc ns r (.int (x ^^^ y) :: st) (pc + 1)) : Sm G X w nc ns r (.int y :: .int x :: st) pc := fun H locs ls hw hS h => lv_ixor K.1 K.2.1 hd  (kk H locs ls hw hS h)
theorem s_ishl (K : Ok G X own cc nL rt rm) {x y : Int32} (hd : decode cc pc = .ok (.ishl, 1))  (kk : Sm G X w nc ns r (.int (x <<< (y &&& 31)) :: st) (pc + 1)) : Sm G X w nc ns r (.int y :: .int x :: st) pc := fun H locs ls hw hS h => lv_ishl K.1 K.2.1 hd  (kk H locs ls hw hS h)
theorem s_ishr (K : Ok G X own cc nL rt rm) {x y : Int32} (hd : decode cc pc = .ok (.ishr, 1))  (kk : Sm G X w nc ns r (.int (x >>> (y &&& 31)) :: st) (pc + 1)) : Sm G X w nc ns r (.int y :: .int x :: st) pc := fun H locs ls hw hS h => lv_ishr K.1 K.2.1 hd  (kk H locs ls hw hS h)
theorem s_ladd (K : Ok G X own cc nL rt rm) {x y : Int64} (hd : decode cc pc = .ok (.ladd, 1))  (kk : Sm G X w nc ns r (.long (x + y) :: st) (pc + 1)) : Sm G X w nc ns r (.long y :: .long x :: st) pc := fun H locs ls hw hS h => lv_ladd K.1 K.2.1 hd  (kk H locs ls hw hS h)
theorem s_lmul (K : Ok G X own cc nL rt rm) {x y : Int64} (hd : decode cc pc = .ok (.lmul, 1))  (kk : Sm G X w nc ns r (.long (x * y) :: st) (pc + 1)) : Sm G X w nc ns r (.long y :: .long x :: st) pc := fun H locs ls hw hS h => lv_lmul K.1 K.2.1 hd  (kk H locs ls hw hS h)
theorem s_idiv (K : Ok G X own cc nL rt rm) {x y : Int32} (hd : decode cc pc = .ok (.idiv, 1)) (hne : ¬ y = 0) (kk : Sm G X w nc ns r (.int (x / y) :: st) (pc + 1)) : Sm G X w nc ns r (.int y :: .int x :: st) pc := fun H locs ls hw hS h => lv_idiv K.1 K.2.1 hd hne (kk H locs ls hw hS h)
theorem s_irem (K : Ok G X own cc nL rt rm) {x y : Int32} (hd : decode cc pc = .ok (.irem, 1)) (hne : ¬ y = 0) (kk : Sm G X w nc ns r (.int (x - x / y * y) :: st) (pc + 1)) : Sm G X w nc ns r (.int y :: .int x :: st) pc := fun H locs ls hw hS h => lv_irem K.1 K.2.1 hd hne (kk H locs ls hw hS h)
theorem s_ldiv (K : Ok G X own cc nL rt rm) {x y : Int64} (hd : decode cc pc = .ok (.ldiv, 1)) (hne : ¬ y = 0) (kk : Sm G X w nc ns r (.long (x / y) :: st) (pc + 1)) : Sm G X w nc ns r (.long y :: .long x :: st) pc := fun H locs ls hw hS h => lv_ldiv K.1 K.2.1 hd hne (kk H locs ls hw hS h)
theorem s_lrem (K : Ok G X own cc nL rt rm) {x y : Int64} (hd : decode cc pc = .ok (.lrem, 1)) (hne : ¬ y = 0) (kk : Sm G X w nc ns r (.long (x - x / y * y) :: st) (pc + 1)) : Sm G X w nc ns r (.long y :: .long x :: st) pc := fun H locs ls hw hS h => lv_lrem K.1 K.2.1 hd hne (kk H locs ls hw hS h)
theorem s_dup (K : Ok G X own cc nL rt rm) {a : Value} (hd : decode cc pc = .ok (.dup, 1)) (ha : a.category = 1) (kk : Sm G X w nc ns r (a :: a :: st) (pc + 1)) : Sm G X w nc ns r (a :: st) pc := fun H locs ls hw hS h => lv_dup K.1 K.2.1 hd (by rw [rl_cat]; exact ha) (kk H locs ls hw hS h)
theorem s_pop (K : Ok G X own cc nL rt rm) {a : Value} (hd : decode cc pc = .ok (.pop, 1)) (ha : a.category = 1) (kk : Sm G X w nc ns r st (pc + 1)) : Sm G X w nc ns r (a :: st) pc := fun H locs ls hw hS h => lv_pop K.1 K.2.1 hd (by rw [rl_cat]; exact ha) (kk H locs ls hw hS h)
theorem s_dup_x1 (K : Ok G X own cc nL rt rm) {a b : Value} (hd : decode cc pc = .ok (.dup_x1, 1)) (ha : a.category = 1) (hb : b.category = 1) (kk : Sm G X w nc ns r (a :: b :: a :: st) (pc + 1)) : Sm G X w nc ns r (a :: b :: st) pc := fun H locs ls hw hS h => lv_dup_x1 K.1 K.2.1 hd (by rw [rl_cat]; exact ha) (by rw [rl_cat]; exact hb) (kk H locs ls hw hS h)
theorem s_dup2 (K : Ok G X own cc nL rt rm) {a b : Value} (hd : decode cc pc = .ok (.dup2, 1)) (ha : a.category = 1) (hb : b.category = 1) (kk : Sm G X w nc ns r (a :: b :: a :: b :: st) (pc + 1)) : Sm G X w nc ns r (a :: b :: st) pc := fun H locs ls hw hS h => lv_dup2_11 K.1 K.2.1 hd (by rw [rl_cat]; exact ha) (by rw [rl_cat]; exact hb) (kk H locs ls hw hS h)
theorem s_goto (K : Ok G X own cc nL rt rm) {off : Int} {tgt : Nat} (hd : decode cc pc = .ok (.goto off, 3)) (ht : (pc : Int) + off = (tgt : Int)) (kk : Sm G X w nc ns r st tgt) : Sm G X w nc ns r st pc := fun H locs ls hw hS h => lv_goto K.1 K.2.1 hd ht (kk H locs ls hw hS h)
theorem s_ldc (K : Ok G X own cc nL rt rm) {idx : Nat} {v : Int32} (hd : decode cc pc = .ok (.ldc idx, 2)) (hm : Cond.constant (Rn own) idx v ∈ lg) (kk : Sm G X w nc ns r (.int v :: st) (pc + 2)) : Sm G X w nc ns r st pc := fun H locs ls hw hS h => lv_ldc K.1 K.2.1 K.2.2.2.2.1 (K.2.2.2.2.2.1 _ hm) hd (kk H locs ls hw hS h)
theorem s_ldcw (K : Ok G X own cc nL rt rm) {idx : Nat} {v : Int32} (hd : decode cc pc = .ok (.ldc_w idx, 3)) (hm : Cond.constant (Rn own) idx v ∈ lg) (kk : Sm G X w nc ns r (.int v :: st) (pc + 3)) : Sm G X w nc ns r st pc := fun H locs ls hw hS h => lv_ldcw K.1 K.2.1 K.2.2.2.2.1 (K.2.2.2.2.2.1 _ hm) hd (kk H locs ls hw hS h)
theorem s_ldc2 (K : Ok G X own cc nL rt rm) {idx : Nat} {v : Int64} (hd : decode cc pc = .ok (.ldc2_w idx, 3)) (hm : Cond.constantLong (Rn own) idx v ∈ lg) (kk : Sm G X w nc ns r (.long v :: st) (pc + 3)) : Sm G X w nc ns r st pc := fun H locs ls hw hS h => lv_ldc2 K.1 K.2.1 K.2.2.2.2.1 (K.2.2.2.2.2.1 _ hm) hd (kk H locs ls hw hS h)
theorem s_ldcS (K : Ok G X own cc nL rt rm) {idx j : Nat} {z : Nat × Nat × String} (hd : decode cc pc = .ok (.ldc idx, 2)) (hz : strs[j]? = some z) (h1 : z.1 = own) (h2 : z.2.1 = idx) (kk : Sm G X w nc ns r (.ref (sA j) :: st) (pc + 2)) : Sm G X w nc ns r st pc := fun H locs ls hw hS h => by
  subst h1; subst h2
  exact va_ldcS K.1 K.2.1 K.2.2.2.2.1 (K.2.2.2.2.2.2.1.2.2.2.1 j z hz) hd (kk H locs ls hw hS h)
theorem s_gets (K : Ok G X own cc nL rt rm) {idx j : Nat} {z : String × String × List Int32} (hd : decode cc pc = .ok (.getstatic idx, 3)) (hz : sarr[j]? = some z) (hm : Cond.fieldLink (Rn own) idx z.1 z.2.1 "[I" ∈ lg) (kk : Sm G X w nc ns r (.ref (aA j) :: st) (pc + 3)) : Sm G X w nc ns r st pc := fun H locs ls hw hS h =>
  va_gets K.1 K.2.1 (K.2.2.2.2.2.2.1.2.2.1 j z hz).1 hS K.2.2.2.2.1 (K.2.2.2.2.2.1 _ hm) (fun _ h9 => h9) hd (kk H locs ls hw hS h)
end SMR
def t1 (q : Ent) (r : A_R) (st : List Value) : Option (A_R × List Value) := match q.2.1 with
  | .iload_n k => (match lk r k.val with
    | some (.int x) => some (r, .int x :: st)
    | _ => none)
  | .iload k => (match lk r k with
    | some (.int x) => some (r, .int x :: st)
    | _ => none)
  | .aload_n k => (match lk r k.val with
    | some (.ref x) => some (r, .ref x :: st)
    | _ => none)
  | .aload k => (match lk r k with
    | some (.ref x) => some (r, .ref x :: st)
    | _ => none)
  | .lload_n k => (match lk r k.val with
    | some (.long x) => some (r, .long x :: st)
    | _ => none)
  | .lload k => (match lk r k with
    | some (.long x) => some (r, .long x :: st)
    | _ => none)
  | .istore_n k => (match st with
    | .int x :: st => (match sto r k.val (.int x) with
      | some r1 => some (r1, st)
      | none => none)
    | _ => none)
  | .istore k => (match st with
    | .int x :: st => (match sto r k (.int x) with
      | some r1 => some (r1, st)
      | none => none)
    | _ => none)
  | .astore_n k => (match st with
    | .ref x :: st => (match sto r k.val (.ref x) with
      | some r1 => some (r1, st)
      | none => none)
    | _ => none)
  | .astore k => (match st with
    | .ref x :: st => (match sto r k (.ref x) with
      | some r1 => some (r1, st)
      | none => none)
    | _ => none)
  | .lstore_n k => (match st with
    | .long x :: st => (match sto2 r k.val (.long x) with
      | some r1 => some (r1, st)
      | none => none)
    | _ => none)
  | .lstore k => (match st with
    | .long x :: st => (match sto2 r k (.long x) with
      | some r1 => some (r1, st)
      | none => none)
    | _ => none)
  | .iinc k _ => (match lk r k with
    | some (.int x) => (match q.2.2.2.2.1 with
      | .int v => (match sto r k (.int (x + v)) with
        | some r1 => some (r1, st)
        | none => none)
      | _ => none)
    | _ => none)
  | .iconst _ => some (r, q.2.2.2.2.1 :: st)
  | .bipush _ => some (r, q.2.2.2.2.1 :: st)
  | .sipush _ => some (r, q.2.2.2.2.1 :: st)
  | .lconst _ => some (r, q.2.2.2.2.1 :: st)
  | .ldc _ => some (r, q.2.2.2.2.1 :: st)
  | .ldc_w _ => (match q.2.2.2.2.1 with
    | .int v => some (r, .int v :: st)
    | _ => none)
  | .ldc2_w _ => some (r, q.2.2.2.2.1 :: st)
  | .getstatic _ => some (r, q.2.2.2.2.1 :: st)
  | .goto _ => some (r, st)
  | .iadd => (match st with
    | .int y :: .int x :: st => some (r, .int (x + y) :: st)
    | _ => none)
  | .isub => (match st with
    | .int y :: .int x :: st => some (r, .int (x - y) :: st)
    | _ => none)
  | .imul => (match st with
    | .int y :: .int x :: st => some (r, .int (x * y) :: st)
    | _ => none)
  | .iand => (match st with
    | .int y :: .int x :: st => some (r, .int (x &&& y) :: st)
    | _ => none)
  | .ior => (match st with
    | .int y :: .int x :: st => some (r, .int (x ||| y) :: st)
    | _ => none)
  | .ixor => (match st with
    | .int y :: .int x :: st => some (r, .int (x ^^^ y) :: st)
    | _ => none)
  | .ishl => (match st with
    | .int y :: .int x :: st => some (r, .int (x <<< (y &&& 31)) :: st)
    | _ => none)
  | .ishr => (match st with
    | .int y :: .int x :: st => some (r, .int (x >>> (y &&& 31)) :: st)
    | _ => none)
  | .iushr => (match st with
    | .int y :: .int x :: st => some (r, .int (x.toUInt32 >>> (y.toUInt32 &&& Int32.toUInt32 31)).toInt32 :: st)
    | _ => none)
  | .ladd => (match st with
    | .long y :: .long x :: st => some (r, .long (x + y) :: st)
    | _ => none)
  | .lmul => (match st with
    | .long y :: .long x :: st => some (r, .long (x * y) :: st)
    | _ => none)
  | .ineg => (match st with
    | .int x :: st => some (r, .int (-x) :: st)
    | _ => none)
  | .i2b => (match st with
    | .int x :: st => some (r, .int x.toInt8.toInt32 :: st)
    | _ => none)
  | .i2s => (match st with
    | .int x :: st => some (r, .int x.toInt16.toInt32 :: st)
    | _ => none)
  | .i2l => (match st with
    | .int x :: st => some (r, .long x.toInt64 :: st)
    | _ => none)
  | .dup => (match st with
    | .int a :: st => some (r, .int a :: .int a :: st)
    | .ref a :: st => some (r, .ref a :: .ref a :: st)
    | _ => none)
  | .pop => (match st with
    | .int _ :: st => some (r, st)
    | .ref _ :: st => some (r, st)
    | _ => none)
  | .dup_x1 => (match st with
    | .int a :: .ref b :: st => some (r, .int a :: .ref b :: .int a :: st)
    | .int a :: .int b :: st => some (r, .int a :: .int b :: .int a :: st)
    | _ => none)
  | .dup2 => (match st with
    | .int a :: .ref b :: st => some (r, .int a :: .ref b :: .int a :: .ref b :: st)
    | _ => none)
  | _ => none
section SMT
variable {G : Gx} {X : Cx} {own nL : Nat} {cc : ByteArray} {rt : Option FieldType} {rm : Room} {w : A_W} {nc ns : Nat} {r : A_R} {st : List Value} {pc : Nat}
theorem t1_ok (K : Ok G X own cc nL rt rm) {q : Ent} (hq : eok own cc q = true) {r1 : A_R} {st1 : List Value} (h : t1 q r st = some (r1, st1)) (kk : Sm G X w nc ns r1 st1 q.2.2.2.1) : Sm G X w nc ns r st q.1 := by
  have hx := eok_x hq
  obtain ⟨pc, ins, len, nx, v, ci, k, pl⟩ := q
  dsimp only at kk ⊢
  have fin : ∀ {n : Nat}, nx = pc + n → Sm G X w nc ns r1 st1 nx → Sm G X w nc ns r1 st1 (pc + n) := fun e z => e ▸ z
  have dl : ∀ {n : Nat}, il ins = n + 1 → decide (nx = pc + len) = true → nx = pc + (n + 1) := by
    intro n hn e
    have h1 := of_decide_eq_true e
    rcases eok_l hq with h2 | h2
    · dsimp only at h2; rw [hn] at h2; cases h2
    · dsimp only at h2; rw [h1, h2, hn]
  cases ins
  case iload_n k0 =>
    have hd := eok_i hq rfl
    simp only [t1] at h
    split at h
    · rename_i x hl
      cases h
      exact s_iload_n K hd hl (fin (dl rfl hx) kk)
    · cases h
  case iload k0 =>
    have hd := eok_i hq rfl
    simp only [t1] at h
    split at h
    · rename_i x hl
      cases h
      exact s_iload K hd hl (fin (dl rfl hx) kk)
    · cases h
  case aload_n k0 =>
    have hd := eok_i hq rfl
    simp only [t1] at h
    split at h
    · rename_i x hl
      cases h
      exact s_aload_n K hd hl (fin (dl rfl hx) kk)
    · cases h
  case aload k0 =>
    have hd := eok_i hq rfl
    simp only [t1] at h
    split at h
    · rename_i x hl
      cases h
      exact s_aload K hd hl (fin (dl rfl hx) kk)
    · cases h
  case lload_n k0 =>
    have hd := eok_i hq rfl
    simp only [t1] at h
    split at h
    · rename_i x hl
      cases h
      exact s_lload_n K hd hl (fin (dl rfl hx) kk)
    · cases h
  case lload k0 =>
    have hd := eok_i hq rfl
    simp only [t1] at h
    split at h
    · rename_i x hl
      cases h
      exact s_lload K hd hl (fin (dl rfl hx) kk)
    · cases h
  case istore_n k0 =>
    have hd := eok_i hq rfl
    simp only [t1] at h
    split at h
    · split at h
      · rename_i r2 hl
        cases h
        exact s_istore_n K hd hl (fin (dl rfl hx) kk)
      · cases h
    · cases h
  case istore k0 =>
    have hd := eok_i hq rfl
    simp only [t1] at h
    split at h
    · split at h
      · rename_i r2 hl
        cases h
        exact s_istore K hd hl (fin (dl rfl hx) kk)
      · cases h
    · cases h
  case astore_n k0 =>
    have hd := eok_i hq rfl
    simp only [t1] at h
    split at h
    · split at h
      · rename_i r2 hl
        cases h
        exact s_astore_n K hd hl (fin (dl rfl hx) kk)
      · cases h
    · cases h
  case astore k0 =>
    have hd := eok_i hq rfl
    simp only [t1] at h
    split at h
    · split at h
      · rename_i r2 hl
        cases h
        exact s_astore K hd hl (fin (dl rfl hx) kk)
      · cases h
    · cases h
  case lstore_n k0 =>
    have hd := eok_i hq rfl
    simp only [t1] at h
    split at h
    · split at h
      · rename_i r2 hl
        cases h
        exact s_lstore_n K hd hl (fin (dl rfl hx) kk)
      · cases h
    · cases h
  case lstore k0 =>
    have hd := eok_i hq rfl
    simp only [t1] at h
    split at h
    · split at h
      · rename_i r2 hl
        cases h
        exact s_lstore K hd hl (fin (dl rfl hx) kk)
      · cases h
    · cases h
  case iinc k0 n0 =>
    have hd := eok_i hq rfl
    simp only [t1] at h
    have hx := Bool.and_eq_true_iff.mp hx
    split at h
    · rename_i x hl
      split at h
      · split at h
        · rename_i r2 hs
          cases h
          have hv2 := vI_e hx.1
          dsimp only at hv2
          cases hv2
          exact s_iinc K hd hl rfl hs (fin (of_decide_eq_true hx.2) kk)
        · cases h
      · cases h
    · cases h
  case iconst n0 =>
    have hd := eok_i hq rfl
    have hx := Bool.and_eq_true_iff.mp hx
    simp only [t1] at h
    have hv2 := vI_e hx.1
    dsimp only at hv2
    subst hv2
    cases h
    exact s_iconst K hd rfl (fin (of_decide_eq_true hx.2) kk)
  case bipush n0 =>
    have hd := eok_i hq rfl
    have hx := Bool.and_eq_true_iff.mp hx
    simp only [t1] at h
    have hv2 := vI_e hx.1
    dsimp only at hv2
    subst hv2
    cases h
    exact s_bipush K hd rfl (fin (of_decide_eq_true hx.2) kk)
  case sipush n0 =>
    have hd := eok_i hq rfl
    have hx := Bool.and_eq_true_iff.mp hx
    simp only [t1] at h
    have hv2 := vI_e hx.1
    dsimp only at hv2
    subst hv2
    cases h
    exact s_sipush K hd rfl (fin (of_decide_eq_true hx.2) kk)
  case lconst n0 =>
    have hd := eok_i hq rfl
    have hx := Bool.and_eq_true_iff.mp hx
    simp only [t1] at h
    have hv2 := vJ_e hx.1
    dsimp only at hv2
    subst hv2
    cases h
    exact s_lconst K hd rfl (fin (of_decide_eq_true hx.2) kk)
  case ldc n0 =>
    have hd := eok_i hq rfl
    have hx := Bool.and_eq_true_iff.mp hx
    simp only [t1] at h
    have hc := hx.1
    unfold exC at hc
    dsimp only at hc
    split at hc
    · cases h
      exact s_ldc K hd (lgm _ (of_decide_eq_true hc) rfl) (fin (of_decide_eq_true hx.2) kk)
    · have hc := Bool.and_eq_true_iff.mp hc
      have ha := of_decide_eq_true hc.1
      have hc := hc.2
      split at hc
      · rename_i z hz
        have hc3 := Bool.and_eq_true_iff.mp hc
        subst ha
        cases h
        exact s_ldcS K hd hz (of_decide_eq_true hc3.1) (of_decide_eq_true hc3.2) (fin (of_decide_eq_true hx.2) kk)
      · cases hc
    · cases hc
  case ldc_w n0 =>
    have hd := eok_i hq rfl
    have hx := Bool.and_eq_true_iff.mp hx
    simp only [t1] at h
    have hc := hx.1
    unfold exC at hc
    dsimp only at hc
    split at h
    · cases h
      exact s_ldcw K hd (lgm _ (of_decide_eq_true hc) rfl) (fin (of_decide_eq_true hx.2) kk)
    · cases h
  case ldc2_w n0 =>
    have hd := eok_i hq rfl
    have hx := Bool.and_eq_true_iff.mp hx
    simp only [t1] at h
    have hc := hx.1
    unfold exL at hc
    dsimp only at hc
    split at hc
    · cases h
      exact s_ldc2 K hd (lgm _ (of_decide_eq_true hc) rfl) (fin (of_decide_eq_true hx.2) kk)
    · cases hc
  case getstatic n0 =>
    have hd := eok_i hq rfl
    have hx := Bool.and_eq_true_iff.mp hx
    simp only [t1] at h
    have hc := hx.1
    unfold exG at hc
    dsimp only at hc
    split at hc
    · have hc := Bool.and_eq_true_iff.mp hc
      have ha := of_decide_eq_true hc.1
      have hc := hc.2
      split at hc
      · rename_i z hz
        subst ha
        cases h
        exact s_gets K hd hz (lgm _ (of_decide_eq_true hc) rfl) (fin (of_decide_eq_true hx.2) kk)
      · cases hc
    · cases hc
  case goto off =>
    have hd := eok_i hq rfl
    simp only [t1] at h
    cases h
    exact s_goto K hd (of_decide_eq_true hx) kk
  case iadd =>
    have hd := eok_i hq rfl
    simp only [t1] at h
    split at h
    · cases h
      exact s_iadd K hd (fin (dl rfl hx) kk)
    · cases h
  case isub =>
    have hd := eok_i hq rfl
    simp only [t1] at h
    split at h
    · cases h
      exact s_isub K hd (fin (dl rfl hx) kk)
    · cases h
  case imul =>
    have hd := eok_i hq rfl
    simp only [t1] at h
    split at h
    · cases h
      exact s_imul K hd (fin (dl rfl hx) kk)
    · cases h
  case iand =>
    have hd := eok_i hq rfl
    simp only [t1] at h
    split at h
    · cases h
      exact s_iand K hd (fin (dl rfl hx) kk)
    · cases h
  case ior =>
    have hd := eok_i hq rfl
    simp only [t1] at h
    split at h
    · cases h
      exact s_ior K hd (fin (dl rfl hx) kk)
    · cases h
  case ixor =>
    have hd := eok_i hq rfl
    simp only [t1] at h
    split at h
    · cases h
      exact s_ixor K hd (fin (dl rfl hx) kk)
    · cases h
  case ishl =>
    have hd := eok_i hq rfl
    simp only [t1] at h
    split at h
    · cases h
      exact s_ishl K hd (fin (dl rfl hx) kk)
    · cases h
  case ishr =>
    have hd := eok_i hq rfl
    simp only [t1] at h
    split at h
    · cases h
      exact s_ishr K hd (fin (dl rfl hx) kk)
    · cases h
  case iushr =>
    have hd := eok_i hq rfl
    simp only [t1] at h
    split at h
    · cases h
      exact s_iushr K hd (fin (dl rfl hx) kk)
    · cases h
  case ladd =>
    have hd := eok_i hq rfl
    simp only [t1] at h
    split at h
    · cases h
      exact s_ladd K hd (fin (dl rfl hx) kk)
    · cases h
  case lmul =>
    have hd := eok_i hq rfl
    simp only [t1] at h
    split at h
    · cases h
      exact s_lmul K hd (fin (dl rfl hx) kk)
    · cases h
  case ineg =>
    have hd := eok_i hq rfl
    simp only [t1] at h
    split at h
    · cases h
      exact s_ineg K hd (fin (dl rfl hx) kk)
    · cases h
  case i2b =>
    have hd := eok_i hq rfl
    simp only [t1] at h
    split at h
    · cases h
      exact s_i2b K hd (fin (dl rfl hx) kk)
    · cases h
  case i2s =>
    have hd := eok_i hq rfl
    simp only [t1] at h
    split at h
    · cases h
      exact s_i2s K hd (fin (dl rfl hx) kk)
    · cases h
  case i2l =>
    have hd := eok_i hq rfl
    simp only [t1] at h
    split at h
    · cases h
      exact s_i2l K hd (fin (dl rfl hx) kk)
    · cases h
  case dup =>
    have hd := eok_i hq rfl
    simp only [t1] at h
    split at h
    · cases h
      exact s_dup K hd rfl (fin (dl rfl hx) kk)
    · cases h
      exact s_dup K hd rfl (fin (dl rfl hx) kk)
    · cases h
  case pop =>
    have hd := eok_i hq rfl
    simp only [t1] at h
    split at h
    · cases h
      exact s_pop K hd rfl (fin (dl rfl hx) kk)
    · cases h
      exact s_pop K hd rfl (fin (dl rfl hx) kk)
    · cases h
  case dup_x1 =>
    have hd := eok_i hq rfl
    simp only [t1] at h
    split at h
    · cases h
      exact s_dup_x1 K hd rfl rfl (fin (dl rfl hx) kk)
    · cases h
      exact s_dup_x1 K hd rfl rfl (fin (dl rfl hx) kk)
    · cases h
  case dup2 =>
    have hd := eok_i hq rfl
    simp only [t1] at h
    split at h
    · cases h
      exact s_dup2 K hd rfl rfl (fin (dl rfl hx) kk)
    · cases h
  all_goals (simp only [t1] at h; cases h)
def runL : List Ent → Nat → A_R → List Value → Option (Nat × A_R × List Value)
  | [], pc, r, st => some (pc, r, st)
  | q :: qs, pc, r, st => match Nat.beq q.1 pc with
    | true => (match t1 q r st with
      | some (r1, st1) => runL qs q.2.2.2.1 r1 st1
      | none => none)
    | false => none
theorem runL_ok (K : Ok G X own cc nL rt rm) (es : List Ent) : ∀ (_ : ∀ q ∈ es, eok own cc q = true) (pc : Nat) (r : A_R) (st : List Value) (pc1 : Nat) (r1 : A_R) (st1 : List Value), runL es pc r st = some (pc1, r1, st1) → Sm G X w nc ns r1 st1 pc1 → Sm G X w nc ns r st pc := by
  induction es with
  | nil => intro _ pc r st pc1 r1 st1 h kk; cases h; exact kk
  | cons q qs ih =>
    intro hE pc r st pc1 r1 st1 h kk
    simp only [runL] at h
    split at h
    · rename_i hb
      split at h
      · rename_i r2 st2 ht
        have hpc := Nat.eq_of_beq_eq_true hb
        subst hpc
        exact t1_ok K (hE q List.mem_cons_self) ht (ih (fun z hz => hE z (List.mem_cons_of_mem _ hz)) _ _ _ _ _ _ h kk)
      · cases h
    · cases h
/-- n small steps from the i-th entry of a method on -/
theorem Sm_run (K : Ok G X own cc nL rt rm) {es : List Ent} (hE : es.all (eok own cc) = true) (i n : Nat) {pc1 : Nat} {r1 : A_R} {st1 : List Value} (h : runL ((es.drop i).take n) pc r st = some (pc1, r1, st1)) (kk : Sm G X w nc ns r1 st1 pc1) : Sm G X w nc ns r st pc :=
  runL_ok K _ (fun q hq => List.all_eq_true.mp hE q (List.mem_of_mem_drop (List.mem_of_mem_take hq))) _ _ _ _ _ _ h kk
end SMT
end
section
/-! THE RULES that read and write the world, branch, call and return -/
def gf (w : A_W) (a ci k : Nat) : Option Value := match w[a]? with
  | some (.inr (.inr (c, fs))) => if c = ci then fs[k]? else none
  | _ => none
def gi (w : A_W) (a ci k : Nat) : Option Int32 := match gf w a ci k with
  | some (.int v) => some v
  | _ => none
def gr (w : A_W) (a ci k : Nat) : Option Nat := match gf w a ci k with
  | some (.ref v) => some v
  | _ => none
def pf (w : A_W) (a ci k : Nat) (v : Value) : Option A_W := match w[a]? with
  | some (.inr (.inr (c, fs))) => if c = ci ∧ k < fs.length then some (w.set a (.inr (.inr (c, fs.set k v)))) else none
  | _ => none
abbrev inb (i : Int32) (n : Nat) : Prop := ¬ i < 0 ∧ i.toNatClampNeg < n
def rd (w : A_W) (a : Nat) (i : Int32) : Option Int32 := match w[a]? with
  | some (.inl (n, f)) => if inb i n then some (f i.toNatClampNeg) else none
  | _ => none
def rs (j : Nat) (i : Int32) : Option Int32 := match sarr[j]? with
  | some q => if inb i q.2.2.length then some (q.2.2.getD i.toNatClampNeg 0) else none
  | _ => none
def wr (w : A_W) (a : Nat) (i v : Int32) : Option A_W := match w[a]? with
  | some (.inl (n, f)) => if inb i n then some (w.set a (.inl (n, upd f i.toNatClampNeg v))) else none
  | _ => none
def ra (w : A_W) (a : Nat) (i : Int32) : Option Nat := match w[a]? with
  | some (.inr (.inl (n, f))) => if inb i n then f i.toNatClampNeg else none
  | _ => none
def wa (w : A_W) (a : Nat) (i : Int32) (b : Nat) : Option A_W := match w[a]? with
  | some (.inr (.inl (n, f))) => (match w[b]? with
    | some (.inr (.inr (c, _))) => if inb i n ∧ c = 3 then some (w.set a (.inr (.inl (n, va_up f i.toNatClampNeg (some b))))) else none
    | _ => none)
  | _ => none
def al (w : A_W) (a : Nat) : Option Int32 := match w[a]? with
  | some (.inl (n, _)) => some (Int32.ofNat n)
  | _ => none
def bz (v : Int32) : Option Int32 := if v = 0 ∨ v = 1 then some v else none
theorem vp_inb {i : Int32} {n : Nat} (h : inb i n) : vp_in i n := fun z => z.elim h.1 (fun q => absurd h.2 (Nat.not_lt.mpr q))
theorem gf_e {w : A_W} {a ci k : Nat} {v : Value} (h : gf w a ci k = some v) : ∃ fs, w[a]? = some (.inr (.inr (ci, fs))) ∧ fs[k]? = some v := by
  unfold gf at h
  split at h
  · rename_i c fs hw
    split at h
    · rename_i e; subst e; exact ⟨fs, hw, h⟩
    · cases h
  · cases h
theorem gi_e {w : A_W} {a ci k : Nat} {v : Int32} (h : gi w a ci k = some v) : gf w a ci k = some (.int v) := by
  unfold gi at h
  split at h
  · rename_i x hx; cases h; exact hx
  · cases h
theorem gr_e {w : A_W} {a ci k : Nat} {v : Nat} (h : gr w a ci k = some v) : gf w a ci k = some (.ref v) := by
  unfold gr at h
  split at h
  · rename_i x hx; cases h; exact hx
  · cases h
theorem pf_e {w w1 : A_W} {a ci k : Nat} {v : Value} (h : pf w a ci k v = some w1) : ∃ fs, w[a]? = some (.inr (.inr (ci, fs))) ∧ k < fs.length ∧ w1 = w.set a (.inr (.inr (ci, fs.set k v))) := by
  unfold pf at h
  split at h
  · rename_i c fs hw
    split at h
    · rename_i e; obtain ⟨rfl, hk⟩ := e; cases h; exact ⟨fs, hw, hk, rfl⟩
    · cases h
  · cases h
theorem rd_e {w : A_W} {a : Nat} {i v : Int32} (h : rd w a i = some v) : ∃ n f, w[a]? = some (.inl (n, f)) ∧ inb i n ∧ v = f i.toNatClampNeg := by
  unfold rd at h
  split at h
  · rename_i n f hw
    split at h
    · rename_i e; cases h; exact ⟨n, f, hw, e, rfl⟩
    · cases h
  · cases h
theorem rs_e {j : Nat} {i v : Int32} (h : rs j i = some v) : ∃ q, sarr[j]? = some q ∧ inb i q.2.2.length ∧ v = q.2.2.getD i.toNatClampNeg 0 := by
  unfold rs at h
  split at h
  · rename_i q hq
    split at h
    · rename_i e; cases h; exact ⟨q, hq, e, rfl⟩
    · cases h
  · cases h
theorem wr_e {w w1 : A_W} {a : Nat} {i v : Int32} (h : wr w a i v = some w1) : ∃ n f, w[a]? = some (.inl (n, f)) ∧ inb i n ∧ w1 = w.set a (.inl (n, upd f i.toNatClampNeg v)) := by
  unfold wr at h
  split at h
  · rename_i n f hw
    split at h
    · rename_i e; cases h; exact ⟨n, f, hw, e, rfl⟩
    · cases h
  · cases h
theorem ra_e {w : A_W} {a b : Nat} {i : Int32} (h : ra w a i = some b) : ∃ n f, w[a]? = some (.inr (.inl (n, f))) ∧ inb i n ∧ f i.toNatClampNeg = some b := by
  unfold ra at h
  split at h
  · rename_i n f hw
    split at h
    · rename_i e; exact ⟨n, f, hw, e, h⟩
    · cases h
  · cases h
theorem wa_e {w w1 : A_W} {a b : Nat} {i : Int32} (h : wa w a i b = some w1) : ∃ n f fs, w[a]? = some (.inr (.inl (n, f))) ∧ w[b]? = some (.inr (.inr (3, fs))) ∧ inb i n ∧ w1 = w.set a (.inr (.inl (n, va_up f i.toNatClampNeg (some b)))) := by
  unfold wa at h
  split at h
  · rename_i n f hw
    split at h
    · rename_i c fs hb
      split at h
      · rename_i e; obtain ⟨e1, rfl⟩ := e; cases h; exact ⟨n, f, fs, hw, hb, e1, rfl⟩
      · cases h
    · cases h
  · cases h
theorem al_e {w : A_W} {a : Nat} {v : Int32} (h : al w a = some v) : ∃ n f, w[a]? = some (.inl (n, f)) ∧ v = Int32.ofNat n := by
  unfold al at h
  split at h
  · rename_i n f hw; cases h; exact ⟨n, f, hw, rfl⟩
  · cases h
theorem bz_e {v x : Int32} (h : bz v = some x) : x = v ∧ (v = 0 ∨ v = 1) := by
  unfold bz at h
  split at h
  · rename_i e; cases h; exact ⟨rfl, e⟩
  · cases h
theorem dcl0 : ∀ k, k < Nn 0 → (Tn 0 k).1 = Rn 0 := by decide +kernel
theorem dcl1 : ∀ k, k < Nn 1 → (Tn 1 k).1 = Rn 1 := by decide +kernel
theorem dcl2 : ∀ k, k < Nn 2 → (Tn 2 k).1 = Rn 2 := by decide +kernel
theorem dcl3 : ∀ k, k < Nn 3 → (Tn 3 k).1 = Rn 3 := by decide +kernel
theorem dcl4 : ∀ k, k < Nn 4 → (Tn 4 k).1 = Rn 4 := by decide +kernel
theorem dcl {ci : Nat} (h : ci < 5) : ∀ k, k < Nn ci → (Tn ci k).1 = Rn ci := fiveQ (P := fun ci => ∀ k, k < Nn ci → (Tn ci k).1 = Rn ci) dcl0 dcl1 dcl2 dcl3 dcl4 h
theorem exF_e {own : Nat} {pc len nx ci k pl idx : Nat} {ins : Instr} {v : Value} (h : exF own (pc, ins, len, nx, v, ci, k, pl) idx = true) : ci < 5 ∧ k < Nn ci ∧ Cond.fieldLink (Rn own) idx (Rn ci) (Tn ci k).2.1 (Tn ci k).2.2.1 ∈ lg := by
  unfold exF at h
  have h := Bool.and_eq_true_iff.mp h
  have h2 := Bool.and_eq_true_iff.mp h.2
  exact ⟨of_decide_eq_true h.1, of_decide_eq_true h2.1, lgm _ (of_decide_eq_true h2.2) rfl⟩
section SMH
variable {G : Gx} {X : Cx} {own nL : Nat} {cc : ByteArray} {rt : Option FieldType} {rm : Room} {w w1 : A_W} {nc ns : Nat} {r : A_R} {st : List Value} {pc : Nat} {len nx ci k pl idx : Nat} {v0 v : Value}
theorem Sm_gf (K : Ok G X own cc nL rt rm) (hq : eok own cc (pc, .getfield idx, len, nx, v0, ci, k, pl) = true) {a : Nat} (h : gf w a ci k = some v) (kk : Sm G X w nc ns r (v :: st) (pc + 3)) : Sm G X w nc ns r (.ref a :: st) pc := by
  intro H locs ls hw hS hl
  obtain ⟨fs, he, hv⟩ := gf_e h
  obtain ⟨hci, hk, hm⟩ := exF_e (eok_x hq)
  refine va_get (D := gD G) (ci := ci) (v := rl G v) (C := Rn ci) (T := Tn ci) (N := Nn ci) K.1 K.2.1 K.2.2.2.2.2.1 (inn hci) K.2.2.2.2.1 K.2.2.2.2.2.2.1.1 (WD_P hw he) 0 rfl (cls_at hci) k hk (K.2.2.2.2.2.1 _ hm) (fun x h9 => by rw [dcl hci k hk] at h9; exact h9) ?_ (eok_i hq rfl) (kk H locs ls hw hS hl)
  rw [List.getElem?_map, hv]; rfl
theorem Sm_gi (K : Ok G X own cc nL rt rm) (hq : eok own cc (pc, .getfield idx, len, nx, v0, ci, k, pl) = true) {a : Nat} {x : Int32} (h : gi w a ci k = some x) (kk : Sm G X w nc ns r (.int x :: st) (pc + 3)) : Sm G X w nc ns r (.ref a :: st) pc := Sm_gf K hq (gi_e h) kk
theorem Sm_gr (K : Ok G X own cc nL rt rm) (hq : eok own cc (pc, .getfield idx, len, nx, v0, ci, k, pl) = true) {a : Nat} {x : Nat} (h : gr w a ci k = some x) (kk : Sm G X w nc ns r (.ref x :: st) (pc + 3)) : Sm G X w nc ns r (.ref a :: st) pc := Sm_gf K hq (gr_e h) kk
theorem Sm_pf (K : Ok G X own cc nL rt rm) (hq : eok own cc (pc, .putfield idx, len, nx, v0, ci, k, pl) = true) (hfin : (Tn ci k).2.2.2 = false) {a : Nat} (h : pf w a ci k v = some w1) (hn : narrow (tyn ci k) (rl G v) = rl G v) (hfit : fits (tyn ci k) (rl G v) = true) (kk : Sm G X w1 nc ns r st (pc + 3)) : Sm G X w nc ns r (v :: .ref a :: st) pc := by
  intro H locs ls hw hS hl
  obtain ⟨fs, he, hkl, rfl⟩ := pf_e h
  obtain ⟨hci, hk, hm⟩ := exF_e (eok_x hq)
  have hts := K.2.2.2.2.2.1
  have hin := inn hci
  have hK := K.2.2.2.2.2.2.1.1
  have hc := cls_at hci
  have hap := va_apart (own := Rn own) hts hin (tyn ci) (tokn hci) (nmn hci) hK hc
  obtain ⟨q, h1, cell, q1, q2, q3, q4⟩ := WD_at hw he
  have hr : q = (Rn ci, Tn ci, Nn ci) := Option.some.inj (h1.symm.trans hc)
  subst hr
  obtain ⟨hSl, hfc, kC, hkC, hkind⟩ := hK.1 ci _ hc
  obtain ⟨cf, kf, fi, f, hi, hsl⟩ := hSl k hk
  have hlay := hts _ (hin _ (u_in_lay hk))
  unfold u_lay at hlay
  rw [if_neg (by rw [hfin]; decide)] at hlay
  have hst := (u_facts hfc hkC (u_lays hts hin hk) hi).1
  have h6 := u_store hfc hkC hkind hlay hi (tokn hci k hk) hn hfit
  have hi2 := hi
  rw [show (Tn ci k).1 = Rn ci from dcl hci k hk] at hi2
  refine W.putK K.1 K.2.1 (f := f) ⟨K.2.2.2.2.1, hts _ hm, ⟨_, _, _, hi2⟩, hst⟩ (by rw [q2]; exact h6) q1 q3 (by rw [hsl]; exact k2_hasslot (q4 k hk)) rfl rfl (eok_i hq rfl) fun H1 e1 e2 e3 => ?_
  rw [hsl] at e1 ⊢
  have hA : gA G (ad G a) := by rw [WD_ad hw he]; exact Nat.le_add_right _ _
  refine kk H1 _ ls (WD_set hw he e2 e3 ⟨_, hc, ?_⟩) (hS.put e2 e3 hA) hl
  refine t_OB.to (V := updV (vp_V (fs.map (rl G))) k (rl G v)) ⟨_, e1, q2, q3, t_set q4 hap hk _⟩ (fun j _ => ?_)
  rw [vp_updV_set (by rw [List.length_map]; exact hkl), List.map_set]
theorem Sm_pi (K : Ok G X own cc nL rt rm) (hq : eok own cc (pc, .putfield idx, len, nx, v0, ci, k, pl) = true) (hfin : (Tn ci k).2.2.2 = false) (hty : tyn ci k = .int) {a : Nat} {x : Int32} (h : pf w a ci k (.int x) = some w1) (kk : Sm G X w1 nc ns r st (pc + 3)) : Sm G X w nc ns r (.int x :: .ref a :: st) pc := Sm_pf K hq hfin h (by rw [hty]; rfl) (by rw [hty]; rfl) kk
theorem Sm_pz (K : Ok G X own cc nL rt rm) (hq : eok own cc (pc, .putfield idx, len, nx, v0, ci, k, pl) = true) (hfin : (Tn ci k).2.2.2 = false) (hty : tyn ci k = .boolean) {a : Nat} {x y : Int32} (hb : bz x = some y) (h : pf w a ci k (.int y) = some w1) (kk : Sm G X w1 nc ns r st (pc + 3)) : Sm G X w nc ns r (.int x :: .ref a :: st) pc := by
  obtain ⟨rfl, hx⟩ := bz_e hb
  refine Sm_pf K hq hfin h ?_ ?_ kk
  · rw [hty]; rcases hx with rfl | rfl <;> rfl
  · rw [hty]; rcases hx with rfl | rfl <;> rfl
theorem Sm_pF (K : Ok G X own cc nL rt rm) (hini : (xH X).name = "<init>") (hq : eok own cc (pc, .putfield idx, len, nx, v0, ci, k, pl) = true) (hfin : (Tn ci k).2.2.2 = true) (hown : Rn ci = Rn own) {a : Nat} (h : pf w a ci k v = some w1) (hn : narrow (tyn ci k) (rl G v) = rl G v) (hfit : fits (tyn ci k) (rl G v) = true) (kk : Sm G X w1 nc ns r st (pc + 3)) : Sm G X w nc ns r (v :: .ref a :: st) pc := by
  intro H locs ls hw hS hl
  obtain ⟨fs, he, hkl, rfl⟩ := pf_e h
  obtain ⟨hci, hk, hm⟩ := exF_e (eok_x hq)
  have hts := K.2.2.2.2.2.1
  have hin := inn hci
  have hK := K.2.2.2.2.2.2.1.1
  have hc := cls_at hci
  have hap := va_apart (own := Rn own) hts hin (tyn ci) (tokn hci) (nmn hci) hK hc
  obtain ⟨q, h1, cell, q1, q2, q3, q4⟩ := WD_at hw he
  have hr : q = (Rn ci, Tn ci, Nn ci) := Option.some.inj (h1.symm.trans hc)
  subst hr
  obtain ⟨hSl, hfc, kC, hkC, hkind⟩ := hK.1 ci _ hc
  obtain ⟨cf, kf, fi, f, hi, hsl⟩ := hSl k hk
  have hlay := hts _ (hin _ (u_in_lay hk))
  unfold u_lay at hlay
  rw [if_pos hfin] at hlay
  have hst := (u_facts hfc hkC (u_lays hts hin hk) hi).1
  have hcf : (xM X).cls = cf := by
    obtain ⟨_, _, c', _, _, _, -, -, hf', -, -, -, hown2, -⟩ := Cond.laysFinal_spec hlay
    have e1 : c' = cf := by have := hi.symm.trans hf'; simp at this; exact this.1.symm
    rw [dcl hci k hk, hown] at hown2
    rw [← e1]; exact Option.some.inj (K.2.2.2.2.1.symm.trans hown2)
  have h6 := u_fits hfc hkC hkind (Or.inr hlay) hi (tokn hci k hk) hn hfit
  have hi2 := hi
  rw [show (Tn ci k).1 = Rn ci from dcl hci k hk] at hi2
  refine W.putFinK K.1 K.2.1 K.2.2.2.2.1 (hts _ hm) hi2 hst hcf hini (by rw [q2]; exact h6) q1 q3 (by rw [hsl]; exact k2_hasslot (q4 k hk)) rfl rfl (eok_i hq rfl) fun H1 e1 e2 e3 => ?_
  rw [hsl] at e1 ⊢
  have hA : gA G (ad G a) := by rw [WD_ad hw he]; exact Nat.le_add_right _ _
  refine kk H1 _ ls (WD_set hw he e2 e3 ⟨_, hc, ?_⟩) (hS.put e2 e3 hA) hl
  refine t_OB.to (V := updV (vp_V (fs.map (rl G))) k (rl G v)) ⟨_, e1, q2, q3, t_set q4 hap hk _⟩ (fun j _ => ?_)
  rw [vp_updV_set (by rw [List.length_map]; exact hkl), List.map_set]
theorem Sm_rd (K : Ok G X own cc nL rt rm) (hd : decode cc pc = .ok (.iaload, 1)) {a : Nat} {i x : Int32} (h : rd w a i = some x) (kk : Sm G X w nc ns r (.int x :: st) (pc + 1)) : Sm G X w nc ns r (.int i :: .ref a :: st) pc := by
  intro H locs ls hw hS hl
  obtain ⟨n, f, he, hi, rfl⟩ := rd_e h
  exact va_iald K.1 K.2.1 K.2.2.2.2.2.2.1.1 (WD_P hw he) 0 0 rfl rfl (vp_inb hi) hd (kk H locs ls hw hS hl)
theorem Sm_rs (K : Ok G X own cc nL rt rm) (hd : decode cc pc = .ok (.iaload, 1)) {j : Nat} {i x : Int32} (h : rs j i = some x) (kk : Sm G X w nc ns r (.int x :: st) (pc + 1)) : Sm G X w nc ns r (.int i :: .ref (aA j) :: st) pc := by
  intro H locs ls hw hS hl
  obtain ⟨q, hq, hi, rfl⟩ := rs_e h
  exact va_ti K.1 K.2.1 (K.2.2.2.2.2.2.1.2.2.1 j q hq).2 hS (vp_inb hi) rfl hd (kk H locs ls hw hS hl)
theorem Sm_wr (K : Ok G X own cc nL rt rm) (hd : decode cc pc = .ok (.iastore, 1)) {a : Nat} {i x : Int32} (h : wr w a i x = some w1) (kk : Sm G X w1 nc ns r st (pc + 1)) : Sm G X w nc ns r (.int x :: .int i :: .ref a :: st) pc := by
  intro H locs ls hw hS hl
  obtain ⟨n, f, he, hi, rfl⟩ := wr_e h
  have hK := K.2.2.2.2.2.2.1.1
  have hA : gA G (ad G a) := by rw [WD_ad hw he]; exact Nat.le_add_right _ _
  refine W.iast K.1 K.2.1 (WD_at hw he) ((hK.2 0 _ rfl).1 n (fun j => .int (f j))) (fun q => by cases q) (by show ¬ (i < 0 ∨ (arrV _ _ _).slots.size ≤ _); rw [arrV_size]; exact vp_inb hi) rfl rfl hd fun H1 e z oq => ?_
  refine kk H1 _ ls (WD_set hw he z oq ?_) (hS.put z oq hA) hl
  show H1[ad G a]? = some (vp_cell _ _)
  rw [e]
  rw [vp_cell_i, vp_cell_i, arrV_store]
  congr 2
  funext q
  by_cases hq : q = i.toNatClampNeg
  · subst hq
    simp [updV, upd]
  · simp [updV, upd, hq]
theorem Sm_ra (K : Ok G X own cc nL rt rm) (hd : decode cc pc = .ok (.aaload, 1)) {a b : Nat} {i : Int32} (h : ra w a i = some b) (kk : Sm G X w nc ns r (.ref b :: st) (pc + 1)) : Sm G X w nc ns r (.int i :: .ref a :: st) pc := by
  intro H locs ls hw hS hl
  obtain ⟨n, f, he, hi, hb⟩ := ra_e h
  refine va_aldq K.1 K.2.1 K.2.2.2.2.2.2.1.1 (WD_P hw he) 0 1 rfl rfl (vp_inb hi) hd ?_
  rw [hb]
  exact kk H locs ls hw hS hl
theorem Sm_al (K : Ok G X own cc nL rt rm) (hd : decode cc pc = .ok (.arraylength, 1)) {a : Nat} {x : Int32} (h : al w a = some x) (kk : Sm G X w nc ns r (.int x :: st) (pc + 1)) : Sm G X w nc ns r (.ref a :: st) pc := by
  intro H locs ls hw hS hl
  obtain ⟨n, f, he, rfl⟩ := al_e h
  exact va_alen K.1 K.2.1 K.2.2.2.2.2.2.1.1 (WD_P hw he) 0 0 rfl rfl rfl hd (kk H locs ls hw hS hl)
theorem Sm_lcmp (K : Ok G X own cc nL rt rm) (hd : decode cc pc = .ok (.lcmp, 1)) {x y : Int64} (kk : Sm G X w nc ns r (.int (lg_cmp x y) :: st) (pc + 1)) : Sm G X w nc ns r (.long y :: .long x :: st) pc := fun H locs ls hw hS hl => W.lcmp K.1 K.2.1 hd (kk H locs ls hw hS hl)
end SMH
end
section
/-! BRANCHES, SWITCHES, CALLS, RETURNS -/
section SMB
variable {G : Gx} {X : Cx} {own nL : Nat} {cc : ByteArray} {rt : Option FieldType} {rm : Room} {w w1 : A_W} {nc ns : Nat} {r : A_R} {st : List Value} {pc : Nat} {len nx ci k pl idx : Nat} {v0 v : Value}
theorem Sm_ic_eq (K : Ok G X own cc nL rt rm) {off : Int} (hq : eok own cc (pc, .if_icmp .eq off, len, nx, v0, ci, k, pl) = true) {x y : Int32} (kt : x = y → Sm G X w nc ns r st nx) (kf : ¬ x = y → Sm G X w nc ns r st (pc + 3)) : Sm G X w nc ns r (.int y :: .int x :: st) pc := fun H locs ls hw hS hl => lv_icmp_eq K.1 K.2.1 (eok_i hq rfl) (of_decide_eq_true (eok_x hq)) (fun z => kt z H locs ls hw hS hl) (fun z => kf z H locs ls hw hS hl)
theorem Sm_ic_ne (K : Ok G X own cc nL rt rm) {off : Int} (hq : eok own cc (pc, .if_icmp .ne off, len, nx, v0, ci, k, pl) = true) {x y : Int32} (kt : ¬ x = y → Sm G X w nc ns r st nx) (kf : x = y → Sm G X w nc ns r st (pc + 3)) : Sm G X w nc ns r (.int y :: .int x :: st) pc := fun H locs ls hw hS hl => lv_icmp_ne K.1 K.2.1 (eok_i hq rfl) (of_decide_eq_true (eok_x hq)) (fun z => kt z H locs ls hw hS hl) (fun z => kf z H locs ls hw hS hl)
theorem Sm_ic_lt (K : Ok G X own cc nL rt rm) {off : Int} (hq : eok own cc (pc, .if_icmp .lt off, len, nx, v0, ci, k, pl) = true) {x y : Int32} (kt : x < y → Sm G X w nc ns r st nx) (kf : ¬ x < y → Sm G X w nc ns r st (pc + 3)) : Sm G X w nc ns r (.int y :: .int x :: st) pc := fun H locs ls hw hS hl => lv_icmp_lt K.1 K.2.1 (eok_i hq rfl) (of_decide_eq_true (eok_x hq)) (fun z => kt z H locs ls hw hS hl) (fun z => kf z H locs ls hw hS hl)
theorem Sm_ic_ge (K : Ok G X own cc nL rt rm) {off : Int} (hq : eok own cc (pc, .if_icmp .ge off, len, nx, v0, ci, k, pl) = true) {x y : Int32} (kt : y ≤ x → Sm G X w nc ns r st nx) (kf : ¬ y ≤ x → Sm G X w nc ns r st (pc + 3)) : Sm G X w nc ns r (.int y :: .int x :: st) pc := fun H locs ls hw hS hl => lv_icmp_ge K.1 K.2.1 (eok_i hq rfl) (of_decide_eq_true (eok_x hq)) (fun z => kt z H locs ls hw hS hl) (fun z => kf z H locs ls hw hS hl)
theorem Sm_ic_gt (K : Ok G X own cc nL rt rm) {off : Int} (hq : eok own cc (pc, .if_icmp .gt off, len, nx, v0, ci, k, pl) = true) {x y : Int32} (kt : y < x → Sm G X w nc ns r st nx) (kf : ¬ y < x → Sm G X w nc ns r st (pc + 3)) : Sm G X w nc ns r (.int y :: .int x :: st) pc := fun H locs ls hw hS hl => lv_icmp_gt K.1 K.2.1 (eok_i hq rfl) (of_decide_eq_true (eok_x hq)) (fun z => kt z H locs ls hw hS hl) (fun z => kf z H locs ls hw hS hl)
theorem Sm_ic_le (K : Ok G X own cc nL rt rm) {off : Int} (hq : eok own cc (pc, .if_icmp .le off, len, nx, v0, ci, k, pl) = true) {x y : Int32} (kt : x ≤ y → Sm G X w nc ns r st nx) (kf : ¬ x ≤ y → Sm G X w nc ns r st (pc + 3)) : Sm G X w nc ns r (.int y :: .int x :: st) pc := fun H locs ls hw hS hl => lv_icmp_le K.1 K.2.1 (eok_i hq rfl) (of_decide_eq_true (eok_x hq)) (fun z => kt z H locs ls hw hS hl) (fun z => kf z H locs ls hw hS hl)
theorem Sm_if_eq (K : Ok G X own cc nL rt rm) {off : Int} (hq : eok own cc (pc, .ifCond .eq off, len, nx, v0, ci, k, pl) = true) {x : Int32} (kt : x = 0 → Sm G X w nc ns r st nx) (kf : ¬ x = 0 → Sm G X w nc ns r st (pc + 3)) : Sm G X w nc ns r (.int x :: st) pc := fun H locs ls hw hS hl => lv_if_eq K.1 K.2.1 (eok_i hq rfl) (of_decide_eq_true (eok_x hq)) (fun z => kt z H locs ls hw hS hl) (fun z => kf z H locs ls hw hS hl)
theorem Sm_if_ne (K : Ok G X own cc nL rt rm) {off : Int} (hq : eok own cc (pc, .ifCond .ne off, len, nx, v0, ci, k, pl) = true) {x : Int32} (kt : ¬ x = 0 → Sm G X w nc ns r st nx) (kf : x = 0 → Sm G X w nc ns r st (pc + 3)) : Sm G X w nc ns r (.int x :: st) pc := fun H locs ls hw hS hl => lv_if_ne K.1 K.2.1 (eok_i hq rfl) (of_decide_eq_true (eok_x hq)) (fun z => kt z H locs ls hw hS hl) (fun z => kf z H locs ls hw hS hl)
theorem Sm_if_lt (K : Ok G X own cc nL rt rm) {off : Int} (hq : eok own cc (pc, .ifCond .lt off, len, nx, v0, ci, k, pl) = true) {x : Int32} (kt : x < 0 → Sm G X w nc ns r st nx) (kf : ¬ x < 0 → Sm G X w nc ns r st (pc + 3)) : Sm G X w nc ns r (.int x :: st) pc := fun H locs ls hw hS hl => lv_if_lt K.1 K.2.1 (eok_i hq rfl) (of_decide_eq_true (eok_x hq)) (fun z => kt z H locs ls hw hS hl) (fun z => kf z H locs ls hw hS hl)
theorem Sm_if_ge (K : Ok G X own cc nL rt rm) {off : Int} (hq : eok own cc (pc, .ifCond .ge off, len, nx, v0, ci, k, pl) = true) {x : Int32} (kt : 0 ≤ x → Sm G X w nc ns r st nx) (kf : ¬ 0 ≤ x → Sm G X w nc ns r st (pc + 3)) : Sm G X w nc ns r (.int x :: st) pc := fun H locs ls hw hS hl => lv_if_ge K.1 K.2.1 (eok_i hq rfl) (of_decide_eq_true (eok_x hq)) (fun z => kt z H locs ls hw hS hl) (fun z => kf z H locs ls hw hS hl)
theorem Sm_if_gt (K : Ok G X own cc nL rt rm) {off : Int} (hq : eok own cc (pc, .ifCond .gt off, len, nx, v0, ci, k, pl) = true) {x : Int32} (kt : 0 < x → Sm G X w nc ns r st nx) (kf : ¬ 0 < x → Sm G X w nc ns r st (pc + 3)) : Sm G X w nc ns r (.int x :: st) pc := fun H locs ls hw hS hl => lv_if_gt K.1 K.2.1 (eok_i hq rfl) (of_decide_eq_true (eok_x hq)) (fun z => kt z H locs ls hw hS hl) (fun z => kf z H locs ls hw hS hl)
theorem Sm_if_le (K : Ok G X own cc nL rt rm) {off : Int} (hq : eok own cc (pc, .ifCond .le off, len, nx, v0, ci, k, pl) = true) {x : Int32} (kt : x ≤ 0 → Sm G X w nc ns r st nx) (kf : ¬ x ≤ 0 → Sm G X w nc ns r st (pc + 3)) : Sm G X w nc ns r (.int x :: st) pc := fun H locs ls hw hS hl => lv_if_le K.1 K.2.1 (eok_i hq rfl) (of_decide_eq_true (eok_x hq)) (fun z => kt z H locs ls hw hS hl) (fun z => kf z H locs ls hw hS hl)
theorem Sm_tsw (K : Ok G X own cc nL rt rm) {dflt lo hi : Int} {offs : Array Int} (hd : decode cc pc = .ok (.tableswitch dflt lo hi offs, len)) (tg : List Nat) (dt : Nat) (hhi : hi = lo + tg.length - 1) (hdt : (pc : Int) + dflt = (dt : Int)) (ho : ∀ j : Nat, j < tg.length → offs[j]? = some (((tg.getD j 0 : Nat) : Int) - (pc : Int))) {x : Int32} (k1 : ∀ j : Nat, j < tg.length → x.toInt = lo + j → Sm G X w nc ns r st (tg.getD j 0)) (k2 : (∀ j : Nat, j < tg.length → ¬ x.toInt = lo + j) → Sm G X w nc ns r st dt) : Sm G X w nc ns r (.int x :: st) pc := by
  intro H locs ls hw hS hl
  by_cases h : x.toInt < lo ∨ hi < x.toInt
  · exact lv_tableOut K.1 K.2.1 hd h hdt (k2 (fun j hj e => by omega) H locs ls hw hS hl)
  · have hj : (x.toInt - lo).toNat < tg.length := by omega
    exact lv_tableIn K.1 K.2.1 hd (by omega) (by omega) (ho _ hj) (by omega) (k1 _ hj (by omega) H locs ls hw hS hl)
theorem Sm_lsw (K : Ok G X own cc nL rt rm) {dflt : Int} {ps : Array (Int × Int)} (hd : decode cc pc = .ok (.lookupswitch dflt ps, len)) (hp : (ps.toList.zip (ps.toList.drop 1)).all (fun (a, next) => a.1 < next.1) = true) {x : Int32} (tgt : Nat) (ht : (pc : Int) + Op.lookupswitch.offset ps.toList dflt x.toInt = (tgt : Int)) (kk : Sm G X w nc ns r st tgt) : Sm G X w nc ns r (.int x :: st) pc := fun H locs ls hw hS hl => lv_lookup K.1 K.2.1 hd hp rfl ht (kk H locs ls hw hS hl)
/-- fewer locals are known: a stronger statement -/
def leR : A_R → A_R → Prop
  | [], [] => True
  | a :: t, b :: u => (a = none ∨ a = b) ∧ leR t u
  | _, _ => False
theorem leR_lk {a b : A_R} (h : leR a b) {i : Nat} {v : Value} (hi : lk a i = some v) : lk b i = some v := by
  induction a generalizing b i with
  | nil => simp [lk] at hi
  | cons x t ih =>
    cases b with
    | nil => exact h.elim
    | cons y u =>
      cases i with
      | zero =>
        rcases h.1 with e | e
        · simp [lk, e] at hi
        · simp [lk, ← e] at hi ⊢; exact hi
      | succ i => exact ih h.2 hi
theorem leR_len {a b : A_R} (h : leR a b) : a.length = b.length := by
  induction a generalizing b with
  | nil => cases b with
    | nil => rfl
    | cons => exact h.elim
  | cons x t ih => cases b with
    | nil => exact h.elim
    | cons y u => simp [ih h.2]
theorem Sm_le {r1 : A_R} (h : leR r1 r) (kk : Sm G X w nc ns r1 st pc) : Sm G X w nc ns r st pc := fun H locs ls hw hS hl => kk H locs ls hw hS ⟨hl.1.trans (leR_len h).symm, hl.2.1, fun i v hi => hl.2.2 i v (leR_lk h hi)⟩
end SMB
/-! contracts -/
def Pw (G : Gx) (w : A_W) (U : State) : Prop := WD G w U.heap ∧ KK G U
def Qw (G : Gx) (v : Option Value) (w1 : A_W) : Array Value → State → Outcome → State → Prop := fun _ s oc t => (oc = .returned (v.map (rl G)) ∧ Pw G w1 t) ∧ va_F (gA G) s t
def Cn (G : Gx) (y : MethodName) (bytes : ByteArray) (maxL : Nat) (ret : Option FieldType) (rm : Room) (as : List Value) (w : A_W) (v : Option Value) (w1 : A_W) : Prop :=
  Met (gL G) y (Cond.code y bytes maxL ret :: lg) rm (va_Pc (as.map (rl G)) (Pw G w)) (Qw G v w1) rm.cells rm.slots (gA G)
/-- a method's own facts: code, class, number of parameters -/
def Cy (y : MethodName) (bytes : ByteArray) (maxL : Nat) (ret : Option FieldType) (n : Nat) : Prop :=
  Cond.code y bytes maxL ret ∈ lg ∧ Cond.initialized y.cls ∈ lg ∧ (y.cls ≠ "java/lang/invoke/MethodHandle" ∧ y.cls ≠ "java/lang/invoke/VarHandle" ∧ (parseMethodDescriptor y.desc).map (fun d => d.parameters.length) = some n) ∧ plainName y.cls = true
theorem lg_good {y : MethodName} {bytes : ByteArray} {maxL : Nat} {ret : Option FieldType} (h : Cond.code y bytes maxL ret ∈ lg) : GoodIn lg (Cond.code y bytes maxL ret :: lg) := by
  have key : ∀ w ∈ lg, w ∈ lg ∧ ((w.onTables && w.keeps) = true ∨ ∃ ty, w = .arrayClass ty) := fun w hw => ⟨hw, good_of_word (List.all_eq_true.mp lg_all w hw)⟩
  intro w hw
  rcases List.mem_cons.mp hw with rfl | hw
  · exact key _ h
  · exact key _ hw
section SMC
variable {G : Gx} {X : Cx} {own nL : Nat} {cc : ByteArray} {rt : Option FieldType} {R rm : Room} {w w1 : A_W} {nc ns : Nat} {r : A_R} {st st0 : List Value} {pc : Nat}
theorem Pw_blind {as : List Value} : FrameBlind (va_Pc as (Pw G w)) := fun a U g mk q => ⟨q.1, q.2.1, q.2.2.same (s := U) (U := U.calling g mk a) rfl rfl⟩
theorem Pw_of (K : Ok G X own cc nL rt R) {H : Heap} {locs : List Loc} (hw : WD G w H) (hS : va_S (gA G) (xS X).heap H locs) {U : State} (hU : U.heap = H) (hW : (xS X).WarmedH U.vm) : Pw G w U := ⟨by rw [hU]; exact hw, K.2.2.2.2.2.2.1.moved hW (fun a h1 h2 => by rw [hU]; exact hS.2.1 a h1 h2)⟩
theorem Sm_go {v : Option Value} {mc ms : Nat} {aa : Array Value} (hr : ∀ (H : Heap) (locs : List Loc) (ls : Array Slot), WD G w H → va_S (gA G) (xS X).heap H locs → LH G ls r → va_Run (xP X) (gL G) (xE X) (xR X) (xS X) (xM X) (xG X) (xB X) (xH X) (xC X) H locs nc ns mc ms (F0 (xM X) pc ls (st0.map (rl G))) (st.map (rl G)) (Qw G v w1 aa) (gA G)) (kk : Sm G X w1 (nc + mc) (ns + ms) r (v.toList ++ st) (pc + 3)) : Sm G X w nc ns r st0 pc := by
  intro H locs ls hw hS hl T hT Z
  obtain ⟨v1, s0, t, T1, L, h0, Z1, hL, e1, e2, ⟨⟨hv, hb⟩, hz, hk⟩, sts⟩ := hr H locs ls hw hS hl T hT Z
  have hv : v1 = v.map (rl G) := by cases hv; rfl
  subst hv
  rw [h0] at hz hk
  obtain ⟨t2, a1, b1⟩ := kk T1.heap (locs ++ L) ls (by rw [e1]; exact hb.1) ⟨Nat.le_trans hS.1 (by rw [e1]; exact hz), fun q g1 g2 => by rw [e1, hk q (Nat.lt_of_lt_of_le g1 hS.1) g2]; exact hS.2.1 q g1 g2, fun q hq => by
      rcases List.mem_append.mp hq with h | h
      · exact hS.2.2 q h
      · exact hL q h⟩ hl T1 rfl Z1
  refine ⟨t2, sts t2 ?_, b1⟩
  have e : (v.toList ++ st).map (rl G) = (v.map (rl G)).toList ++ st.map (rl G) := by cases v <;> simp
  rw [e] at a1
  exact a1
theorem map_call {as : List Value} {b : Nat} : (as.reverse ++ .ref b :: st).map (rl G) = (as.map (rl G)).reverse ++ .ref (ad G b) :: st.map (rl G) := by simp [rl]
theorem map_callS {as : List Value} : (as.reverse ++ st).map (rl G) = (as.map (rl G)).reverse ++ st.map (rl G) := by simp
variable {y : MethodName} {bytes : ByteArray} {maxL n idx : Nat} {ret : Option FieldType} {as : List Value} {v : Option Value}
theorem Sm_callB (K : Ok G X own cc nL rt R) (hy : Cy y bytes maxL ret n) (hl : Cond.methodLink (Rn own) idx y ∈ lg) (hR : rm.frames + 1 ≤ R.frames ∧ 8 + (maxL + 11) + rm.locals ≤ R.locals) : CallB (xR X) (xS X) (xG X) (Rn own) idx y bytes maxL ret (Cond.code y bytes maxL ret :: lg) rm rm.cells rm.slots n :=
  callB_of n K.2.2.2.2.2.1 (lg_good hy.1) rfl rfl rfl (K.2.2.2.2.2.1 _ hy.2.1) (K.2.2.2.2.2.1 _ hl) hy.2.2.1 (by rw [K.2.2.2.2.2.2.2.2.1]; exact hR)
theorem Sm_callN (K : Ok G X own cc nL rt R) {host : String} (hy : Cy y bytes maxL ret n) (hl : (Rn own, idx, y, host) ∈ nst) (hR : rm.frames + 1 ≤ R.frames ∧ 8 + (maxL + 11) + rm.locals ≤ R.locals) : va_CN (xR X) (xS X) (xG X) (Rn own) idx y host bytes maxL ret (Cond.code y bytes maxL ret :: lg) rm rm.cells rm.slots n :=
  va_cnB n K.2.2.2.2.2.1 (lg_good hy.1) rfl rfl rfl (K.2.2.2.2.2.2.1.2.1 _ hl) (K.2.2.2.2.2.1 _ hy.2.1) hy.2.2.1 (by rw [K.2.2.2.2.2.2.2.2.1]; exact hR)
theorem Sm_callV (K : Ok G X own cc nL rt R) (hd : decode cc pc = .ok (.invokevirtual idx, 3)) (hy : Cy y bytes maxL ret n) (hi : Cond.instanceMethod y ∈ lg) (hs : Cond.selects y.cls y y ∈ lg) (hl : Cond.methodLink (Rn own) idx y ∈ lg) (hR : rm.frames + 1 ≤ R.frames ∧ 8 + (maxL + 11) + rm.locals ≤ R.locals) {b ci : Nat} {fs : List Value} (hb : w[b]? = some (.inr (.inr (ci, fs)))) (hci : ci < 5) (hyc : y.cls = Rn ci) (hn : as.length = n) (hlen : r.length = nL) (hst : st0 = as.reverse ++ .ref b :: st) (hcat : ((st.map (rl G)).map fun v => v.category).sum ≤ 8) (hf : nc + rm.cells ≤ R.cells ∧ ns + rm.slots ≤ R.slots) (hM : Cn G y bytes maxL ret rm (.ref b :: as) w v w1) (kk : Sm G X w1 (nc + rm.cells) (ns + rm.slots) r (v.toList ++ st) (pc + 3)) : Sm G X w nc ns r st0 pc := by
  refine Sm_go (aa := (Value.ref (ad G b) :: as.map (rl G)).toArray) (fun H locs ls hw hS hl1 => ?_) kk
  subst hst
  rw [map_call]
  refine va_runV (cc := cc) (nL := nL) (Ts := lg) (own := Rn own) (C := y.cls) (As := as.map (rl G)) ⟨K.1, K.2.1, K.2.2.2.1, K.2.2.2.2.1, K.2.2.2.2.2.1⟩ hM ⟨Sm_callB K hy hl hR, K.2.2.2.2.2.1 _ hi, K.2.2.2.2.2.1 _ hs⟩ ⟨Pw_blind, ?_, fun U hU hW => ⟨rfl, Pw_of K hw hS hU hW⟩⟩ rfl (by rw [List.length_map]; exact hn) (hl1.1.trans hlen) rfl (lv_room hcat) hd (by rw [K.2.2.2.2.2.2.2.2.1]; exact hf)
  rw [hyc]
  exact va_recv K.2.2.2.2.2.2.1.1 (WD_P hw hb) (cls_at hci) (q0 := 0) rfl
theorem Sm_callS (K : Ok G X own cc nL rt R) (hd : decode cc pc = .ok (.invokestatic idx, 3)) (hy : Cy y bytes maxL ret n) (hs : Cond.static y ∈ lg) (hl : Cond.methodLink (Rn own) idx y ∈ lg) (hR : rm.frames + 1 ≤ R.frames ∧ 8 + (maxL + 11) + rm.locals ≤ R.locals) (hn : as.length = n) (hlen : r.length = nL) (hst : st0 = as.reverse ++ st) (hcat : ((st.map (rl G)).map fun v => v.category).sum ≤ 8) (hf : nc + rm.cells ≤ R.cells ∧ ns + rm.slots ≤ R.slots) (hM : Cn G y bytes maxL ret rm as w v w1) (kk : Sm G X w1 (nc + rm.cells) (ns + rm.slots) r (v.toList ++ st) (pc + 3)) : Sm G X w nc ns r st0 pc := by
  refine Sm_go (aa := (as.map (rl G)).toArray) (fun H locs ls hw hS hl1 => ?_) kk
  subst hst
  rw [map_callS]
  exact va_runS (cc := cc) (nL := nL) (Ts := lg) (own := Rn own) (As := as.map (rl G)) ⟨K.1, K.2.1, K.2.2.2.1, K.2.2.2.2.1, K.2.2.2.2.2.1⟩ hM ⟨Sm_callB K hy hl hR, K.2.2.2.2.2.1 _ hs⟩ ⟨Pw_blind, fun U hU hW => ⟨rfl, Pw_of K hw hS hU hW⟩⟩ rfl (by rw [List.length_map]; exact hn) (hl1.1.trans hlen) rfl (lv_room hcat) hd (by rw [K.2.2.2.2.2.2.2.2.1]; exact hf)
theorem Sm_callSN (K : Ok G X own cc nL rt R) {host : String} (hd : decode cc pc = .ok (.invokestatic idx, 3)) (hy : Cy y bytes maxL ret n) (hs : Cond.static y ∈ lg) (hl : (Rn own, idx, y, host) ∈ nst) (hR : rm.frames + 1 ≤ R.frames ∧ 8 + (maxL + 11) + rm.locals ≤ R.locals) (hn : as.length = n) (hlen : r.length = nL) (hst : st0 = as.reverse ++ st) (hcat : ((st.map (rl G)).map fun v => v.category).sum ≤ 8) (hf : nc + rm.cells ≤ R.cells ∧ ns + rm.slots ≤ R.slots) (hM : Cn G y bytes maxL ret rm as w v w1) (kk : Sm G X w1 (nc + rm.cells) (ns + rm.slots) r (v.toList ++ st) (pc + 3)) : Sm G X w nc ns r st0 pc := by
  refine Sm_go (aa := (as.map (rl G)).toArray) (fun H locs ls hw hS hl1 => ?_) kk
  subst hst
  rw [map_callS]
  exact va_runSN (cc := cc) (nL := nL) (Ts := lg) (own := Rn own) (As := as.map (rl G)) ⟨K.1, K.2.1, K.2.2.2.1, K.2.2.2.2.1, K.2.2.2.2.2.1⟩ hM ⟨Sm_callN K hy hl hR, K.2.2.2.2.2.1 _ hs, trivial⟩ ⟨Pw_blind, fun U hU hW => ⟨rfl, Pw_of K hw hS hU hW⟩⟩ rfl (by rw [List.length_map]; exact hn) (hl1.1.trans hlen) rfl (lv_room hcat) hd (by rw [K.2.2.2.2.2.2.2.2.1]; exact hf)
theorem Sm_callI (K : Ok G X own cc nL rt R) (hd : decode cc pc = .ok (.invokespecial idx, 3)) (hy : Cy y bytes maxL none n) (hi : Cond.instanceMethod y ∈ lg) (hnm : y.name = "<init>") (hl : Cond.methodLink (Rn own) idx y ∈ lg) (hR : rm.frames + 1 ≤ R.frames ∧ 8 + (maxL + 11) + rm.locals ≤ R.locals) {b : Nat} (hn : as.length = n) (hlen : r.length = nL) (hst : st0 = as.reverse ++ .ref b :: st) (hcat : ((st.map (rl G)).map fun v => v.category).sum ≤ 8) (hf : nc + rm.cells ≤ R.cells ∧ ns + rm.slots ≤ R.slots) (hM : Cn G y bytes maxL none rm (.ref b :: as) w v w1) (kk : Sm G X w1 (nc + rm.cells) (ns + rm.slots) r (v.toList ++ st) (pc + 3)) : Sm G X w nc ns r st0 pc := by
  refine Sm_go (aa := (Value.ref (ad G b) :: as.map (rl G)).toArray) (fun H locs ls hw hS hl1 => ?_) kk
  subst hst
  rw [map_call]
  exact va_runI (cc := cc) (nL := nL) (Ts := lg) (own := Rn own) (As := as.map (rl G)) ⟨K.1, K.2.1, K.2.2.2.1, K.2.2.2.2.1, K.2.2.2.2.2.1⟩ hM ⟨Sm_callB K hy hl hR, hnm, K.2.2.2.2.2.1 _ hi⟩ ⟨Pw_blind, fun U hU hW => ⟨rfl, Pw_of K hw hS hU hW⟩⟩ rfl (by rw [List.length_map]; exact hn) (hl1.1.trans hlen) rfl (lv_room hcat) hd (by rw [K.2.2.2.2.2.2.2.2.1]; exact hf)
theorem Sm_callIN (K : Ok G X own cc nL rt R) {host : String} (hd : decode cc pc = .ok (.invokespecial idx, 3)) (hy : Cy y bytes maxL none n) (hi : Cond.instanceMethod y ∈ lg) (hnm : y.name = "<init>") (hl : (Rn own, idx, y, host) ∈ nst) (hR : rm.frames + 1 ≤ R.frames ∧ 8 + (maxL + 11) + rm.locals ≤ R.locals) {b : Nat} (hn : as.length = n) (hlen : r.length = nL) (hst : st0 = as.reverse ++ .ref b :: st) (hcat : ((st.map (rl G)).map fun v => v.category).sum ≤ 8) (hf : nc + rm.cells ≤ R.cells ∧ ns + rm.slots ≤ R.slots) (hM : Cn G y bytes maxL none rm (.ref b :: as) w v w1) (kk : Sm G X w1 (nc + rm.cells) (ns + rm.slots) r (v.toList ++ st) (pc + 3)) : Sm G X w nc ns r st0 pc := by
  refine Sm_go (aa := (Value.ref (ad G b) :: as.map (rl G)).toArray) (fun H locs ls hw hS hl1 => ?_) kk
  subst hst
  rw [map_call]
  exact va_runIN (cc := cc) (nL := nL) (Ts := lg) (own := Rn own) (As := as.map (rl G)) ⟨K.1, K.2.1, K.2.2.2.1, K.2.2.2.2.1, K.2.2.2.2.2.1⟩ hM ⟨Sm_callN K hy hl hR, hnm, K.2.2.2.2.2.1 _ hi⟩ ⟨Pw_blind, fun U hU hW => ⟨rfl, Pw_of K hw hS hU hW⟩⟩ rfl (by rw [List.length_map]; exact hn) (hl1.1.trans hlen) rfl (lv_room hcat) hd (by rw [K.2.2.2.2.2.2.2.2.1]; exact hf)
/-- the goal of a method's body -/
def QQ (G : Gx) (X : Cx) (v : Option Value) (w1 : A_W) (mc ms : Nat) : Prop := xQ X = MQ (xB X) (Qw G v w1) (xG X) (xS X) mc ms (gA G)
theorem Qw_of (K : Ok G X own cc nL rt R) {H : Heap} {locs : List Loc} (hw : WD G w H) (hS : va_S (gA G) (xS X).heap H locs) {v : Option Value} {aa : Array Value} : ∀ t : State, t.heap = H → (xS X).WarmedH t.vm → Qw G v w aa (xS X) (.returned (v.map (rl G))) t := fun t ht hW => ⟨⟨rfl, Pw_of K hw hS ht hW⟩, hS.F ht⟩
theorem Sm_reti (K : Ok G X own cc nL (some .int) R) {x : Int32} (hQ : QQ G X (some (.int x)) w nc ns) (hd : decode cc pc = .ok (.ireturn, 1)) : Sm G X w nc ns r [.int x] pc := by
  intro H locs ls hw hS hl
  rw [hQ]
  exact W.iret K.1 K.2.1 K.2.2.1 (Qw_of K hw hS (v := some (.int x))) hS.2.2 hd K.2.2.2.2.2.2.2.1
theorem Sm_retz (K : Ok G X own cc nL (some .boolean) R) {x y : Int32} (hb : bz x = some y) (hQ : QQ G X (some (.int y)) w nc ns) (hd : decode cc pc = .ok (.ireturn, 1)) : Sm G X w nc ns r [.int x] pc := by
  obtain ⟨rfl, hx⟩ := bz_e hb
  intro H locs ls hw hS hl
  rw [hQ]
  exact W.zret K.1 K.2.1 K.2.2.1 (by rcases hx with rfl | rfl <;> rfl) (Qw_of K hw hS (v := some (.int y))) hS.2.2 hd K.2.2.2.2.2.2.2.1
theorem Sm_retl (K : Ok G X own cc nL (some .long) R) {x : Int64} (hQ : QQ G X (some (.long x)) w nc ns) (hd : decode cc pc = .ok (.lreturn, 1)) : Sm G X w nc ns r [.long x] pc := by
  intro H locs ls hw hS hl
  rw [hQ]
  exact W.lret K.1 K.2.1 K.2.2.1 (Qw_of K hw hS (v := some (.long x))) hS.2.2 hd K.2.2.2.2.2.2.2.1
theorem Sm_reta {ft : FieldType} (K : Ok G X own cc nL (some ft) R) (hft : (∃ n, ft = .object n) ∨ ∃ t, ft = .array t) {x : Nat} (hQ : QQ G X (some (.ref x)) w nc ns) (hd : decode cc pc = .ok (.areturn, 1)) : Sm G X w nc ns r [.ref x] pc := by
  intro H locs ls hw hS hl
  rw [hQ]
  exact W.aret K.1 K.2.1 K.2.2.1 hft (Or.inr ⟨_, rfl⟩) (Qw_of K hw hS (v := some (.ref x))) hS.2.2 hd K.2.2.2.2.2.2.2.1
theorem Sm_retv (K : Ok G X own cc nL none R) (hQ : QQ G X none w nc ns) (hd : decode cc pc = .ok (.return_, 1)) : Sm G X w nc ns r [] pc := by
  intro H locs ls hw hS hl
  rw [hQ]
  exact W.vret K.1 K.2.1 K.2.2.1 (Qw_of K hw hS (v := none)) hS.2.2 hd K.2.2.2.2.2.2.2.1
theorem lv_args1 {as : List Value} (h : as.all (fun v => v.category == 1) = true) (G : Gx) : ∀ (i j : Nat) (v : Value) (m : Nat), lk (as.map some ++ List.replicate m none) j = some v → (i + j, rl G v) ∈ lv_args i (as.map (rl G)) := by
  induction as with
  | nil =>
    intro i j v m hj
    exfalso
    induction m generalizing j with
    | zero => simp [lk] at hj
    | succ m ih => cases j with
      | zero => simp [lk, List.replicate] at hj
      | succ j => exact ih j (by simpa [lk, List.replicate] using hj)
  | cons a t ih =>
    intro i j v m hj
    have h1 : a.category = 1 := by simpa using (List.all_eq_true.mp h a List.mem_cons_self)
    cases j with
    | zero => simp [lk] at hj; subst hj; exact List.mem_cons_self
    | succ j =>
      have := ih (List.all_eq_true.mpr fun x hx => List.all_eq_true.mp h x (List.mem_cons_of_mem _ hx)) (i + 1) j v m (by simpa [lk] using hj)
      refine List.mem_cons_of_mem _ ?_
      rw [if_neg (by rw [rl_cat, h1]; decide)]
      rwa [show i + (j + 1) = i + 1 + j by omega]
theorem lg_sl1 {as : List Value} (h : as.all (fun v => v.category == 1) = true) (G : Gx) : (lg_sl (as.map (rl G))).length = as.length := by
  induction as with
  | nil => rfl
  | cons a t ih =>
    have h1 : a.category = 1 := by simpa using (List.all_eq_true.mp h a List.mem_cons_self)
    have h2 := ih (List.all_eq_true.mpr fun x hx => List.all_eq_true.mp h x (List.mem_cons_of_mem _ hx))
    unfold lg_sl at h2 ⊢
    rw [List.map_cons, List.flatMap_cons, if_neg (by rw [rl_cat, h1]; decide), List.length_append, h2]
    simp; omega
/-- a contract out of a walk of the body -/
theorem Cn_of {own : Nat} (hy : Cy y bytes maxL ret n) (hc : y.cls = Rn own) (h1 : as.all (fun v => v.category == 1) = true) (hml : as.length ≤ maxL) (hr : r = as.map some ++ List.replicate (maxL - as.length) none) (body : ∀ X : Cx, Ok G X own bytes maxL ret rm → (xH X).name = y.name → QQ G X v w1 rm.cells rm.slots → Sm G X w 0 0 r [] 0) : Cn G y bytes maxL ret rm as w v w1 := by
  refine Met.ofW (cc := bytes) (maxL := maxL) (ret := ret) hy.2.2.2 rfl ?_
  intro p e s m args below meth c s₁ B hm hv
  obtain ⟨rfl, hP, hKK⟩ := hv
  have hts := atoms_spec (ws := Cond.code y bytes maxL ret :: lg) B.pre
  have hown : s.vm.findClass (Rn own) = some m.cls := by rw [← hc]; exact findClass_of_methodNamed B.named
  rw [lg_entry_eq]
  have hl := lv_entry (as.map (rl G)) (n := maxL) (by rw [lg_sl1 h1]; exact hml)
  have hrl : r.length = maxL := by rw [hr]; simp; omega
  have hLH : LH G (lg_sl (as.map (rl G)) ++ List.replicate (maxL - (lg_sl (as.map (rl G))).length) Slot.unset).toArray r := by
    refine LH.of (by rw [hrl]; exact hl) fun i v hi => ?_
    rw [hr] at hi
    have := lv_args1 h1 G 0 i v _ hi
    rwa [Nat.zero_add] at this
  have hb : gB G ≤ s.heap.size := by rw [hP.1]; exact Nat.le_add_right _ _
  exact body (p, e, (headSpec (Cond.code y bytes maxL ret :: lg) rm).room, s, m, _, below, meth, c, MQ below (Qw G v w1) _ s rm.cells rm.slots (gA G)) ⟨B.exec, B.bytes, B.returns, hm, hown, fun x hx => hts x (List.mem_cons_of_mem _ hx), hKK, B.notSynchronized, rfl, hb⟩ (name_of_methodNamed B.named B.method).1 rfl s.heap [] _ hP va_S.rf hLH
end SMC
end
section
/-! THE RULES that make cells, copy rows, and call what has no code -/
def dv : FieldType → Value := defaultValue
section SMM
variable {G : Gx} {X : Cx} {own nL : Nat} {cc : ByteArray} {rt : Option FieldType} {R rm : Room} {w w1 : A_W} {nc ns : Nat} {r : A_R} {st st0 : List Value} {pc idx : Nat}
theorem Sm_objInit (K : Ok G X own cc nL rt R) (hd : decode cc pc = .ok (.invokespecial idx, 3)) (hl : Cond.methodLink (Rn own) idx Lib.objectInit ∈ lg) (hi : Cond.instanceMethod Lib.objectInit ∈ lg) (hc : Cond.code Lib.objectInit ⟨#[0xb1]⟩ 1 none ∈ lg) (hlen : r.length = nL) {a : Nat} (hf : 1 ≤ R.frames) (hlo : ((st.map (rl G)).map fun v => v.category).sum + 12 ≤ R.locals) (kk : Sm G X w nc ns r st (pc + 3)) : Sm G X w nc ns r (.ref a :: st) pc := by
  intro H locs ls hw hS hl1
  have ht := K.2.2.2.2.2.1
  refine W.objInit K.1 K.2.1 K.2.2.2.2.1 (ht _ hl) (ht _ hi) (ht _ hc) rfl (by rw [K.2.2.2.1]; exact hl1.1.trans hlen) rfl hd (by rw [K.2.2.2.2.2.2.2.2.1]; exact hf) ?_ (kk H locs ls hw hS hl1)
  rw [K.2.2.2.2.2.2.2.2.1]
  show 2 * 0 + _ + 12 ≤ _
  omega
theorem Sm_na (K : Ok G X own cc nL rt R) (hd : decode cc pc = .ok (.newarray .int, 2)) (harr : Cond.arrayClass .int ∈ lg) {n : Int32} {N : Nat} (hn : ¬ n < 0) (hN : n.toNatClampNeg = N) (hb : N ≤ 100000000) (hwl : w.length < 1000000) (hc : nc + 1 ≤ R.cells) (hs : ns + N ≤ R.slots) (kk : Sm G X (w ++ [.inl (N, fun _ => 0)]) (nc + 1) (ns + N) r (.ref w.length :: st) (pc + 2)) : Sm G X w nc ns r (.int n :: st) pc := by
  intro H locs ls hw hS hl1
  have ht := K.2.2.2.2.2.1
  have hK := K.2.2.2.2.2.2.1.1
  refine va_newaK (atype := .int) K.1 K.2.1 (ht _ harr) rfl hd rfl hn hN (by show N * 4 ≤ 536870912; omega) (by rw [K.2.2.2.2.2.2.2.2.1]; exact hc) (by rw [K.2.2.2.2.2.2.2.2.1]; exact hs) rfl fun H1 cA e1 z1 o1 hAr hNm => ?_
  have hcA : cA = gI G := Option.some.inj (hNm.symm.trans (hK.2 0 _ rfl).2)
  subst hcA
  have h := kk H1 locs ls (WD_push hw hwl z1 o1 (by exact e1)) ⟨Nat.le_trans hS.1 (by omega), fun q h1 h2 => (o1 q (Nat.lt_of_lt_of_le h1 hS.1)).trans (hS.2.1 q h1 h2), hS.2.2⟩ hl1
  have e : rl G (.ref w.length) = .ref H.size := by
    show Value.ref (ad G w.length) = _
    rw [ad_lt hwl, ← hw.1]
  rw [List.map_cons, e] at h
  exact h
theorem Sm_nq (K : Ok G X own cc nL rt R) (hd : decode cc pc = .ok (.anewarray idx, 3)) (hcl : Cond.classLink (Rn own) idx (Rn 3) ∈ lg) {n : Int32} {N : Nat} (hn : ¬ n < 0) (hN : n.toNatClampNeg = N) (hb : N ≤ 100000000) (hwl : w.length < 1000000) (hc : nc + 1 ≤ R.cells) (hs : ns + N ≤ R.slots) (kk : Sm G X (w ++ [.inr (.inl (N, fun _ => none))]) (nc + 1) (ns + N) r (.ref w.length :: st) (pc + 3)) : Sm G X w nc ns r (.int n :: st) pc := by
  intro H locs ls hw hS hl1
  subst hN
  have ht := K.2.2.2.2.2.1
  have hK := K.2.2.2.2.2.2.1.1
  refine W.anew K.1 K.2.1 K.2.2.2.2.1 (ht _ hcl) (va_AO.use K.2.2.2.2.2.2.1.2.2.2.2.2.2.1) rfl hd rfl hn (by omega) (by rw [K.2.2.2.2.2.2.2.2.1]; exact hc) (by rw [K.2.2.2.2.2.2.2.2.1]; exact hs) fun cA kA comp f1 f2 f3 f4 => ?_
  obtain ⟨kA2, comp2, g1, g2, g3, g4⟩ := (hK.2 1 _ rfl).2
  have hcA : cA = gS G := Option.some.inj (f1.symm.trans g4)
  subst hcA
  generalize hH1 : H.push ({ cls := gS G, slots := Array.replicate n.toNatClampNeg .null, vm := .none } : Cell) = H1
  have z1 : H1.size = H.size + 1 := by rw [← hH1, Array.size_push]
  have e1 : H1[H.size]? = some (arrV (gS G) n.toNatClampNeg (fun _ => .null)) := by rw [← hH1, Array.getElem?_push_size, ← arrV_new]
  have o1 : ∀ q : Nat, q < H.size → H1[q]? = H[q]? := fun q hq => by rw [← hH1, Array.getElem?_push, if_neg (Nat.ne_of_lt hq)]
  have h := kk H1 locs ls (WD_push hw hwl z1 o1 (by exact e1)) ⟨Nat.le_trans hS.1 (by omega), fun q h1 h2 => (o1 q (Nat.lt_of_lt_of_le h1 hS.1)).trans (hS.2.1 q h1 h2), hS.2.2⟩ hl1
  have e : rl G (.ref w.length) = .ref H.size := by
    show Value.ref (ad G w.length) = _
    rw [ad_lt hwl, ← hw.1]
  rw [List.map_cons, e] at h
  exact h
theorem Sm_new (K : Ok G X own cc nL rt R) (hd : decode cc pc = .ok (.new idx, 3)) {ci : Nat} (hci : ci < 5) (hcl : Cond.classLink (Rn own) idx (Rn ci) ∈ lg) (hins : Cond.instantiable (Rn ci) (Nn ci) ∈ lg) (hini : Cond.initialized (Rn ci) ∈ lg) {fs : List Value} (hfs : ∀ j, j < Nn ci → defaultValue (tyn ci j) = vp_V (fs.map (rl G)) j) (hwl : w.length < 1000000) (hc : nc + 1 ≤ R.cells) (hs : ns + Nn ci ≤ R.slots) (kk : Sm G X (w ++ [.inr (.inr (ci, fs))]) (nc + 1) (ns + Nn ci) r (.ref w.length :: st) (pc + 3)) : Sm G X w nc ns r st pc := by
  intro H locs ls hw hS hl1
  have ht := K.2.2.2.2.2.1
  have hK := K.2.2.2.2.2.2.1.1
  have hc0 := cls_at hci
  have hKn := hK.1 ci _ hc0
  refine W.newcK K.1 K.2.1 K.2.2.2.2.1 (ht _ hcl) (ht _ hins) (ht _ hini) rfl hd (by rw [K.2.2.2.2.2.2.2.2.1]; exact hc) (by rw [K.2.2.2.2.2.2.2.2.1]; exact hs) hKn.2.1 rfl fun H1 kC hkC e1 z1 o1 => ?_
  have h := kk H1 locs ls (WD_push hw hwl z1 o1 ⟨_, hc0, (u_born (tyn ci) ht (inn hci) hKn hkC e1 (tokn hci)).to hfs⟩) ⟨Nat.le_trans hS.1 (by omega), fun q h1 h2 => (o1 q (Nat.lt_of_lt_of_le h1 hS.1)).trans (hS.2.1 q h1 h2), hS.2.2⟩ hl1
  have e : rl G (.ref w.length) = .ref H.size := by
    show Value.ref (ad G w.length) = _
    rw [ad_lt hwl, ← hw.1]
  rw [List.map_cons, e] at h
  exact h
theorem Sm_wa (K : Ok G X own cc nL rt R) (hd : decode cc pc = .ok (.aastore, 1)) {a b : Nat} {i : Int32} (h : wa w a i b = some w1) (kk : Sm G X w1 nc ns r st (pc + 1)) : Sm G X w nc ns r (.ref b :: .int i :: .ref a :: st) pc := by
  intro H locs ls hw hS hl
  obtain ⟨n, f, fs, he, hb, hi, rfl⟩ := wa_e h
  have hK := K.2.2.2.2.2.2.1.1
  have hA : gA G (ad G a) := by rw [WD_ad hw he]; exact Nat.le_add_right _ _
  obtain ⟨r', hr', cellV, g1, g2, g3, -⟩ := WD_at hw hb
  have hcls := (hK.1 3 _ rfl).2
  obtain ⟨kA, comp, k1, k2, k3, -⟩ := (hK.2 1 _ rfl).2
  have hcomp : comp = (gD G).1 3 := Option.some.inj (k3.symm.trans hcls.1)
  subst hcomp
  obtain ⟨kC, hkC, hkk⟩ := hcls.2
  refine W.aast K.1 K.2.1 (WD_at hw he) (fun q h => by cases h) (fun h => by cases h) k1 k2 rfl hkC ⟨hi.1, by show _ < (arrV _ _ _).slots.size; rw [arrV_size]; exact hi.2⟩ g1 (fun q h => by rw [g3] at h; cases h) (by rw [g2]; exact hkC) (by rw [g2]; exact va_assign hcls) rfl rfl hd fun H1 e z oq => ?_
  refine kk H1 _ ls (WD_set hw he z oq ?_) (hS.put z oq hA) hl
  show H1[ad G a]? = some (vp_cell _ _)
  rw [e]
  rw [vp_cell_q, vp_cell_q, arrV_store]
  congr 2
  funext q
  by_cases hq : q = i.toNatClampNeg
  · subst hq
    simp [updV, va_up, va_rf]
  · simp [updV, va_up, hq]
/-- System.arraycopy between rows of ints -/
def cp (w : A_W) (a : Nat) (sp : Int32) (b : Nat) (dp n : Int32) : Option A_W := match w[a]? with
  | some (.inl (n0, f)) => (match w[b]? with
    | some (.inl (n1, g)) => if (¬ sp < 0 ∧ ¬ dp < 0 ∧ ¬ n < 0) ∧ sp.toNatClampNeg + n.toNatClampNeg ≤ n0 ∧ dp.toNatClampNeg + n.toNatClampNeg ≤ n1 then some (w.set b (.inl (n1, va_cpy f g sp.toNatClampNeg dp.toNatClampNeg n.toNatClampNeg))) else none
    | _ => none)
  | _ => none
theorem cp_e {a b : Nat} {sp dp n : Int32} (h : cp w a sp b dp n = some w1) : ∃ n0 f n1 g, w[a]? = some (.inl (n0, f)) ∧ w[b]? = some (.inl (n1, g)) ∧ ((¬ sp < 0 ∧ ¬ dp < 0 ∧ ¬ n < 0) ∧ sp.toNatClampNeg + n.toNatClampNeg ≤ n0 ∧ dp.toNatClampNeg + n.toNatClampNeg ≤ n1) ∧ w1 = w.set b (.inl (n1, va_cpy f g sp.toNatClampNeg dp.toNatClampNeg n.toNatClampNeg)) := by
  unfold cp at h
  split at h
  · rename_i n0 f h0
    split at h
    · rename_i n1 g h1
      split at h
      · rename_i e; cases h; exact ⟨n0, f, n1, g, h0, h1, e, rfl⟩
      · cases h
    · cases h
  · cases h
theorem Sm_cp (K : Ok G X own cc nL rt R) (hd : decode cc pc = .ok (.invokestatic idx, 3)) (hl : Cond.methodLink (Rn own) idx arraycopyName ∈ lg) (hnat : Cond.native arraycopyName ∈ lg) (hst : Cond.static arraycopyName ∈ lg) (hini : Cond.initialized "java/lang/System" ∈ lg) (hlen : r.length = nL) {a b : Nat} {sp dp n : Int32} (h : cp w a sp b dp n = some w1) (hf : 1 ≤ R.frames) (hlo : ((st.map (rl G)).map fun v => v.category).sum + (nativeFrameWords "java/lang/System" "arraycopy" 5 + 11) ≤ R.locals) (kk : Sm G X w1 nc ns r st (pc + 3)) : Sm G X w nc ns r (.int n :: .int dp :: .ref b :: .int sp :: .ref a :: st) pc := by
  intro H locs ls hw hS hl1
  obtain ⟨n0, f, n1, g, h0, hb, ⟨⟨h1, h2, h3⟩, h4, h5⟩, rfl⟩ := cp_e h
  have ht := K.2.2.2.2.2.1
  have hK := K.2.2.2.2.2.2.1.1
  have hA : gA G (ad G b) := by rw [WD_ad hw hb]; exact Nat.le_add_right _ _
  have nn : ∀ z : Int32, ¬ z < 0 → z.toInt = (z.toNatClampNeg : Int) := by
    intro z hz
    have hz0 : (0 : Int) ≤ z.toInt := by
      have := Int32.not_lt.mp hz
      simpa using Int32.le_iff_toInt_le.mp this
    show z.toInt = ((z.toInt.toNat : Nat) : Int)
    omega
  intro T hT Z
  have hc0 : H[ad G a]? = some (vp_cell (gI G) (n0, .inl f)) := WD_at hw h0
  have hc1 : H[ad G b]? = some (vp_cell (gI G) (n1, .inl g)) := WD_at hw hb
  obtain ⟨-, k0, hk0, cm0, hkk0⟩ := (hK.2 0 _ rfl).1 n0 (fun j => .int (f j))
  obtain ⟨-, k1, hk1, cm1, hkk1⟩ := (hK.2 0 _ rfl).1 n1 (fun j => .int (g j))
  obtain ⟨vm', Z1, step⟩ := Z.arraycopy K.1 K.2.2.2.2.1 (ht _ hl) (ht _ hnat) (ht _ hst) (ht _ hini) (src := ad G a) (dst := ad G b) (cs := vp_cell (gI G) (n0, .inl f)) (cd := vp_cell (gI G) (n1, .inl g)) (srcPos := sp) (destPos := dp) (n := n) (by rw [hT]; exact hc0) (by rw [hT]; exact hc1)
    (fun _ h => by cases h) (fun _ h => by cases h) (fun h => by cases h) (fun h => by cases h) hk0 hk1 hkk0 hkk1 (by simp [refKind]) h1 h2 h3
    (by rw [nn sp h1, nn n h3]; show ¬ _ > ((arrV (gI G) n0 (fun j => .int (f j))).slots.size : Int); rw [arrV_size]; omega)
    (by rw [nn dp h2, nn n h3]; show ¬ _ > ((arrV (gI G) n1 (fun j => .int (g j))).slots.size : Int); rw [arrV_size]; omega)
    (fun vm₁ _ i hi => by
      have e : (vp_cell (gI G) (n0, .inl f)).slots.getD (sp.toNatClampNeg + i) .null = .int (f (sp.toNatClampNeg + i)) := by
        show (arrV (gI G) n0 (fun j => .int (f j))).slots.getD _ _ = _
        rw [Array.getD_eq_getD_getElem?, arrV_read _ _ (by omega)]
        rfl
      refine ⟨?_, ?_⟩
      · rw [e]; rfl
      · rw [e]
        exact trivial)
    (g := F0 (xM X) pc ls ((Value.int n :: .int dp :: .ref b :: .int sp :: .ref a :: st).map (rl G))) rfl (by rw [K.2.2.2.1]; exact hl1.1.trans hlen) (rest := st.map (rl G)) rfl (by rw [K.2.1]; exact hd) (by rw [K.2.2.2.2.2.2.2.2.1]; exact hf) (by rw [K.2.2.2.2.2.2.2.2.1]; show 2 * 0 + _ + _ ≤ _; omega)
  have e1 : copied (vp_cell (gI G) (n0, .inl f)) (vp_cell (gI G) (n1, .inl g)) sp dp n = vp_cell (gI G) (n1, .inl (va_cpy f g sp.toNatClampNeg dp.toNatClampNeg n.toNatClampNeg)) := va_copied (fun z => .int z) (gI G) (gI G) f g h4
  rw [e1] at Z1 step
  have hlt : ad G b < H.size := (Array.getElem?_eq_some_iff.mp hc1).1
  have hheap : ((T.setVm vm').setCell (ad G b) (vp_cell (gI G) (n1, .inl (va_cpy f g sp.toNatClampNeg dp.toNatClampNeg n.toNatClampNeg)))).heap = H.setIfInBounds (ad G b) (vp_cell (gI G) (n1, .inl (va_cpy f g sp.toNatClampNeg dp.toNatClampNeg n.toNatClampNeg))) := by rw [← hT]; rfl
  have oq : ∀ q : Nat, q ≠ ad G b → (H.setIfInBounds (ad G b) (vp_cell (gI G) (n1, .inl (va_cpy f g sp.toNatClampNeg dp.toNatClampNeg n.toNatClampNeg))))[q]? = H[q]? := fun q hq => by simp [Array.getElem?_setIfInBounds, Ne.symm hq]
  obtain ⟨t, a1, b1⟩ := kk _ _ ls (WD_set hw hb (by simp) oq (show (H.setIfInBounds (ad G b) _)[ad G b]? = some _ by simp [Array.getElem?_setIfInBounds, hlt])) ⟨by simp; exact hS.1, fun q g1 g2 => by
      rw [oq q (fun e => g2 (by rw [e]; exact hA))]
      exact hS.2.1 q g1 g2, fun q hq => by
      rcases List.mem_append.mp hq with h | h
      · exact hS.2.2 q h
      · obtain ⟨z, -, hz⟩ := List.mem_map.mp h
        rw [← hz]
        exact hA⟩ hl1 _ hheap Z1
  exact ⟨t, step t a1, b1⟩
end SMM
end
section
/-! SMALL HELP for the walks that wip/whole/gen/gen.py prints -/
def FU : Nat := 100000
def jrem (x y : Int32) : Int32 := x - x / y * y
def jreml (x y : Int64) : Int64 := x - x / y * y
def ob (w : A_W) (a ci : Nat) : Option (List Value) := match w[a]? with
  | some (.inr (.inr (c, fs))) => if c = ci then some fs else none
  | _ => none
theorem ob_e {w : A_W} {a ci : Nat} {fs : List Value} (h : ob w a ci = some fs) : w[a]? = some (.inr (.inr (ci, fs))) := by
  unfold ob at h
  split at h
  · rename_i c f hw
    split at h
    · rename_i e; subst e; cases h; exact hw
    · cases h
  · cases h
theorem leR_nil : leR [] [] := trivial
theorem leR_s {a : Option Value} {t u : A_R} (h : leR t u) : leR (a :: t) (a :: u) := ⟨Or.inr rfl, h⟩
theorem leR_n {b : Option Value} {t u : A_R} (h : leR t u) : leR (none :: t) (b :: u) := ⟨Or.inl rfl, h⟩
theorem Sm_eq {G : Gx} {X : Cx} {w : A_W} {nc ns nc1 ns1 : Nat} {r : A_R} {st st1 : List Value} {pc : Nat} (h : st = st1) (h1 : nc = nc1) (h2 : ns = ns1) (kk : Sm G X w nc1 ns1 r st1 pc) : Sm G X w nc ns r st pc := by
  subst h; subst h1; subst h2; exact kk
theorem Sm_pc {G : Gx} {X : Cx} {w : A_W} {nc ns : Nat} {r : A_R} {st : List Value} {pc pc1 : Nat} (h : pc = pc1) (kk : Sm G X w nc ns r st pc1) : Sm G X w nc ns r st pc := by
  subst h; exact kk
theorem Sm_idiv {G : Gx} {X : Cx} {own nL : Nat} {cc : ByteArray} {rt : Option FieldType} {rm : Room} {w : A_W} {nc ns : Nat} {r : A_R} {st : List Value} {pc : Nat} (K : Ok G X own cc nL rt rm) {x y : Int32} (hd : decode cc pc = .ok (.idiv, 1)) (hne : ¬ y = 0) (kk : Sm G X w nc ns r (.int (x / y) :: st) (pc + 1)) : Sm G X w nc ns r (.int y :: .int x :: st) pc := s_idiv K hd hne kk
theorem Sm_irem {G : Gx} {X : Cx} {own nL : Nat} {cc : ByteArray} {rt : Option FieldType} {rm : Room} {w : A_W} {nc ns : Nat} {r : A_R} {st : List Value} {pc : Nat} (K : Ok G X own cc nL rt rm) {x y : Int32} (hd : decode cc pc = .ok (.irem, 1)) (hne : ¬ y = 0) (kk : Sm G X w nc ns r (.int (jrem x y) :: st) (pc + 1)) : Sm G X w nc ns r (.int y :: .int x :: st) pc := s_irem K hd hne kk
theorem Sm_ldiv {G : Gx} {X : Cx} {own nL : Nat} {cc : ByteArray} {rt : Option FieldType} {rm : Room} {w : A_W} {nc ns : Nat} {r : A_R} {st : List Value} {pc : Nat} (K : Ok G X own cc nL rt rm) {x y : Int64} (hd : decode cc pc = .ok (.ldiv, 1)) (hne : ¬ y = 0) (kk : Sm G X w nc ns r (.long (x / y) :: st) (pc + 1)) : Sm G X w nc ns r (.long y :: .long x :: st) pc := s_ldiv K hd hne kk
theorem Sm_lrem {G : Gx} {X : Cx} {own nL : Nat} {cc : ByteArray} {rt : Option FieldType} {rm : Room} {w : A_W} {nc ns : Nat} {r : A_R} {st : List Value} {pc : Nat} (K : Ok G X own cc nL rt rm) {x y : Int64} (hd : decode cc pc = .ok (.lrem, 1)) (hne : ¬ y = 0) (kk : Sm G X w nc ns r (.long (jreml x y) :: st) (pc + 1)) : Sm G X w nc ns r (.long y :: .long x :: st) pc := s_lrem K hd hne kk
theorem ac_nat : Cond.native arraycopyName ∈ lg := lgm 423 (by decide +kernel) rfl
theorem ac_st : Cond.static arraycopyName ∈ lg := lgm 422 (by decide +kernel) rfl
theorem ac_in : Cond.initialized "java/lang/System" ∈ lg := lgm 75 (by decide +kernel) rfl
theorem lsw_off : ∀ (ps : List (Int × Int)) (d k : Int), (∀ q ∈ ps, ¬ k = q.1) → Op.lookupswitch.offset ps d k = d := by
  intro ps
  induction ps with
  | nil => intro d k _; rfl
  | cons q t ih =>
    intro d k h
    obtain ⟨a, b⟩ := q
    have h1 : ¬ k = a := h (a, b) List.mem_cons_self
    have h2 := ih d k (fun z hz => h z (List.mem_cons_of_mem _ hz))
    simp only [Op.lookupswitch.offset]
    split
    · rename_i e; exfalso; first | exact h1 e | exact h1 e.symm | (simp at e; omega)
    · exact h2
theorem lsw_out {ps : Array (Int × Int)} {ps2 : List (Int × Int)} {d k : Int} {pc dt : Nat} (hp : ps.toList = ps2) (hd : (pc : Int) + d = (dt : Int)) (h : ∀ q ∈ ps2, ¬ k = q.1) : (pc : Int) + Op.lookupswitch.offset ps.toList d k = (dt : Int) := by
  rw [hp, lsw_off ps2 d k h]; exact hd
def jmin (x y : Int32) : Int32 := if y < x then y else x
def jmax (x y : Int32) : Int32 := if x < y then y else x
def jabs (x : Int32) : Int32 := if 0 ≤ x then x else 0 - x
theorem ma_in : Cond.initialized "java/lang/Math" ∈ lg := lgm 74 (by decide +kernel) rfl
theorem ma_st_min : Cond.static Lib.Math.min.name ∈ lg := lgm 298 (by decide +kernel) rfl
theorem ma_co_min : Cond.code Lib.Math.min.name Lib.Math.min.code 2 (some .int) ∈ lg := lgm 299 (by decide +kernel) rfl
theorem Sm_min {G : Gx} {X : Cx} {own nL : Nat} {cc : ByteArray} {rt : Option FieldType} {R : Room} {w : A_W} {nc ns : Nat} {r : A_R} {st : List Value} {pc idx : Nat} (K : Ok G X own cc nL rt R) {x y : Int32} (hd : decode cc pc = .ok (.invokestatic idx, 3)) (hl : Cond.methodLink (Rn own) idx Lib.Math.min.name ∈ lg) (hlen : r.length = nL) (hf : 1 ≤ R.frames) (hlo : ((st.map (rl G)).map fun v => v.category).sum + 13 ≤ R.locals) (hc : nc ≤ R.cells) (hs : ns ≤ R.slots) (kk : Sm G X w nc ns r (.int (jmin x y) :: st) (pc + 3)) : Sm G X w nc ns r (.int y :: .int x :: st) pc := fun H locs ls hw hS h => by
  have ht := K.2.2.2.2.2.1
  have hR := K.2.2.2.2.2.2.2.2.1
  exact va_mmin K.1 K.2.1 (by rw [K.2.2.2.1]; exact (h.1.trans hlen).symm) K.2.2.2.2.1 (ht _ hl) (ht _ ma_st_min) (ht _ ma_in) (ht _ ma_co_min) (by rw [hR]; exact hf) (by rw [hR]; exact hlo) (by rw [hR]; exact hc) (by rw [hR]; exact hs) hd (kk H locs ls hw hS h)
theorem ma_st_max : Cond.static Lib.Math.max.name ∈ lg := lgm 316 (by decide +kernel) rfl
theorem ma_co_max : Cond.code Lib.Math.max.name Lib.Math.max.code 2 (some .int) ∈ lg := lgm 317 (by decide +kernel) rfl
theorem Sm_max {G : Gx} {X : Cx} {own nL : Nat} {cc : ByteArray} {rt : Option FieldType} {R : Room} {w : A_W} {nc ns : Nat} {r : A_R} {st : List Value} {pc idx : Nat} (K : Ok G X own cc nL rt R) {x y : Int32} (hd : decode cc pc = .ok (.invokestatic idx, 3)) (hl : Cond.methodLink (Rn own) idx Lib.Math.max.name ∈ lg) (hlen : r.length = nL) (hf : 1 ≤ R.frames) (hlo : ((st.map (rl G)).map fun v => v.category).sum + 13 ≤ R.locals) (hc : nc ≤ R.cells) (hs : ns ≤ R.slots) (kk : Sm G X w nc ns r (.int (jmax x y) :: st) (pc + 3)) : Sm G X w nc ns r (.int y :: .int x :: st) pc := fun H locs ls hw hS h => by
  have ht := K.2.2.2.2.2.1
  have hR := K.2.2.2.2.2.2.2.2.1
  exact va_mmax K.1 K.2.1 (by rw [K.2.2.2.1]; exact (h.1.trans hlen).symm) K.2.2.2.2.1 (ht _ hl) (ht _ ma_st_max) (ht _ ma_in) (ht _ ma_co_max) (by rw [hR]; exact hf) (by rw [hR]; exact hlo) (by rw [hR]; exact hc) (by rw [hR]; exact hs) hd (kk H locs ls hw hS h)
theorem ma_st_abs : Cond.static Lib.Math.abs.name ∈ lg := lgm 313 (by decide +kernel) rfl
theorem ma_co_abs : Cond.code Lib.Math.abs.name Lib.Math.abs.code 1 (some .int) ∈ lg := lgm 314 (by decide +kernel) rfl
theorem Sm_abs {G : Gx} {X : Cx} {own nL : Nat} {cc : ByteArray} {rt : Option FieldType} {R : Room} {w : A_W} {nc ns : Nat} {r : A_R} {st : List Value} {pc idx : Nat} (K : Ok G X own cc nL rt R) {x : Int32} (hd : decode cc pc = .ok (.invokestatic idx, 3)) (hl : Cond.methodLink (Rn own) idx Lib.Math.abs.name ∈ lg) (hlen : r.length = nL) (hf : 1 ≤ R.frames) (hlo : ((st.map (rl G)).map fun v => v.category).sum + 13 ≤ R.locals) (hc : nc ≤ R.cells) (hs : ns ≤ R.slots) (kk : Sm G X w nc ns r (.int (jabs x) :: st) (pc + 3)) : Sm G X w nc ns r (.int x :: st) pc := fun H locs ls hw hS h => by
  have ht := K.2.2.2.2.2.1
  have hR := K.2.2.2.2.2.2.2.2.1
  exact va_mabs K.1 K.2.1 (by rw [K.2.2.2.1]; exact (h.1.trans hlen).symm) K.2.2.2.2.1 (ht _ hl) (ht _ ma_st_abs) (ht _ ma_in) (ht _ ma_co_abs) (by rw [hR]; exact hf) (by rw [hR]; exact hlo) (by rw [hR]; exact hc) (by rw [hR]; exact hs) hd (kk H locs ls hw hS h)
end
section
/-! TEXTS: String.length and String.charAt over the constants, and what the JDK runs for them -/
def strIx (a : Nat) : Option Nat := (List.range 15).find? (fun j => Nat.beq (sA j) a)
theorem strIx_e {a j : Nat} (h : strIx a = some j) : a = sA j ∧ j < 15 := by
  unfold strIx at h
  have h1 := List.find?_some h
  have h2 := List.mem_of_find?_eq_some h
  exact ⟨(Nat.eq_of_beq_eq_true h1).symm, List.mem_range.mp h2⟩
def F_T_length (a : Nat) (w : A_W) : Option (Int32 × A_W) := match strIx a with
  | some j => some (Int32.ofNat (slen.getD j 0), w)
  | none => none
def F_T_charAt (a : Nat) (i : Int32) (w : A_W) : Option (Int32 × A_W) := match strIx a with
  | some j => if inb i (slen.getD j 0) then some ((sbyt.getD j []).getD i.toNatClampNeg 0, w) else none
  | none => none
theorem sx_length {a : Nat} {w : A_W} {p : Int32 × A_W} (h : F_T_length a w = some p) : ∃ j, strIx a = some j := by
  unfold F_T_length at h
  split at h
  · rename_i j hj; exact ⟨j, hj⟩
  · cases h
theorem sx_charAt {a : Nat} {i : Int32} {w : A_W} {p : Int32 × A_W} (h : F_T_charAt a i w = some p) : ∃ j, strIx a = some j := by
  unfold F_T_charAt at h
  split at h
  · rename_i j hj; exact ⟨j, hj⟩
  · cases h
section SMY
variable {G : Gx} {X : Cx} {own nL : Nat} {cc : ByteArray} {rt : Option FieldType} {R : Room} {w : A_W} {nc ns : Nat} {r : A_R} {st : List Value} {pc : Nat}
theorem s_if_eq0 (K : Ok G X own cc nL rt R) {x : Int32} {off : Int} {tgt : Nat} (hd : decode cc pc = .ok (.ifCond .eq off, 3)) (ht : (pc : Int) + off = (tgt : Int)) (hx : ¬ x = 0) (kk : Sm G X w nc ns r st (pc + 3)) : Sm G X w nc ns r (.int x :: st) pc := fun H locs ls hw hS hl => by
  exact lv_if_eq K.1 K.2.1 hd ht (fun z => absurd z hx) (fun _ => kk H locs ls hw hS hl)
theorem s_if_ne0 (K : Ok G X own cc nL rt R) {x : Int32} {off : Int} {tgt : Nat} (hd : decode cc pc = .ok (.ifCond .ne off, 3)) (ht : (pc : Int) + off = (tgt : Int)) (hx : x = 0) (kk : Sm G X w nc ns r st (pc + 3)) : Sm G X w nc ns r (.int x :: st) pc := fun H locs ls hw hS hl => by
  exact lv_if_ne K.1 K.2.1 hd ht (fun z => absurd hx z) (fun _ => kk H locs ls hw hS hl)
theorem s_if_lt0 (K : Ok G X own cc nL rt R) {x : Int32} {off : Int} {tgt : Nat} (hd : decode cc pc = .ok (.ifCond .lt off, 3)) (ht : (pc : Int) + off = (tgt : Int)) (hx : ¬ x < 0) (kk : Sm G X w nc ns r st (pc + 3)) : Sm G X w nc ns r (.int x :: st) pc := fun H locs ls hw hS hl => by
  exact lv_if_lt K.1 K.2.1 hd ht (fun z => absurd z hx) (fun _ => kk H locs ls hw hS hl)
theorem s_ic_lt1 (K : Ok G X own cc nL rt R) {x y : Int32} {off : Int} {tgt : Nat} (hd : decode cc pc = .ok (.if_icmp .lt off, 3)) (ht : (pc : Int) + off = (tgt : Int)) (hx : x < y) (kk : Sm G X w nc ns r st tgt) : Sm G X w nc ns r (.int y :: .int x :: st) pc := fun H locs ls hw hS hl => lv_icmp_lt K.1 K.2.1 hd ht (fun _ => kk H locs ls hw hS hl) (fun z => absurd hx z)
end SMY
theorem shr_0 (x : Int32) : x >>> ((0 : Int32) &&& 31) = x := sb_shr0 x
theorem strIx_i {j : Nat} (h : j < 15) : ∃ k, strIx (sA j) = some k := by
  rcases (show j = 0 ∨ j = 1 ∨ j = 2 ∨ j = 3 ∨ j = 4 ∨ j = 5 ∨ j = 6 ∨ j = 7 ∨ j = 8 ∨ j = 9 ∨ j = 10 ∨ j = 11 ∨ j = 12 ∨ j = 13 ∨ j = 14 by omega) with rfl | rfl | rfl | rfl | rfl | rfl | rfl | rfl | rfl | rfl | rfl | rfl | rfl | rfl | rfl <;> exact ⟨_, rfl⟩
abbrev c_T_coder : ByteArray := prog_9_method_152_code
def y_T_coder : MethodName := ⟨"java/lang/String", "coder", "()B"⟩
def rm_T_coder : Room := { frames := 0, cells := 0, slots := 0, locals := 0 }
theorem cy_T_coder : Cy y_T_coder c_T_coder 1 (some .byte) 0 := ⟨lgm 595 (by decide +kernel) rfl, lgm 77 (by decide +kernel) rfl, by decide +kernel, by decide +kernel⟩
theorem im_T_coder : Cond.instanceMethod y_T_coder ∈ lg := lgm 593 (by decide +kernel) rfl
theorem se_T_coder : Cond.selects y_T_coder.cls y_T_coder y_T_coder ∈ lg := lgm 594 (by decide +kernel) rfl
abbrev c_T_isLatin1 : ByteArray := prog_9_method_154_code
def y_T_isLatin1 : MethodName := ⟨"java/lang/String", "isLatin1", "()Z"⟩
def rm_T_isLatin1 : Room := { frames := 0, cells := 0, slots := 0, locals := 0 }
theorem cy_T_isLatin1 : Cy y_T_isLatin1 c_T_isLatin1 1 (some .boolean) 0 := ⟨lgm 605 (by decide +kernel) rfl, lgm 77 (by decide +kernel) rfl, by decide +kernel, by decide +kernel⟩
theorem im_T_isLatin1 : Cond.instanceMethod y_T_isLatin1 ∈ lg := lgm 603 (by decide +kernel) rfl
theorem se_T_isLatin1 : Cond.selects y_T_isLatin1.cls y_T_isLatin1 y_T_isLatin1 ∈ lg := lgm 604 (by decide +kernel) rfl
abbrev c_T_length : ByteArray := prog_9_method_54_code
def y_T_length : MethodName := ⟨"java/lang/String", "length", "()I"⟩
def rm_T_length : Room := { frames := 1, cells := 0, slots := 0, locals := 20 }
theorem cy_T_length : Cy y_T_length c_T_length 1 (some .int) 0 := ⟨lgm 591 (by decide +kernel) rfl, lgm 77 (by decide +kernel) rfl, by decide +kernel, by decide +kernel⟩
theorem im_T_length : Cond.instanceMethod y_T_length ∈ lg := lgm 589 (by decide +kernel) rfl
theorem se_T_length : Cond.selects y_T_length.cls y_T_length y_T_length ∈ lg := lgm 590 (by decide +kernel) rfl
abbrev c_T_pre : ByteArray := prog_14_method_11_code
def y_T_pre : MethodName := ⟨"jdk/internal/util/Preconditions", "checkIndex", "(IILjava/util/function/BiFunction;)I"⟩
def rm_T_pre : Room := { frames := 0, cells := 0, slots := 0, locals := 0 }
theorem cy_T_pre : Cy y_T_pre c_T_pre 3 (some .int) 3 := ⟨lgm 616 (by decide +kernel) rfl, lgm 79 (by decide +kernel) rfl, by decide +kernel, by decide +kernel⟩
theorem st_T_pre : Cond.static y_T_pre ∈ lg := lgm 615 (by decide +kernel) rfl
abbrev c_T_check : ByteArray := prog_9_method_155_code
def y_T_check : MethodName := ⟨"java/lang/String", "checkIndex", "(II)V"⟩
def rm_T_check : Room := { frames := 1, cells := 0, slots := 0, locals := 22 }
theorem cy_T_check : Cy y_T_check c_T_check 2 (none) 2 := ⟨lgm 611 (by decide +kernel) rfl, lgm 77 (by decide +kernel) rfl, by decide +kernel, by decide +kernel⟩
theorem st_T_check : Cond.static y_T_check ∈ lg := lgm 610 (by decide +kernel) rfl
abbrev c_T_lat : ByteArray := prog_10_method_2_code
def y_T_lat : MethodName := ⟨"java/lang/StringLatin1", "charAt", "([BI)C"⟩
def rm_T_lat : Room := { frames := 2, cells := 0, slots := 0, locals := 43 }
theorem cy_T_lat : Cy y_T_lat c_T_lat 2 (some .char) 2 := ⟨lgm 608 (by decide +kernel) rfl, lgm 78 (by decide +kernel) rfl, by decide +kernel, by decide +kernel⟩
theorem st_T_lat : Cond.static y_T_lat ∈ lg := lgm 607 (by decide +kernel) rfl
abbrev c_T_charAt : ByteArray := prog_9_method_56_code
def y_T_charAt : MethodName := ⟨"java/lang/String", "charAt", "(I)C"⟩
def rm_T_charAt : Room := { frames := 3, cells := 0, slots := 0, locals := 64 }
theorem cy_T_charAt : Cy y_T_charAt c_T_charAt 2 (some .char) 1 := ⟨lgm 601 (by decide +kernel) rfl, lgm 77 (by decide +kernel) rfl, by decide +kernel, by decide +kernel⟩
theorem im_T_charAt : Cond.instanceMethod y_T_charAt ∈ lg := lgm 599 (by decide +kernel) rfl
theorem se_T_charAt : Cond.selects y_T_charAt.cls y_T_charAt y_T_charAt ∈ lg := lgm 600 (by decide +kernel) rfl
section SMX
variable {G : Gx} {X : Cx} {own nL : Nat} {cc : ByteArray} {rt : Option FieldType} {R rm : Room} {w w1 : A_W} {nc ns : Nat} {r : A_R} {st st0 : List Value} {pc idx : Nat}
theorem Sm_gsV (K : Ok G X own cc nL rt R) (hd : decode cc pc = .ok (.getfield idx, 3)) (hm : Cond.fieldLink (Rn own) idx "java/lang/String" "value" "[B" ∈ lg) {j : Nat} (hj : j < 15) (kk : Sm G X w nc ns r (.ref (sV j) :: st) (pc + 3)) : Sm G X w nc ns r (.ref (sA j) :: st) pc := fun H locs ls hw hS h =>
  vk_getf K.1 K.2.1 (K.2.2.2.2.2.2.1.2.2.2.2.1.1 j hj).2.2.1 hS K.2.2.2.2.1 (K.2.2.2.2.2.1 _ hm) (fun _ h9 => h9) hd (kk H locs ls hw hS h)
theorem Sm_gsC (K : Ok G X own cc nL rt R) (hd : decode cc pc = .ok (.getfield idx, 3)) (hm : Cond.fieldLink (Rn own) idx "java/lang/String" "coder" "B" ∈ lg) {j : Nat} (hj : j < 15) (kk : Sm G X w nc ns r (.int 0 :: st) (pc + 3)) : Sm G X w nc ns r (.ref (sA j) :: st) pc := fun H locs ls hw hS h =>
  vk_getf K.1 K.2.1 (K.2.2.2.2.2.2.1.2.2.2.2.1.1 j hj).2.1 hS K.2.2.2.2.1 (K.2.2.2.2.2.1 _ hm) (fun _ h9 => h9) hd (kk H locs ls hw hS h)
theorem Sm_bal (K : Ok G X own cc nL rt R) (hd : decode cc pc = .ok (.arraylength, 1)) {j : Nat} (hj : j < 15) (kk : Sm G X w nc ns r (.int (Int32.ofNat (slen.getD j 0)) :: st) (pc + 1)) : Sm G X w nc ns r (.ref (sV j) :: st) pc := fun H locs ls hw hS h =>
  va_tlen K.1 K.2.1 (K.2.2.2.2.2.2.1.2.2.2.2.1.1 j hj).2.2.2 hS rfl hd (kk H locs ls hw hS h)
theorem Sm_bld (K : Ok G X own cc nL rt R) (hd : decode cc pc = .ok (.baload, 1)) {j : Nat} (hj : j < 15) {i : Int32} (hi : inb i (slen.getD j 0)) (kk : Sm G X w nc ns r (.int ((sbyt.getD j []).getD i.toNatClampNeg 0) :: st) (pc + 1)) : Sm G X w nc ns r (.int i :: .ref (sV j) :: st) pc := fun H locs ls hw hS h =>
  va_tb K.1 K.2.1 (K.2.2.2.2.2.2.1.2.2.2.2.1.1 j hj).2.2.2 hS (vp_inb hi) rfl hd (kk H locs ls hw hS h)
theorem Sm_gsS (K : Ok G X own cc nL rt R) (hd : decode cc pc = .ok (.getstatic idx, 3)) (hm : Cond.fieldLink (Rn own) idx "java/lang/String" "COMPACT_STRINGS" "Z" ∈ lg) (kk : Sm G X w nc ns r (.int 1 :: st) (pc + 3)) : Sm G X w nc ns r st pc := fun H locs ls hw hS h =>
  va_gets K.1 K.2.1 K.2.2.2.2.2.2.1.2.2.2.2.2.1 hS K.2.2.2.2.1 (K.2.2.2.2.2.1 _ hm) (fun _ h9 => h9) hd (kk H locs ls hw hS h)
theorem Sm_gsF (K : Ok G X own cc nL rt R) (hd : decode cc pc = .ok (.getstatic idx, 3)) (hm : Cond.fieldLink (Rn own) idx "jdk/internal/util/Preconditions" "SIOOBE_FORMATTER" "Ljava/util/function/BiFunction;" ∈ lg) (kk : ∀ v : Value, v.category = 1 → Sm G X w nc ns r (v :: st) (pc + 3)) : Sm G X w nc ns r st pc := fun H locs ls hw hS h => by
  rcases K.2.2.2.2.2.2.1.2.2.2.2.2.2.2 with z | z
  · exact va_gets K.1 K.2.1 z hS K.2.2.2.2.1 (K.2.2.2.2.2.1 _ hm) (fun _ h9 => h9) hd (kk .null rfl H locs ls hw hS h)
  · exact va_gets K.1 K.2.1 z hS K.2.2.2.2.1 (K.2.2.2.2.2.1 _ hm) (fun _ h9 => h9) hd (kk (.ref fA) rfl H locs ls hw hS h)
theorem Sm_i2c (K : Ok G X own cc nL rt R) (hd : decode cc pc = .ok (.i2c, 1)) {x : Int32} (kk : Sm G X w nc ns r (.int (x.toUInt32 % 65536).toInt32 :: st) (pc + 1)) : Sm G X w nc ns r (.int x :: st) pc := fun H locs ls hw hS h => lv_i2c K.1 K.2.1 hd rfl (kk H locs ls hw hS h)
theorem Sm_retn {ft : FieldType} (K : Ok G X own cc nL (some ft) R) {x : Int32} (hn : narrow ft (.int x) = .int x) (hQ : QQ G X (some (.int x)) w nc ns) (hd : decode cc pc = .ok (.ireturn, 1)) : Sm G X w nc ns r [.int x] pc := by
  intro H locs ls hw hS hl
  rw [hQ]
  exact W.zret K.1 K.2.1 K.2.2.1 hn (Qw_of K hw hS (v := some (.int x))) hS.2.2 hd K.2.2.2.2.2.2.2.1
variable {y : MethodName} {bytes : ByteArray} {maxL n : Nat} {ret : Option FieldType} {as : List Value} {v : Option Value}
theorem Sm_callT (K : Ok G X own cc nL rt R) (hd : decode cc pc = .ok (.invokevirtual idx, 3)) (hy : Cy y bytes maxL ret n) (hi : Cond.instanceMethod y ∈ lg) (hs : Cond.selects y.cls y y ∈ lg) (hl : Cond.methodLink (Rn own) idx y ∈ lg) (hR : rm.frames + 1 ≤ R.frames ∧ 8 + (maxL + 11) + rm.locals ≤ R.locals) {b : Nat} (hb : ∃ j, strIx b = some j) (hn : as.length = n) (hlen : r.length = nL) (hst : st0 = as.reverse ++ .ref b :: st) (hcat : ((st.map (rl G)).map fun v => v.category).sum ≤ 8) (hf : nc + rm.cells ≤ R.cells ∧ ns + rm.slots ≤ R.slots) (hM : Cn G y bytes maxL ret rm (.ref b :: as) w v w1) (kk : Sm G X w1 (nc + rm.cells) (ns + rm.slots) r (v.toList ++ st) (pc + 3)) (hyc : y.cls = "java/lang/String" := by rfl) : Sm G X w nc ns r st0 pc := by
  refine Sm_go (aa := (Value.ref (ad G b) :: as.map (rl G)).toArray) (fun H locs ls hw hS hl1 => ?_) kk
  subst hst
  rw [map_call]
  refine va_runV (cc := cc) (nL := nL) (Ts := lg) (own := Rn own) (C := y.cls) (As := as.map (rl G)) ⟨K.1, K.2.1, K.2.2.2.1, K.2.2.2.2.1, K.2.2.2.2.2.1⟩ hM ⟨Sm_callB K hy hl hR, K.2.2.2.2.2.1 _ hi, K.2.2.2.2.2.1 _ hs⟩ ⟨Pw_blind, ?_, fun U hU hW => ⟨rfl, Pw_of K hw hS hU hW⟩⟩ rfl (by rw [List.length_map]; exact hn) (hl1.1.trans hlen) rfl (lv_room hcat) hd (by rw [K.2.2.2.2.2.2.2.2.1]; exact hf)
  rw [hyc]
  obtain ⟨j, hj⟩ := hb
  obtain ⟨rfl, hj2⟩ := strIx_e hj
  exact vk_recv (i := j) K.2.2.2.2.2.2.1.2.2.2.2.1 hj2 hS
end SMX
theorem cn_T_coder {G : Gx} {j : Nat} (hj : j < 15) {w : A_W} : Cn G y_T_coder c_T_coder 1 (some .byte) rm_T_coder [.ref (sA j)] w (some (.int 0)) w := by
  refine Cn_of (own := 7) cy_T_coder rfl rfl (Nat.le_of_ble_eq_true rfl) rfl (fun X K _ hQ => ?_)
  refine Sm_gsS K (idx := 38) (by decide +kernel) (lgm 596 (by decide +kernel) rfl) ?_
  refine s_if_eq0 K (off := 10) (tgt := 13) (by decide +kernel) (by decide) (by decide) ?_
  refine s_aload_n K (k := 0) (by decide +kernel) rfl ?_
  refine Sm_gsC K (idx := 15) (by decide +kernel) (lgm 1217 (by decide +kernel) rfl) hj ?_
  refine s_goto K (off := 4) (tgt := 14) (by decide +kernel) (by decide) ?_
  exact Sm_retn K rfl hQ (by decide +kernel)
theorem cn_T_isLatin1 {G : Gx} {j : Nat} (hj : j < 15) {w : A_W} : Cn G y_T_isLatin1 c_T_isLatin1 1 (some .boolean) rm_T_isLatin1 [.ref (sA j)] w (some (.int 1)) w := by
  refine Cn_of (own := 7) cy_T_isLatin1 rfl rfl (Nat.le_of_ble_eq_true rfl) rfl (fun X K _ hQ => ?_)
  refine Sm_gsS K (idx := 38) (by decide +kernel) (lgm 596 (by decide +kernel) rfl) ?_
  refine s_if_eq0 K (off := 14) (tgt := 17) (by decide +kernel) (by decide) (by decide) ?_
  refine s_aload_n K (k := 0) (by decide +kernel) rfl ?_
  refine Sm_gsC K (idx := 15) (by decide +kernel) (lgm 1217 (by decide +kernel) rfl) hj ?_
  refine s_if_ne0 K (off := 7) (tgt := 17) (by decide +kernel) (by decide) rfl ?_
  refine s_iconst K (n := 1) (v := 1) (by decide +kernel) (by decide) ?_
  refine s_goto K (off := 4) (tgt := 18) (by decide +kernel) (by decide) ?_
  exact Sm_retn K rfl hQ (by decide +kernel)
theorem cn_T_length {G : Gx} {t : Nat} {w : A_W} {res : Int32 × A_W} (h : F_T_length t w = some res) : Cn G y_T_length c_T_length 1 (some .int) rm_T_length [.ref t] w (some (.int res.1)) res.2 := by
  obtain ⟨j, hj0⟩ := sx_length h
  unfold F_T_length at h
  rw [hj0] at h
  obtain rfl := Option.some.inj h
  obtain ⟨rfl, hj⟩ := strIx_e hj0
  refine Cn_of (own := 7) cy_T_length rfl rfl (Nat.le_of_ble_eq_true rfl) rfl (fun X K _ hQ => ?_)
  refine s_aload_n K (k := 0) (by decide +kernel) rfl ?_
  refine Sm_gsV K (idx := 9) (by decide +kernel) (lgm 1216 (by decide +kernel) rfl) hj ?_
  refine Sm_bal K (by decide +kernel) hj ?_
  refine s_aload_n K (k := 0) (by decide +kernel) rfl ?_
  refine Sm_callT K (idx := 335) (by decide +kernel) cy_T_coder im_T_coder se_T_coder (lgm 592 (by decide +kernel) rfl) ⟨Nat.le_of_ble_eq_true rfl, Nat.le_of_ble_eq_true rfl⟩ (as := []) (b := sA j) (st := [.int (Int32.ofNat (slen.getD j 0))]) (strIx_i hj) rfl rfl rfl (Nat.le_of_ble_eq_true rfl) ⟨Nat.le_of_ble_eq_true rfl, Nat.le_of_ble_eq_true rfl⟩ (cn_T_coder hj) ?_
  refine Sm_eq (st1 := [.int 0, .int (Int32.ofNat (slen.getD j 0))]) (nc1 := 0) (ns1 := 0) rfl rfl rfl ?_
  refine s_ishr K (by decide +kernel) ?_
  rw [shr_0]
  exact Sm_reti K hQ (by decide +kernel)
theorem cn_T_pre {G : Gx} {i n : Int32} {v : Value} (hv : v.category = 1) (h0 : ¬ i < 0) (h1 : i < n) {w : A_W} : Cn G y_T_pre c_T_pre 3 (some .int) rm_T_pre [.int i, .int n, v] w (some (.int i)) w := by
  refine Cn_of (own := 11) cy_T_pre rfl (by rw [List.all_cons, List.all_cons, List.all_cons, hv]; rfl) (Nat.le_of_ble_eq_true rfl) rfl (fun X K _ hQ => ?_)
  refine s_iload_n K (k := 0) (by decide +kernel) rfl ?_
  refine s_if_lt0 K (off := 8) (tgt := 9) (by decide +kernel) (by decide) h0 ?_
  refine s_iload_n K (k := 0) (by decide +kernel) rfl ?_
  refine s_iload_n K (k := 1) (by decide +kernel) rfl ?_
  refine s_ic_lt1 K (off := 10) (tgt := 16) (by decide +kernel) (by decide) h1 ?_
  refine s_iload_n K (k := 0) (by decide +kernel) rfl ?_
  exact Sm_reti K hQ (by decide +kernel)
theorem cn_T_check {G : Gx} {i n : Int32} (h0 : ¬ i < 0) (h1 : i < n) {w : A_W} : Cn G y_T_check c_T_check 2 none rm_T_check [.int i, .int n] w none w := by
  refine Cn_of (own := 7) cy_T_check rfl rfl (Nat.le_of_ble_eq_true rfl) rfl (fun X K _ hQ => ?_)
  refine s_iload_n K (k := 0) (by decide +kernel) rfl ?_
  refine s_iload_n K (k := 1) (by decide +kernel) rfl ?_
  refine Sm_gsF K (idx := 1053) (by decide +kernel) (lgm 612 (by decide +kernel) rfl) (fun v hv => ?_)
  refine Sm_callS K (idx := 1059) (by decide +kernel) cy_T_pre st_T_pre (lgm 614 (by decide +kernel) rfl) ⟨Nat.le_of_ble_eq_true rfl, Nat.le_of_ble_eq_true rfl⟩ (as := [.int i, .int n, v]) (st := []) rfl rfl rfl (Nat.le_of_ble_eq_true rfl) ⟨Nat.le_of_ble_eq_true rfl, Nat.le_of_ble_eq_true rfl⟩ (cn_T_pre hv h0 h1) ?_
  refine Sm_eq (st1 := [.int i]) (nc1 := 0) (ns1 := 0) rfl rfl rfl ?_
  refine s_pop K (by decide +kernel) rfl ?_
  exact Sm_retv K hQ (by decide +kernel)
theorem sb_ok : ∀ j, j < 15 → ∀ i, i < slen.getD j 0 → ((((sbyt.getD j []).getD i 0) &&& 255).toUInt32 % 65536).toInt32 = (sbyt.getD j []).getD i 0 ∧ narrow .char (.int ((sbyt.getD j []).getD i 0)) = .int ((sbyt.getD j []).getD i 0) := by decide +kernel
theorem sl_ok : ∀ j, j < 15 → slen.getD j 0 < 100 := by decide +kernel
theorem inb_lt {i : Int32} {n : Nat} (hn : n < 100) (h : inb i n) : i < Int32.ofNat n := by
  obtain ⟨k, hk, rfl⟩ := vp_in_of (vp_inb h) (by omega)
  exact nI_lt hk (by omega)
theorem cn_T_lat {G : Gx} {j : Nat} (hj : j < 15) {i : Int32} (hi : inb i (slen.getD j 0)) {w : A_W} : Cn G y_T_lat c_T_lat 2 (some .char) rm_T_lat [.ref (sV j), .int i] w (some (.int ((sbyt.getD j []).getD i.toNatClampNeg 0))) w := by
  refine Cn_of (own := 8) cy_T_lat rfl rfl (Nat.le_of_ble_eq_true rfl) rfl (fun X K _ hQ => ?_)
  refine s_iload_n K (k := 1) (by decide +kernel) rfl ?_
  refine s_aload_n K (k := 0) (by decide +kernel) rfl ?_
  refine Sm_bal K (by decide +kernel) hj ?_
  refine Sm_callS K (idx := 9) (by decide +kernel) cy_T_check st_T_check (lgm 609 (by decide +kernel) rfl) ⟨Nat.le_of_ble_eq_true rfl, Nat.le_of_ble_eq_true rfl⟩ (as := [.int i, .int (Int32.ofNat (slen.getD j 0))]) (st := []) rfl rfl rfl (Nat.le_of_ble_eq_true rfl) ⟨Nat.le_of_ble_eq_true rfl, Nat.le_of_ble_eq_true rfl⟩ (cn_T_check hi.1 (inb_lt (sl_ok j hj) hi)) ?_
  refine Sm_eq (st1 := []) (nc1 := 0) (ns1 := 0) rfl rfl rfl ?_
  refine s_aload_n K (k := 0) (by decide +kernel) rfl ?_
  refine s_iload_n K (k := 1) (by decide +kernel) rfl ?_
  refine Sm_bld K (by decide +kernel) hj hi ?_
  refine s_sipush K (n := 255) (v := 255) (by decide +kernel) (by decide) ?_
  refine s_iand K (by decide +kernel) ?_
  refine Sm_i2c K (by decide +kernel) ?_
  obtain ⟨e1, e2⟩ := sb_ok j hj _ hi.2
  rw [e1]
  exact Sm_retn K e2 hQ (by decide +kernel)
theorem cn_T_charAt {G : Gx} {t : Nat} {x1 : Int32} {w : A_W} {res : Int32 × A_W} (h : F_T_charAt t x1 w = some res) : Cn G y_T_charAt c_T_charAt 2 (some .char) rm_T_charAt [.ref t, .int x1] w (some (.int res.1)) res.2 := by
  obtain ⟨j, hj0⟩ := sx_charAt h
  unfold F_T_charAt at h
  rw [hj0] at h
  dsimp only at h
  obtain ⟨rfl, hj⟩ := strIx_e hj0
  split at h
  · rename_i hi
    obtain rfl := Option.some.inj h
    refine Cn_of (own := 7) cy_T_charAt rfl rfl (Nat.le_of_ble_eq_true rfl) rfl (fun X K _ hQ => ?_)
    refine s_aload_n K (k := 0) (by decide +kernel) rfl ?_
    refine Sm_callT K (idx := 492) (by decide +kernel) cy_T_isLatin1 im_T_isLatin1 se_T_isLatin1 (lgm 602 (by decide +kernel) rfl) ⟨Nat.le_of_ble_eq_true rfl, Nat.le_of_ble_eq_true rfl⟩ (as := []) (b := sA j) (st := []) (strIx_i hj) rfl rfl rfl (Nat.le_of_ble_eq_true rfl) ⟨Nat.le_of_ble_eq_true rfl, Nat.le_of_ble_eq_true rfl⟩ (cn_T_isLatin1 hj) ?_
    refine Sm_eq (st1 := [.int 1]) (nc1 := 0) (ns1 := 0) rfl rfl rfl ?_
    refine s_if_eq0 K (off := 12) (tgt := 16) (by decide +kernel) (by decide) (by decide) ?_
    refine s_aload_n K (k := 0) (by decide +kernel) rfl ?_
    refine Sm_gsV K (idx := 9) (by decide +kernel) (lgm 1216 (by decide +kernel) rfl) hj ?_
    refine s_iload_n K (k := 1) (by decide +kernel) rfl ?_
    refine Sm_callS K (idx := 495) (by decide +kernel) cy_T_lat st_T_lat (lgm 606 (by decide +kernel) rfl) ⟨Nat.le_of_ble_eq_true rfl, Nat.le_of_ble_eq_true rfl⟩ (as := [.ref (sV j), .int x1]) (st := []) rfl rfl rfl (Nat.le_of_ble_eq_true rfl) ⟨Nat.le_of_ble_eq_true rfl, Nat.le_of_ble_eq_true rfl⟩ (cn_T_lat hj hi) ?_
    refine Sm_eq (st1 := [.int ((sbyt.getD j []).getD x1.toNatClampNeg 0)]) (nc1 := 0) (ns1 := 0) rfl rfl rfl ?_
    exact Sm_retn K (sb_ok j hj _ hi.2).2 hQ (by decide +kernel)
  · cases h
end
